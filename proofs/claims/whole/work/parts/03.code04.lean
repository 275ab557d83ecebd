theorem dX9_placeOf_0 : decode cX9_placeOf 0 = .ok (.iload_n 1, 1) := by decide +kernel
theorem dX9_placeOf_1 : decode cX9_placeOf 1 = .ok (.aload_n 0, 1) := by decide +kernel
theorem dX9_placeOf_2 : decode cX9_placeOf 2 = .ok (.iconst 5, 1) := by decide +kernel
theorem dX9_placeOf_3 : decode cX9_placeOf 3 = .ok (.iaload, 1) := by decide +kernel
theorem dX9_placeOf_4 : decode cX9_placeOf 4 = .ok (.iadd, 1) := by decide +kernel
theorem dX9_placeOf_5 : decode cX9_placeOf 5 = .ok (.aload_n 0, 1) := by decide +kernel
theorem dX9_placeOf_6 : decode cX9_placeOf 6 = .ok (.bipush 21, 2) := by decide +kernel
theorem dX9_placeOf_8 : decode cX9_placeOf 8 = .ok (.iaload, 1) := by decide +kernel
theorem dX9_placeOf_9 : decode cX9_placeOf 9 = .ok (.irem, 1) := by decide +kernel
theorem dX9_placeOf_10 : decode cX9_placeOf 10 = .ok (.ireturn, 1) := by decide +kernel
theorem dX9_goTick_0 : decode cX9_goTick 0 = .ok (.aload_n 0, 1) := by decide +kernel
theorem dX9_goTick_1 : decode cX9_goTick 1 = .ok (.bipush 8, 2) := by decide +kernel
theorem dX9_goTick_3 : decode cX9_goTick 3 = .ok (.dup2, 1) := by decide +kernel
theorem dX9_goTick_4 : decode cX9_goTick 4 = .ok (.iaload, 1) := by decide +kernel
theorem dX9_goTick_5 : decode cX9_goTick 5 = .ok (.iconst 1, 1) := by decide +kernel
theorem dX9_goTick_6 : decode cX9_goTick 6 = .ok (.iadd, 1) := by decide +kernel
theorem dX9_goTick_7 : decode cX9_goTick 7 = .ok (.iastore, 1) := by decide +kernel
theorem dX9_goTick_8 : decode cX9_goTick 8 = .ok (.aload_n 0, 1) := by decide +kernel
theorem dX9_goTick_9 : decode cX9_goTick 9 = .ok (.iconst 5, 1) := by decide +kernel
theorem dX9_goTick_10 : decode cX9_goTick 10 = .ok (.aload_n 0, 1) := by decide +kernel
theorem dX9_goTick_11 : decode cX9_goTick 11 = .ok (.iconst 5, 1) := by decide +kernel
theorem dX9_goTick_12 : decode cX9_goTick 12 = .ok (.iaload, 1) := by decide +kernel
theorem dX9_goTick_13 : decode cX9_goTick 13 = .ok (.aload_n 0, 1) := by decide +kernel
theorem dX9_goTick_14 : decode cX9_goTick 14 = .ok (.bipush 6, 2) := by decide +kernel
theorem dX9_goTick_16 : decode cX9_goTick 16 = .ok (.iaload, 1) := by decide +kernel
theorem dX9_goTick_17 : decode cX9_goTick 17 = .ok (.iadd, 1) := by decide +kernel
theorem dX9_goTick_18 : decode cX9_goTick 18 = .ok (.aload_n 0, 1) := by decide +kernel
theorem dX9_goTick_19 : decode cX9_goTick 19 = .ok (.bipush 21, 2) := by decide +kernel
theorem dX9_goTick_21 : decode cX9_goTick 21 = .ok (.iaload, 1) := by decide +kernel
theorem dX9_goTick_22 : decode cX9_goTick 22 = .ok (.irem, 1) := by decide +kernel
theorem dX9_goTick_23 : decode cX9_goTick 23 = .ok (.iastore, 1) := by decide +kernel
theorem dX9_goTick_24 : decode cX9_goTick 24 = .ok (.aload_n 0, 1) := by decide +kernel
theorem dX9_goTick_25 : decode cX9_goTick 25 = .ok (.aload_n 0, 1) := by decide +kernel
theorem dX9_goTick_26 : decode cX9_goTick 26 = .ok (.bipush 21, 2) := by decide +kernel
theorem dX9_goTick_28 : decode cX9_goTick 28 = .ok (.iaload, 1) := by decide +kernel
theorem dX9_goTick_29 : decode cX9_goTick 29 = .ok (.aload_n 0, 1) := by decide +kernel
theorem dX9_goTick_30 : decode cX9_goTick 30 = .ok (.iconst 5, 1) := by decide +kernel
theorem dX9_goTick_31 : decode cX9_goTick 31 = .ok (.iaload, 1) := by decide +kernel
theorem dX9_goTick_32 : decode cX9_goTick 32 = .ok (.isub, 1) := by decide +kernel
theorem dX9_goTick_33 : decode cX9_goTick 33 = .ok (.aload_n 0, 1) := by decide +kernel
theorem dX9_goTick_34 : decode cX9_goTick 34 = .ok (.bipush 21, 2) := by decide +kernel
theorem dX9_goTick_36 : decode cX9_goTick 36 = .ok (.iaload, 1) := by decide +kernel
theorem dX9_goTick_37 : decode cX9_goTick 37 = .ok (.irem, 1) := by decide +kernel
theorem dX9_goTick_38 : decode cX9_goTick 38 = .ok (.invokestatic 89, 3) := by decide +kernel
theorem dX9_goTick_41 : decode cX9_goTick 41 = .ok (.istore_n 2, 1) := by decide +kernel
theorem dX9_goTick_42 : decode cX9_goTick 42 = .ok (.iload_n 2, 1) := by decide +kernel
theorem dX9_goTick_43 : decode cX9_goTick 43 = .ok (.iconst (-1), 1) := by decide +kernel
theorem dX9_goTick_44 : decode cX9_goTick 44 = .ok (.if_icmp .eq 19, 3) := by decide +kernel
theorem dX9_goTick_47 : decode cX9_goTick 47 = .ok (.iload_n 1, 1) := by decide +kernel
theorem dX9_goTick_48 : decode cX9_goTick 48 = .ok (.ifCond .ne 15, 3) := by decide +kernel
theorem dX9_goTick_51 : decode cX9_goTick 51 = .ok (.aload_n 0, 1) := by decide +kernel
theorem dX9_goTick_52 : decode cX9_goTick 52 = .ok (.iload_n 2, 1) := by decide +kernel
theorem dX9_goTick_53 : decode cX9_goTick 53 = .ok (.invokestatic 113, 3) := by decide +kernel
theorem dX9_goTick_56 : decode cX9_goTick 56 = .ok (.aload_n 0, 1) := by decide +kernel
theorem dX9_goTick_57 : decode cX9_goTick 57 = .ok (.bipush 7, 2) := by decide +kernel
theorem dX9_goTick_59 : decode cX9_goTick 59 = .ok (.iaload, 1) := by decide +kernel
theorem dX9_goTick_60 : decode cX9_goTick 60 = .ok (.if_icmp .ge 5, 3) := by decide +kernel
theorem dX9_goTick_63 : decode cX9_goTick 63 = .ok (.iconst (-1), 1) := by decide +kernel
theorem dX9_goTick_64 : decode cX9_goTick 64 = .ok (.ireturn, 1) := by decide +kernel
theorem dX9_goTick_65 : decode cX9_goTick 65 = .ok (.aload_n 0, 1) := by decide +kernel
theorem dX9_goTick_66 : decode cX9_goTick 66 = .ok (.bipush 9, 2) := by decide +kernel
theorem dX9_goTick_68 : decode cX9_goTick 68 = .ok (.iload_n 2, 1) := by decide +kernel
theorem dX9_goTick_69 : decode cX9_goTick 69 = .ok (.iadd, 1) := by decide +kernel
theorem dX9_goTick_70 : decode cX9_goTick 70 = .ok (.dup2, 1) := by decide +kernel
theorem dX9_goTick_71 : decode cX9_goTick 71 = .ok (.iaload, 1) := by decide +kernel
theorem dX9_goTick_72 : decode cX9_goTick 72 = .ok (.aload_n 0, 1) := by decide +kernel
theorem dX9_goTick_73 : decode cX9_goTick 73 = .ok (.bipush 9, 2) := by decide +kernel
theorem dX9_goTick_75 : decode cX9_goTick 75 = .ok (.iload_n 2, 1) := by decide +kernel
theorem dX9_goTick_76 : decode cX9_goTick 76 = .ok (.iadd, 1) := by decide +kernel
theorem dX9_goTick_77 : decode cX9_goTick 77 = .ok (.iaload, 1) := by decide +kernel
theorem dX9_goTick_78 : decode cX9_goTick 78 = .ok (.bipush 99, 2) := by decide +kernel
theorem dX9_goTick_80 : decode cX9_goTick 80 = .ok (.if_icmp .ge 7, 3) := by decide +kernel
theorem dX9_goTick_83 : decode cX9_goTick 83 = .ok (.iconst 1, 1) := by decide +kernel
theorem dX9_goTick_84 : decode cX9_goTick 84 = .ok (.goto 4, 3) := by decide +kernel
theorem dX9_goTick_87 : decode cX9_goTick 87 = .ok (.iconst 0, 1) := by decide +kernel
theorem dX9_goTick_88 : decode cX9_goTick 88 = .ok (.iadd, 1) := by decide +kernel
theorem dX9_goTick_89 : decode cX9_goTick 89 = .ok (.iastore, 1) := by decide +kernel
theorem dX9_goTick_90 : decode cX9_goTick 90 = .ok (.aload_n 0, 1) := by decide +kernel
theorem dX9_goTick_91 : decode cX9_goTick 91 = .ok (.bipush 7, 2) := by decide +kernel
theorem dX9_goTick_93 : decode cX9_goTick 93 = .ok (.dup2, 1) := by decide +kernel
theorem dX9_goTick_94 : decode cX9_goTick 94 = .ok (.iaload, 1) := by decide +kernel
theorem dX9_goTick_95 : decode cX9_goTick 95 = .ok (.aload_n 0, 1) := by decide +kernel
theorem dX9_goTick_96 : decode cX9_goTick 96 = .ok (.bipush 7, 2) := by decide +kernel
theorem dX9_goTick_98 : decode cX9_goTick 98 = .ok (.iaload, 1) := by decide +kernel
theorem dX9_goTick_99 : decode cX9_goTick 99 = .ok (.bipush 20, 2) := by decide +kernel
theorem dX9_goTick_101 : decode cX9_goTick 101 = .ok (.if_icmp .ge 7, 3) := by decide +kernel
theorem dX9_goTick_104 : decode cX9_goTick 104 = .ok (.iconst 1, 1) := by decide +kernel
theorem dX9_goTick_105 : decode cX9_goTick 105 = .ok (.goto 4, 3) := by decide +kernel
theorem dX9_goTick_108 : decode cX9_goTick 108 = .ok (.iconst 0, 1) := by decide +kernel
theorem dX9_goTick_109 : decode cX9_goTick 109 = .ok (.iadd, 1) := by decide +kernel
theorem dX9_goTick_110 : decode cX9_goTick 110 = .ok (.iastore, 1) := by decide +kernel
theorem dX9_goTick_111 : decode cX9_goTick 111 = .ok (.iload_n 2, 1) := by decide +kernel
theorem dX9_goTick_112 : decode cX9_goTick 112 = .ok (.ireturn, 1) := by decide +kernel
theorem dX9_goTicks_0 : decode cX9_goTicks 0 = .ok (.iconst 0, 1) := by decide +kernel
theorem dX9_goTicks_1 : decode cX9_goTicks 1 = .ok (.istore_n 2, 1) := by decide +kernel
theorem dX9_goTicks_2 : decode cX9_goTicks 2 = .ok (.iload_n 2, 1) := by decide +kernel
theorem dX9_goTicks_3 : decode cX9_goTicks 3 = .ok (.iload_n 1, 1) := by decide +kernel
theorem dX9_goTicks_4 : decode cX9_goTicks 4 = .ok (.if_icmp .ge 25, 3) := by decide +kernel
theorem dX9_goTicks_7 : decode cX9_goTicks 7 = .ok (.aload_n 0, 1) := by decide +kernel
theorem dX9_goTicks_8 : decode cX9_goTicks 8 = .ok (.bipush 8, 2) := by decide +kernel
theorem dX9_goTicks_10 : decode cX9_goTicks 10 = .ok (.iaload, 1) := by decide +kernel
theorem dX9_goTicks_11 : decode cX9_goTicks 11 = .ok (.sipush 9999, 3) := by decide +kernel
theorem dX9_goTicks_14 : decode cX9_goTicks 14 = .ok (.if_icmp .ge 15, 3) := by decide +kernel
theorem dX9_goTicks_17 : decode cX9_goTicks 17 = .ok (.aload_n 0, 1) := by decide +kernel
theorem dX9_goTicks_18 : decode cX9_goTicks 18 = .ok (.iconst 0, 1) := by decide +kernel
theorem dX9_goTicks_19 : decode cX9_goTicks 19 = .ok (.invokestatic 116, 3) := by decide +kernel
theorem dX9_goTicks_22 : decode cX9_goTicks 22 = .ok (.istore_n 3, 1) := by decide +kernel
theorem dX9_goTicks_23 : decode cX9_goTicks 23 = .ok (.iinc 2 1, 3) := by decide +kernel
theorem dX9_goTicks_26 : decode cX9_goTicks 26 = .ok (.goto (-24), 3) := by decide +kernel
theorem dX9_goTicks_29 : decode cX9_goTicks 29 = .ok (.return_, 1) := by decide +kernel
theorem dX9_save_0 : decode cX9_save 0 = .ok (.aload_n 0, 1) := by decide +kernel
theorem dX9_save_1 : decode cX9_save 1 = .ok (.getfield 7, 3) := by decide +kernel
theorem dX9_save_4 : decode cX9_save 4 = .ok (.iconst 4, 1) := by decide +kernel
theorem dX9_save_5 : decode cX9_save 5 = .ok (.iaload, 1) := by decide +kernel
theorem dX9_save_6 : decode cX9_save 6 = .ok (.bipush 8, 2) := by decide +kernel
theorem dX9_save_8 : decode cX9_save 8 = .ok (.if_icmp .ne 45, 3) := by decide +kernel
theorem dX9_save_11 : decode cX9_save 11 = .ok (.iconst 0, 1) := by decide +kernel
theorem dX9_save_12 : decode cX9_save 12 = .ok (.istore_n 1, 1) := by decide +kernel
theorem dX9_save_13 : decode cX9_save 13 = .ok (.iload_n 1, 1) := by decide +kernel
theorem dX9_save_14 : decode cX9_save 14 = .ok (.bipush 112, 2) := by decide +kernel
theorem dX9_save_16 : decode cX9_save 16 = .ok (.if_icmp .ge 29, 3) := by decide +kernel
theorem dX9_save_19 : decode cX9_save 19 = .ok (.aload_n 0, 1) := by decide +kernel
theorem dX9_save_20 : decode cX9_save 20 = .ok (.getfield 7, 3) := by decide +kernel
theorem dX9_save_23 : decode cX9_save 23 = .ok (.sipush 138, 3) := by decide +kernel
theorem dX9_save_26 : decode cX9_save 26 = .ok (.iload_n 1, 1) := by decide +kernel
theorem dX9_save_27 : decode cX9_save 27 = .ok (.iadd, 1) := by decide +kernel
theorem dX9_save_28 : decode cX9_save 28 = .ok (.aload_n 0, 1) := by decide +kernel
theorem dX9_save_29 : decode cX9_save 29 = .ok (.getfield 7, 3) := by decide +kernel
theorem dX9_save_32 : decode cX9_save 32 = .ok (.sipush 154, 3) := by decide +kernel
theorem dX9_save_35 : decode cX9_save 35 = .ok (.iload_n 1, 1) := by decide +kernel
theorem dX9_save_36 : decode cX9_save 36 = .ok (.iadd, 1) := by decide +kernel
theorem dX9_save_37 : decode cX9_save 37 = .ok (.iaload, 1) := by decide +kernel
theorem dX9_save_38 : decode cX9_save 38 = .ok (.iastore, 1) := by decide +kernel
theorem dX9_save_39 : decode cX9_save 39 = .ok (.iinc 1 1, 3) := by decide +kernel
theorem dX9_save_42 : decode cX9_save 42 = .ok (.goto (-29), 3) := by decide +kernel
theorem dX9_save_45 : decode cX9_save 45 = .ok (.aload_n 0, 1) := by decide +kernel
theorem dX9_save_46 : decode cX9_save 46 = .ok (.getfield 7, 3) := by decide +kernel
theorem dX9_save_49 : decode cX9_save 49 = .ok (.iconst 4, 1) := by decide +kernel
theorem dX9_save_50 : decode cX9_save 50 = .ok (.bipush 7, 2) := by decide +kernel
theorem dX9_save_52 : decode cX9_save 52 = .ok (.iastore, 1) := by decide +kernel
theorem dX9_save_53 : decode cX9_save 53 = .ok (.iconst 0, 1) := by decide +kernel
theorem dX9_save_54 : decode cX9_save 54 = .ok (.istore_n 1, 1) := by decide +kernel
theorem dX9_save_55 : decode cX9_save 55 = .ok (.iload_n 1, 1) := by decide +kernel
theorem dX9_save_56 : decode cX9_save 56 = .ok (.bipush 16, 2) := by decide +kernel
theorem dX9_save_58 : decode cX9_save 58 = .ok (.if_icmp .ge 37, 3) := by decide +kernel
theorem dX9_save_61 : decode cX9_save 61 = .ok (.aload_n 0, 1) := by decide +kernel
theorem dX9_save_62 : decode cX9_save 62 = .ok (.getfield 7, 3) := by decide +kernel
theorem dX9_save_65 : decode cX9_save 65 = .ok (.sipush 138, 3) := by decide +kernel
theorem dX9_save_68 : decode cX9_save 68 = .ok (.bipush 16, 2) := by decide +kernel
theorem dX9_save_70 : decode cX9_save 70 = .ok (.aload_n 0, 1) := by decide +kernel
theorem dX9_save_71 : decode cX9_save 71 = .ok (.getfield 7, 3) := by decide +kernel
theorem dX9_save_74 : decode cX9_save 74 = .ok (.iconst 4, 1) := by decide +kernel
theorem dX9_save_75 : decode cX9_save 75 = .ok (.iaload, 1) := by decide +kernel
theorem dX9_save_76 : decode cX9_save 76 = .ok (.imul, 1) := by decide +kernel
theorem dX9_save_77 : decode cX9_save 77 = .ok (.iadd, 1) := by decide +kernel
theorem dX9_save_78 : decode cX9_save 78 = .ok (.iload_n 1, 1) := by decide +kernel
theorem dX9_save_79 : decode cX9_save 79 = .ok (.iadd, 1) := by decide +kernel
theorem dX9_save_80 : decode cX9_save 80 = .ok (.aload_n 0, 1) := by decide +kernel
theorem dX9_save_81 : decode cX9_save 81 = .ok (.getfield 7, 3) := by decide +kernel
theorem dX9_save_84 : decode cX9_save 84 = .ok (.iconst 5, 1) := by decide +kernel
theorem dX9_save_85 : decode cX9_save 85 = .ok (.iload_n 1, 1) := by decide +kernel
theorem dX9_save_86 : decode cX9_save 86 = .ok (.iadd, 1) := by decide +kernel
theorem dX9_save_87 : decode cX9_save 87 = .ok (.iaload, 1) := by decide +kernel
theorem dX9_save_88 : decode cX9_save 88 = .ok (.iastore, 1) := by decide +kernel
theorem dX9_save_89 : decode cX9_save 89 = .ok (.iinc 1 1, 3) := by decide +kernel
theorem dX9_save_92 : decode cX9_save 92 = .ok (.goto (-37), 3) := by decide +kernel
theorem dX9_save_95 : decode cX9_save 95 = .ok (.aload_n 0, 1) := by decide +kernel
theorem dX9_save_96 : decode cX9_save 96 = .ok (.getfield 7, 3) := by decide +kernel
theorem dX9_save_99 : decode cX9_save 99 = .ok (.iconst 4, 1) := by decide +kernel
theorem dX9_save_100 : decode cX9_save 100 = .ok (.dup2, 1) := by decide +kernel
theorem dX9_save_101 : decode cX9_save 101 = .ok (.iaload, 1) := by decide +kernel
theorem dX9_save_102 : decode cX9_save 102 = .ok (.iconst 1, 1) := by decide +kernel
theorem dX9_save_103 : decode cX9_save 103 = .ok (.iadd, 1) := by decide +kernel
theorem dX9_save_104 : decode cX9_save 104 = .ok (.iastore, 1) := by decide +kernel
theorem dX9_save_105 : decode cX9_save 105 = .ok (.return_, 1) := by decide +kernel
theorem dX9_ticks_0 : decode cX9_ticks 0 = .ok (.iload_n 1, 1) := by decide +kernel
theorem dX9_ticks_1 : decode cX9_ticks 1 = .ok (.i2l, 1) := by decide +kernel
theorem dX9_ticks_2 : decode cX9_ticks 2 = .ok (.lconst 1, 1) := by decide +kernel
theorem dX9_ticks_3 : decode cX9_ticks 3 = .ok (.ldc2_w 120, 3) := by decide +kernel
theorem dX9_ticks_6 : decode cX9_ticks 6 = .ok (.invokestatic 53, 3) := by decide +kernel
theorem dX9_ticks_9 : decode cX9_ticks 9 = .ok (.ifCond .ne 10, 3) := by decide +kernel
theorem dX9_ticks_12 : decode cX9_ticks 12 = .ok (.aload_n 0, 1) := by decide +kernel
theorem dX9_ticks_13 : decode cX9_ticks 13 = .ok (.bipush (-2), 2) := by decide +kernel
theorem dX9_ticks_15 : decode cX9_ticks 15 = .ok (.invokevirtual 73, 3) := by decide +kernel
theorem dX9_ticks_18 : decode cX9_ticks 18 = .ok (.ireturn, 1) := by decide +kernel
theorem dX9_ticks_19 : decode cX9_ticks 19 = .ok (.aload_n 0, 1) := by decide +kernel
theorem dX9_ticks_20 : decode cX9_ticks 20 = .ok (.invokevirtual 122, 3) := by decide +kernel
theorem dX9_ticks_23 : decode cX9_ticks 23 = .ok (.aload_n 0, 1) := by decide +kernel
theorem dX9_ticks_24 : decode cX9_ticks 24 = .ok (.getfield 7, 3) := by decide +kernel
theorem dX9_ticks_27 : decode cX9_ticks 27 = .ok (.iload_n 1, 1) := by decide +kernel
theorem dX9_ticks_28 : decode cX9_ticks 28 = .ok (.invokestatic 125, 3) := by decide +kernel
theorem dX9_ticks_31 : decode cX9_ticks 31 = .ok (.aload_n 0, 1) := by decide +kernel
theorem dX9_ticks_32 : decode cX9_ticks 32 = .ok (.getfield 7, 3) := by decide +kernel
theorem dX9_ticks_35 : decode cX9_ticks 35 = .ok (.iconst 5, 1) := by decide +kernel
theorem dX9_ticks_36 : decode cX9_ticks 36 = .ok (.iaload, 1) := by decide +kernel
theorem dX9_ticks_37 : decode cX9_ticks 37 = .ok (.ireturn, 1) := by decide +kernel
theorem dX9_speed_0 : decode cX9_speed 0 = .ok (.iload_n 1, 1) := by decide +kernel
theorem dX9_speed_1 : decode cX9_speed 1 = .ok (.invokestatic 69, 3) := by decide +kernel
theorem dX9_speed_4 : decode cX9_speed 4 = .ok (.ifCond .ne 10, 3) := by decide +kernel
theorem dX9_speed_7 : decode cX9_speed 7 = .ok (.aload_n 0, 1) := by decide +kernel
theorem dX9_speed_8 : decode cX9_speed 8 = .ok (.bipush (-2), 2) := by decide +kernel
theorem dX9_speed_10 : decode cX9_speed 10 = .ok (.invokevirtual 73, 3) := by decide +kernel
theorem dX9_speed_13 : decode cX9_speed 13 = .ok (.ireturn, 1) := by decide +kernel
theorem dX9_speed_14 : decode cX9_speed 14 = .ok (.aload_n 0, 1) := by decide +kernel
theorem dX9_speed_15 : decode cX9_speed 15 = .ok (.getfield 7, 3) := by decide +kernel
theorem dX9_speed_18 : decode cX9_speed 18 = .ok (.bipush 6, 2) := by decide +kernel
theorem dX9_speed_20 : decode cX9_speed 20 = .ok (.iaload, 1) := by decide +kernel
theorem dX9_speed_21 : decode cX9_speed 21 = .ok (.istore_n 2, 1) := by decide +kernel
theorem dX9_speed_22 : decode cX9_speed 22 = .ok (.iload_n 2, 1) := by decide +kernel
theorem dX9_speed_23 : decode cX9_speed 23 = .ok (.iload_n 1, 1) := by decide +kernel
theorem dX9_speed_24 : decode cX9_speed 24 = .ok (.if_icmp .ne 8, 3) := by decide +kernel
theorem dX9_speed_27 : decode cX9_speed 27 = .ok (.aload_n 0, 1) := by decide +kernel
theorem dX9_speed_28 : decode cX9_speed 28 = .ok (.invokevirtual 93, 3) := by decide +kernel
theorem dX9_speed_31 : decode cX9_speed 31 = .ok (.ireturn, 1) := by decide +kernel
theorem dX9_speed_32 : decode cX9_speed 32 = .ok (.aload_n 0, 1) := by decide +kernel
theorem dX9_speed_33 : decode cX9_speed 33 = .ok (.invokevirtual 122, 3) := by decide +kernel
theorem dX9_speed_36 : decode cX9_speed 36 = .ok (.aload_n 0, 1) := by decide +kernel
theorem dX9_speed_37 : decode cX9_speed 37 = .ok (.getfield 7, 3) := by decide +kernel
theorem dX9_speed_40 : decode cX9_speed 40 = .ok (.bipush 6, 2) := by decide +kernel
theorem dX9_speed_42 : decode cX9_speed 42 = .ok (.iload_n 1, 1) := by decide +kernel
theorem dX9_speed_43 : decode cX9_speed 43 = .ok (.iastore, 1) := by decide +kernel
theorem dX9_speed_44 : decode cX9_speed 44 = .ok (.iload_n 2, 1) := by decide +kernel
theorem dX9_speed_45 : decode cX9_speed 45 = .ok (.ireturn, 1) := by decide +kernel
theorem dX9_changes_0 : decode cX9_changes 0 = .ok (.aload_n 0, 1) := by decide +kernel
theorem dX9_changes_1 : decode cX9_changes 1 = .ok (.iload_n 1, 1) := by decide +kernel
theorem dX9_changes_2 : decode cX9_changes 2 = .ok (.invokevirtual 129, 3) := by decide +kernel
theorem dX9_changes_5 : decode cX9_changes 5 = .ok (.ifCond .eq 11, 3) := by decide +kernel
theorem dX9_changes_8 : decode cX9_changes 8 = .ok (.aload_n 0, 1) := by decide +kernel
theorem dX9_changes_9 : decode cX9_changes 9 = .ok (.iload_n 2, 1) := by decide +kernel
theorem dX9_changes_10 : decode cX9_changes 10 = .ok (.invokevirtual 77, 3) := by decide +kernel
theorem dX9_changes_13 : decode cX9_changes 13 = .ok (.ifCond .ne 10, 3) := by decide +kernel
theorem dX9_changes_16 : decode cX9_changes 16 = .ok (.aload_n 0, 1) := by decide +kernel
theorem dX9_changes_17 : decode cX9_changes 17 = .ok (.bipush (-2), 2) := by decide +kernel
theorem dX9_changes_19 : decode cX9_changes 19 = .ok (.invokevirtual 73, 3) := by decide +kernel
theorem dX9_changes_22 : decode cX9_changes 22 = .ok (.ireturn, 1) := by decide +kernel
theorem dX9_changes_23 : decode cX9_changes 23 = .ok (.aload_n 0, 1) := by decide +kernel
theorem dX9_changes_24 : decode cX9_changes 24 = .ok (.getfield 7, 3) := by decide +kernel
theorem dX9_changes_27 : decode cX9_changes 27 = .ok (.iload_n 2, 1) := by decide +kernel
theorem dX9_changes_28 : decode cX9_changes 28 = .ok (.invokestatic 89, 3) := by decide +kernel
theorem dX9_changes_31 : decode cX9_changes 31 = .ok (.iconst (-1), 1) := by decide +kernel
theorem dX9_changes_32 : decode cX9_changes 32 = .ok (.if_icmp .eq 8, 3) := by decide +kernel
theorem dX9_changes_35 : decode cX9_changes 35 = .ok (.aload_n 0, 1) := by decide +kernel
theorem dX9_changes_36 : decode cX9_changes 36 = .ok (.invokevirtual 93, 3) := by decide +kernel
theorem dX9_changes_39 : decode cX9_changes 39 = .ok (.ireturn, 1) := by decide +kernel
theorem dX9_changes_40 : decode cX9_changes 40 = .ok (.aload_n 0, 1) := by decide +kernel
theorem dX9_changes_41 : decode cX9_changes 41 = .ok (.getfield 7, 3) := by decide +kernel
theorem dX9_changes_44 : decode cX9_changes 44 = .ok (.bipush 15, 2) := by decide +kernel
theorem dX9_changes_46 : decode cX9_changes 46 = .ok (.iload_n 1, 1) := by decide +kernel
theorem dX9_changes_47 : decode cX9_changes 47 = .ok (.iadd, 1) := by decide +kernel
theorem dX9_changes_48 : decode cX9_changes 48 = .ok (.iaload, 1) := by decide +kernel
theorem dX9_changes_49 : decode cX9_changes 49 = .ok (.istore_n 3, 1) := by decide +kernel
theorem dX9_changes_50 : decode cX9_changes 50 = .ok (.aload_n 0, 1) := by decide +kernel
theorem dX9_changes_51 : decode cX9_changes 51 = .ok (.invokevirtual 122, 3) := by decide +kernel
theorem dX9_changes_54 : decode cX9_changes 54 = .ok (.aload_n 0, 1) := by decide +kernel
theorem dX9_changes_55 : decode cX9_changes 55 = .ok (.getfield 7, 3) := by decide +kernel
theorem dX9_changes_58 : decode cX9_changes 58 = .ok (.bipush 15, 2) := by decide +kernel
theorem dX9_changes_60 : decode cX9_changes 60 = .ok (.iload_n 1, 1) := by decide +kernel
theorem dX9_changes_61 : decode cX9_changes 61 = .ok (.iadd, 1) := by decide +kernel
theorem dX9_changes_62 : decode cX9_changes 62 = .ok (.iload_n 2, 1) := by decide +kernel
theorem dX9_changes_63 : decode cX9_changes 63 = .ok (.iastore, 1) := by decide +kernel
theorem dX9_changes_64 : decode cX9_changes 64 = .ok (.iload_n 3, 1) := by decide +kernel
theorem dX9_changes_65 : decode cX9_changes 65 = .ok (.ireturn, 1) := by decide +kernel
theorem dX9_hangs_0 : decode cX9_hangs 0 = .ok (.iload_n 1, 1) := by decide +kernel
theorem dX9_hangs_1 : decode cX9_hangs 1 = .ok (.i2l, 1) := by decide +kernel
theorem dX9_hangs_2 : decode cX9_hangs 2 = .ok (.lconst 0, 1) := by decide +kernel
theorem dX9_hangs_3 : decode cX9_hangs 3 = .ok (.ldc2_w 132, 3) := by decide +kernel
theorem dX9_hangs_6 : decode cX9_hangs 6 = .ok (.invokestatic 53, 3) := by decide +kernel
theorem dX9_hangs_9 : decode cX9_hangs 9 = .ok (.ifCond .ne 10, 3) := by decide +kernel
theorem dX9_hangs_12 : decode cX9_hangs 12 = .ok (.aload_n 0, 1) := by decide +kernel
theorem dX9_hangs_13 : decode cX9_hangs 13 = .ok (.bipush (-2), 2) := by decide +kernel
theorem dX9_hangs_15 : decode cX9_hangs 15 = .ok (.invokevirtual 73, 3) := by decide +kernel
theorem dX9_hangs_18 : decode cX9_hangs 18 = .ok (.ireturn, 1) := by decide +kernel
theorem dX9_hangs_19 : decode cX9_hangs 19 = .ok (.aload_n 0, 1) := by decide +kernel
theorem dX9_hangs_20 : decode cX9_hangs 20 = .ok (.getfield 7, 3) := by decide +kernel
theorem dX9_hangs_23 : decode cX9_hangs 23 = .ok (.bipush 7, 2) := by decide +kernel
theorem dX9_hangs_25 : decode cX9_hangs 25 = .ok (.iaload, 1) := by decide +kernel
theorem dX9_hangs_26 : decode cX9_hangs 26 = .ok (.istore_n 2, 1) := by decide +kernel
theorem dX9_hangs_27 : decode cX9_hangs 27 = .ok (.iload_n 2, 1) := by decide +kernel
theorem dX9_hangs_28 : decode cX9_hangs 28 = .ok (.iload_n 1, 1) := by decide +kernel
theorem dX9_hangs_29 : decode cX9_hangs 29 = .ok (.if_icmp .ne 8, 3) := by decide +kernel
theorem dX9_hangs_32 : decode cX9_hangs 32 = .ok (.aload_n 0, 1) := by decide +kernel
theorem dX9_hangs_33 : decode cX9_hangs 33 = .ok (.invokevirtual 93, 3) := by decide +kernel
theorem dX9_hangs_36 : decode cX9_hangs 36 = .ok (.ireturn, 1) := by decide +kernel
theorem dX9_hangs_37 : decode cX9_hangs 37 = .ok (.aload_n 0, 1) := by decide +kernel
theorem dX9_hangs_38 : decode cX9_hangs 38 = .ok (.invokevirtual 122, 3) := by decide +kernel
theorem dX9_hangs_41 : decode cX9_hangs 41 = .ok (.aload_n 0, 1) := by decide +kernel
theorem dX9_hangs_42 : decode cX9_hangs 42 = .ok (.getfield 7, 3) := by decide +kernel
theorem dX9_hangs_45 : decode cX9_hangs 45 = .ok (.bipush 7, 2) := by decide +kernel
theorem dX9_hangs_47 : decode cX9_hangs 47 = .ok (.iload_n 1, 1) := by decide +kernel
theorem dX9_hangs_48 : decode cX9_hangs 48 = .ok (.iastore, 1) := by decide +kernel
theorem dX9_hangs_49 : decode cX9_hangs 49 = .ok (.iload_n 2, 1) := by decide +kernel
theorem dX9_hangs_50 : decode cX9_hangs 50 = .ok (.ireturn, 1) := by decide +kernel
theorem dX9_undo_0 : decode cX9_undo 0 = .ok (.aload_n 0, 1) := by decide +kernel
theorem dX9_undo_1 : decode cX9_undo 1 = .ok (.getfield 7, 3) := by decide +kernel
theorem dX9_undo_4 : decode cX9_undo 4 = .ok (.iconst 4, 1) := by decide +kernel
theorem dX9_undo_5 : decode cX9_undo 5 = .ok (.iaload, 1) := by decide +kernel
theorem dX9_undo_6 : decode cX9_undo 6 = .ok (.ifCond .ne 8, 3) := by decide +kernel
theorem dX9_undo_9 : decode cX9_undo 9 = .ok (.aload_n 0, 1) := by decide +kernel
theorem dX9_undo_10 : decode cX9_undo 10 = .ok (.invokevirtual 93, 3) := by decide +kernel
theorem dX9_undo_13 : decode cX9_undo 13 = .ok (.ireturn, 1) := by decide +kernel
theorem dX9_undo_14 : decode cX9_undo 14 = .ok (.aload_n 0, 1) := by decide +kernel
theorem dX9_undo_15 : decode cX9_undo 15 = .ok (.getfield 7, 3) := by decide +kernel
theorem dX9_undo_18 : decode cX9_undo 18 = .ok (.iconst 4, 1) := by decide +kernel
theorem dX9_undo_19 : decode cX9_undo 19 = .ok (.dup2, 1) := by decide +kernel
theorem dX9_undo_20 : decode cX9_undo 20 = .ok (.iaload, 1) := by decide +kernel
theorem dX9_undo_21 : decode cX9_undo 21 = .ok (.iconst 1, 1) := by decide +kernel
theorem dX9_undo_22 : decode cX9_undo 22 = .ok (.isub, 1) := by decide +kernel
theorem dX9_undo_23 : decode cX9_undo 23 = .ok (.iastore, 1) := by decide +kernel
theorem dX9_undo_24 : decode cX9_undo 24 = .ok (.iconst 0, 1) := by decide +kernel
theorem dX9_undo_25 : decode cX9_undo 25 = .ok (.istore_n 1, 1) := by decide +kernel
theorem dX9_undo_26 : decode cX9_undo 26 = .ok (.iload_n 1, 1) := by decide +kernel
theorem dX9_undo_27 : decode cX9_undo 27 = .ok (.bipush 16, 2) := by decide +kernel
theorem dX9_undo_29 : decode cX9_undo 29 = .ok (.if_icmp .ge 37, 3) := by decide +kernel
theorem dX9_undo_32 : decode cX9_undo 32 = .ok (.aload_n 0, 1) := by decide +kernel
theorem dX9_undo_33 : decode cX9_undo 33 = .ok (.getfield 7, 3) := by decide +kernel
theorem dX9_undo_36 : decode cX9_undo 36 = .ok (.iconst 5, 1) := by decide +kernel
theorem dX9_undo_37 : decode cX9_undo 37 = .ok (.iload_n 1, 1) := by decide +kernel
theorem dX9_undo_38 : decode cX9_undo 38 = .ok (.iadd, 1) := by decide +kernel
theorem dX9_undo_39 : decode cX9_undo 39 = .ok (.aload_n 0, 1) := by decide +kernel
theorem dX9_undo_40 : decode cX9_undo 40 = .ok (.getfield 7, 3) := by decide +kernel
theorem dX9_undo_43 : decode cX9_undo 43 = .ok (.sipush 138, 3) := by decide +kernel
theorem dX9_undo_46 : decode cX9_undo 46 = .ok (.bipush 16, 2) := by decide +kernel
theorem dX9_undo_48 : decode cX9_undo 48 = .ok (.aload_n 0, 1) := by decide +kernel
theorem dX9_undo_49 : decode cX9_undo 49 = .ok (.getfield 7, 3) := by decide +kernel
theorem dX9_undo_52 : decode cX9_undo 52 = .ok (.iconst 4, 1) := by decide +kernel
theorem dX9_undo_53 : decode cX9_undo 53 = .ok (.iaload, 1) := by decide +kernel
theorem dX9_undo_54 : decode cX9_undo 54 = .ok (.imul, 1) := by decide +kernel
theorem dX9_undo_55 : decode cX9_undo 55 = .ok (.iadd, 1) := by decide +kernel
theorem dX9_undo_56 : decode cX9_undo 56 = .ok (.iload_n 1, 1) := by decide +kernel
theorem dX9_undo_57 : decode cX9_undo 57 = .ok (.iadd, 1) := by decide +kernel
theorem dX9_undo_58 : decode cX9_undo 58 = .ok (.iaload, 1) := by decide +kernel
theorem dX9_undo_59 : decode cX9_undo 59 = .ok (.iastore, 1) := by decide +kernel
theorem dX9_undo_60 : decode cX9_undo 60 = .ok (.iinc 1 1, 3) := by decide +kernel
theorem dX9_undo_63 : decode cX9_undo 63 = .ok (.goto (-37), 3) := by decide +kernel
theorem dX9_undo_66 : decode cX9_undo 66 = .ok (.aload_n 0, 1) := by decide +kernel
theorem dX9_undo_67 : decode cX9_undo 67 = .ok (.getfield 7, 3) := by decide +kernel
theorem dX9_undo_70 : decode cX9_undo 70 = .ok (.bipush 8, 2) := by decide +kernel
theorem dX9_undo_72 : decode cX9_undo 72 = .ok (.iaload, 1) := by decide +kernel
theorem dX9_undo_73 : decode cX9_undo 73 = .ok (.ireturn, 1) := by decide +kernel
theorem dX9_of_0 : decode cX9_of 0 = .ok (.aload_n 0, 1) := by decide +kernel
theorem dX9_of_1 : decode cX9_of 1 = .ok (.iload_n 1, 1) := by decide +kernel
theorem dX9_of_2 : decode cX9_of 2 = .ok (.invokevirtual 129, 3) := by decide +kernel
theorem dX9_of_5 : decode cX9_of 5 = .ok (.ifCond .eq 15, 3) := by decide +kernel
theorem dX9_of_8 : decode cX9_of 8 = .ok (.iload_n 2, 1) := by decide +kernel
theorem dX9_of_9 : decode cX9_of 9 = .ok (.i2l, 1) := by decide +kernel
theorem dX9_of_10 : decode cX9_of 10 = .ok (.lconst 0, 1) := by decide +kernel
theorem dX9_of_11 : decode cX9_of 11 = .ok (.ldc2_w 134, 3) := by decide +kernel
theorem dX9_of_14 : decode cX9_of 14 = .ok (.invokestatic 53, 3) := by decide +kernel
theorem dX9_of_17 : decode cX9_of 17 = .ok (.ifCond .ne 10, 3) := by decide +kernel
theorem dX9_of_20 : decode cX9_of 20 = .ok (.aload_n 0, 1) := by decide +kernel
theorem dX9_of_21 : decode cX9_of 21 = .ok (.bipush (-2), 2) := by decide +kernel
theorem dX9_of_23 : decode cX9_of 23 = .ok (.invokevirtual 73, 3) := by decide +kernel
theorem dX9_of_26 : decode cX9_of 26 = .ok (.ireturn, 1) := by decide +kernel
theorem dX9_of_27 : decode cX9_of 27 = .ok (.aload_n 0, 1) := by decide +kernel
theorem dX9_of_28 : decode cX9_of 28 = .ok (.getfield 7, 3) := by decide +kernel
theorem dX9_of_31 : decode cX9_of 31 = .ok (.bipush 15, 2) := by decide +kernel
theorem dX9_of_33 : decode cX9_of 33 = .ok (.iload_n 1, 1) := by decide +kernel
theorem dX9_of_34 : decode cX9_of 34 = .ok (.iadd, 1) := by decide +kernel
theorem dX9_of_35 : decode cX9_of 35 = .ok (.iaload, 1) := by decide +kernel
theorem dX9_of_36 : decode cX9_of 36 = .ok (.istore_n 3, 1) := by decide +kernel
theorem dX9_of_37 : decode cX9_of 37 = .ok (.iload_n 2, 1) := by decide +kernel
theorem dX9_of_38 : decode cX9_of 38 = .ok (.tableswitch 88 0 5 #[38, 48, 58, 60, 70, 79], 38) := by decide +kernel
theorem dX9_of_76 : decode cX9_of 76 = .ok (.aload_n 0, 1) := by decide +kernel
theorem dX9_of_77 : decode cX9_of 77 = .ok (.getfield 7, 3) := by decide +kernel
theorem dX9_of_80 : decode cX9_of 80 = .ok (.bipush 22, 2) := by decide +kernel
theorem dX9_of_82 : decode cX9_of 82 = .ok (.iload_n 1, 1) := by decide +kernel
theorem dX9_of_83 : decode cX9_of 83 = .ok (.iadd, 1) := by decide +kernel
theorem dX9_of_84 : decode cX9_of 84 = .ok (.iaload, 1) := by decide +kernel
theorem dX9_of_85 : decode cX9_of 85 = .ok (.ireturn, 1) := by decide +kernel
theorem dX9_of_86 : decode cX9_of 86 = .ok (.aload_n 0, 1) := by decide +kernel
theorem dX9_of_87 : decode cX9_of 87 = .ok (.getfield 7, 3) := by decide +kernel
theorem dX9_of_90 : decode cX9_of 90 = .ok (.bipush 28, 2) := by decide +kernel
theorem dX9_of_92 : decode cX9_of 92 = .ok (.iload_n 1, 1) := by decide +kernel
theorem dX9_of_93 : decode cX9_of 93 = .ok (.iadd, 1) := by decide +kernel
theorem dX9_of_94 : decode cX9_of 94 = .ok (.iaload, 1) := by decide +kernel
theorem dX9_of_95 : decode cX9_of 95 = .ok (.ireturn, 1) := by decide +kernel
theorem dX9_of_96 : decode cX9_of 96 = .ok (.iload_n 3, 1) := by decide +kernel
theorem dX9_of_97 : decode cX9_of 97 = .ok (.ireturn, 1) := by decide +kernel
theorem dX9_of_98 : decode cX9_of 98 = .ok (.aload_n 0, 1) := by decide +kernel
theorem dX9_of_99 : decode cX9_of 99 = .ok (.getfield 7, 3) := by decide +kernel
theorem dX9_of_102 : decode cX9_of 102 = .ok (.bipush 9, 2) := by decide +kernel
theorem dX9_of_104 : decode cX9_of 104 = .ok (.iload_n 1, 1) := by decide +kernel
theorem dX9_of_105 : decode cX9_of 105 = .ok (.iadd, 1) := by decide +kernel
theorem dX9_of_106 : decode cX9_of 106 = .ok (.iaload, 1) := by decide +kernel
theorem dX9_of_107 : decode cX9_of 107 = .ok (.ireturn, 1) := by decide +kernel
theorem dX9_of_108 : decode cX9_of 108 = .ok (.aload_n 0, 1) := by decide +kernel
theorem dX9_of_109 : decode cX9_of 109 = .ok (.getfield 7, 3) := by decide +kernel
theorem dX9_of_112 : decode cX9_of 112 = .ok (.iload_n 3, 1) := by decide +kernel
theorem dX9_of_113 : decode cX9_of 113 = .ok (.invokestatic 136, 3) := by decide +kernel
theorem dX9_of_116 : decode cX9_of 116 = .ok (.ireturn, 1) := by decide +kernel
theorem dX9_of_117 : decode cX9_of 117 = .ok (.aload_n 0, 1) := by decide +kernel
theorem dX9_of_118 : decode cX9_of 118 = .ok (.getfield 7, 3) := by decide +kernel
theorem dX9_of_121 : decode cX9_of 121 = .ok (.iload_n 3, 1) := by decide +kernel
theorem dX9_of_122 : decode cX9_of 122 = .ok (.invokestatic 107, 3) := by decide +kernel
theorem dX9_of_125 : decode cX9_of 125 = .ok (.ireturn, 1) := by decide +kernel
theorem dX9_of_126 : decode cX9_of 126 = .ok (.aload_n 0, 1) := by decide +kernel
theorem dX9_of_127 : decode cX9_of 127 = .ok (.getfield 7, 3) := by decide +kernel
theorem dX9_of_130 : decode cX9_of 130 = .ok (.iload_n 1, 1) := by decide +kernel
theorem dX9_of_131 : decode cX9_of 131 = .ok (.invokestatic 113, 3) := by decide +kernel
theorem dX9_of_134 : decode cX9_of 134 = .ok (.ireturn, 1) := by decide +kernel
theorem dX9_about_0 : decode cX9_about 0 = .ok (.aload_n 0, 1) := by decide +kernel
theorem dX9_about_1 : decode cX9_about 1 = .ok (.iload_n 1, 1) := by decide +kernel
theorem dX9_about_2 : decode cX9_about 2 = .ok (.invokevirtual 77, 3) := by decide +kernel
theorem dX9_about_5 : decode cX9_about 5 = .ok (.ifCond .eq 15, 3) := by decide +kernel
theorem dX9_about_8 : decode cX9_about 8 = .ok (.iload_n 2, 1) := by decide +kernel
theorem dX9_about_9 : decode cX9_about 9 = .ok (.i2l, 1) := by decide +kernel
theorem dX9_about_10 : decode cX9_about 10 = .ok (.lconst 0, 1) := by decide +kernel
theorem dX9_about_11 : decode cX9_about 11 = .ok (.ldc2_w 59, 3) := by decide +kernel
theorem dX9_about_14 : decode cX9_about 14 = .ok (.invokestatic 53, 3) := by decide +kernel
theorem dX9_about_17 : decode cX9_about 17 = .ok (.ifCond .ne 10, 3) := by decide +kernel
theorem dX9_about_20 : decode cX9_about 20 = .ok (.aload_n 0, 1) := by decide +kernel
theorem dX9_about_21 : decode cX9_about 21 = .ok (.bipush (-2), 2) := by decide +kernel
theorem dX9_about_23 : decode cX9_about 23 = .ok (.invokevirtual 73, 3) := by decide +kernel
theorem dX9_about_26 : decode cX9_about 26 = .ok (.ireturn, 1) := by decide +kernel
theorem dX9_about_27 : decode cX9_about 27 = .ok (.iload_n 2, 1) := by decide +kernel
theorem dX9_about_28 : decode cX9_about 28 = .ok (.tableswitch 57 0 2 #[28, 38, 48], 28) := by decide +kernel
theorem dX9_about_56 : decode cX9_about 56 = .ok (.aload_n 0, 1) := by decide +kernel
theorem dX9_about_57 : decode cX9_about 57 = .ok (.getfield 7, 3) := by decide +kernel
theorem dX9_about_60 : decode cX9_about 60 = .ok (.bipush 34, 2) := by decide +kernel
theorem dX9_about_62 : decode cX9_about 62 = .ok (.iload_n 1, 1) := by decide +kernel
theorem dX9_about_63 : decode cX9_about 63 = .ok (.iadd, 1) := by decide +kernel
theorem dX9_about_64 : decode cX9_about 64 = .ok (.iaload, 1) := by decide +kernel
theorem dX9_about_65 : decode cX9_about 65 = .ok (.ireturn, 1) := by decide +kernel
theorem dX9_about_66 : decode cX9_about 66 = .ok (.aload_n 0, 1) := by decide +kernel
theorem dX9_about_67 : decode cX9_about 67 = .ok (.getfield 7, 3) := by decide +kernel
theorem dX9_about_70 : decode cX9_about 70 = .ok (.bipush 46, 2) := by decide +kernel
theorem dX9_about_72 : decode cX9_about 72 = .ok (.iload_n 1, 1) := by decide +kernel
theorem dX9_about_73 : decode cX9_about 73 = .ok (.iadd, 1) := by decide +kernel
theorem dX9_about_74 : decode cX9_about 74 = .ok (.iaload, 1) := by decide +kernel
theorem dX9_about_75 : decode cX9_about 75 = .ok (.ireturn, 1) := by decide +kernel
theorem dX9_about_76 : decode cX9_about 76 = .ok (.aload_n 0, 1) := by decide +kernel
theorem dX9_about_77 : decode cX9_about 77 = .ok (.getfield 7, 3) := by decide +kernel
theorem dX9_about_80 : decode cX9_about 80 = .ok (.iload_n 1, 1) := by decide +kernel
theorem dX9_about_81 : decode cX9_about 81 = .ok (.invokestatic 107, 3) := by decide +kernel
theorem dX9_about_84 : decode cX9_about 84 = .ok (.ireturn, 1) := by decide +kernel
theorem dX9_about_85 : decode cX9_about 85 = .ok (.aload_n 0, 1) := by decide +kernel
theorem dX9_about_86 : decode cX9_about 86 = .ok (.getfield 7, 3) := by decide +kernel
theorem dX9_about_89 : decode cX9_about 89 = .ok (.iload_n 1, 1) := by decide +kernel
theorem dX9_about_90 : decode cX9_about 90 = .ok (.invokestatic 89, 3) := by decide +kernel
theorem dX9_about_93 : decode cX9_about 93 = .ok (.ireturn, 1) := by decide +kernel
theorem dX9_layHand_0 : decode cX9_layHand 0 = .ok (.iconst 0, 1) := by decide +kernel
theorem dX9_layHand_1 : decode cX9_layHand 1 = .ok (.istore_n 1, 1) := by decide +kernel
theorem dX9_layHand_2 : decode cX9_layHand 2 = .ok (.iload_n 1, 1) := by decide +kernel
theorem dX9_layHand_3 : decode cX9_layHand 3 = .ok (.bipush 58, 2) := by decide +kernel
theorem dX9_layHand_5 : decode cX9_layHand 5 = .ok (.if_icmp .ge 21, 3) := by decide +kernel
theorem dX9_layHand_8 : decode cX9_layHand 8 = .ok (.aload_n 0, 1) := by decide +kernel
theorem dX9_layHand_9 : decode cX9_layHand 9 = .ok (.getfield 27, 3) := by decide +kernel
theorem dX9_layHand_12 : decode cX9_layHand 12 = .ok (.iload_n 1, 1) := by decide +kernel
theorem dX9_layHand_13 : decode cX9_layHand 13 = .ok (.aload_n 0, 1) := by decide +kernel
theorem dX9_layHand_14 : decode cX9_layHand 14 = .ok (.getfield 7, 3) := by decide +kernel
theorem dX9_layHand_17 : decode cX9_layHand 17 = .ok (.iload_n 1, 1) := by decide +kernel
theorem dX9_layHand_18 : decode cX9_layHand 18 = .ok (.iaload, 1) := by decide +kernel
theorem dX9_layHand_19 : decode cX9_layHand 19 = .ok (.iastore, 1) := by decide +kernel
theorem dX9_layHand_20 : decode cX9_layHand 20 = .ok (.iinc 1 1, 3) := by decide +kernel
theorem dX9_layHand_23 : decode cX9_layHand 23 = .ok (.goto (-21), 3) := by decide +kernel
theorem dX9_layHand_26 : decode cX9_layHand 26 = .ok (.return_, 1) := by decide +kernel
theorem dX9_where_0 : decode cX9_where 0 = .ok (.aload_n 0, 1) := by decide +kernel
theorem dX9_where_1 : decode cX9_where 1 = .ok (.iload_n 1, 1) := by decide +kernel
theorem dX9_where_2 : decode cX9_where 2 = .ok (.invokevirtual 129, 3) := by decide +kernel
theorem dX9_where_5 : decode cX9_where 5 = .ok (.ifCond .eq 25, 3) := by decide +kernel
theorem dX9_where_8 : decode cX9_where 8 = .ok (.iload_n 2, 1) := by decide +kernel
theorem dX9_where_9 : decode cX9_where 9 = .ok (.i2l, 1) := by decide +kernel
theorem dX9_where_10 : decode cX9_where 10 = .ok (.lconst 0, 1) := by decide +kernel
theorem dX9_where_11 : decode cX9_where 11 = .ok (.ldc2_w 120, 3) := by decide +kernel
theorem dX9_where_14 : decode cX9_where 14 = .ok (.invokestatic 53, 3) := by decide +kernel
theorem dX9_where_17 : decode cX9_where 17 = .ok (.ifCond .eq 13, 3) := by decide +kernel
theorem dX9_where_20 : decode cX9_where 20 = .ok (.iload_n 3, 1) := by decide +kernel
theorem dX9_where_21 : decode cX9_where 21 = .ok (.i2l, 1) := by decide +kernel
theorem dX9_where_22 : decode cX9_where 22 = .ok (.lconst 0, 1) := by decide +kernel
theorem dX9_where_23 : decode cX9_where 23 = .ok (.lconst 1, 1) := by decide +kernel
theorem dX9_where_24 : decode cX9_where 24 = .ok (.invokestatic 53, 3) := by decide +kernel
theorem dX9_where_27 : decode cX9_where 27 = .ok (.ifCond .ne 10, 3) := by decide +kernel
theorem dX9_where_30 : decode cX9_where 30 = .ok (.aload_n 0, 1) := by decide +kernel
theorem dX9_where_31 : decode cX9_where 31 = .ok (.bipush (-2), 2) := by decide +kernel
theorem dX9_where_33 : decode cX9_where 33 = .ok (.invokevirtual 73, 3) := by decide +kernel
theorem dX9_where_36 : decode cX9_where 36 = .ok (.ireturn, 1) := by decide +kernel
theorem dX9_where_37 : decode cX9_where 37 = .ok (.aload_n 0, 1) := by decide +kernel
theorem dX9_where_38 : decode cX9_where 38 = .ok (.invokevirtual 139, 3) := by decide +kernel
theorem dX9_where_41 : decode cX9_where 41 = .ok (.iconst 0, 1) := by decide +kernel
theorem dX9_where_42 : decode cX9_where 42 = .ok (.istore 4, 2) := by decide +kernel
theorem dX9_where_44 : decode cX9_where 44 = .ok (.iload 4, 2) := by decide +kernel
theorem dX9_where_46 : decode cX9_where 46 = .ok (.iload_n 2, 1) := by decide +kernel
theorem dX9_where_47 : decode cX9_where 47 = .ok (.if_icmp .ge 19, 3) := by decide +kernel
theorem dX9_where_50 : decode cX9_where 50 = .ok (.aload_n 0, 1) := by decide +kernel
theorem dX9_where_51 : decode cX9_where 51 = .ok (.getfield 27, 3) := by decide +kernel
theorem dX9_where_54 : decode cX9_where 54 = .ok (.iconst 0, 1) := by decide +kernel
theorem dX9_where_55 : decode cX9_where 55 = .ok (.invokestatic 116, 3) := by decide +kernel
theorem dX9_where_58 : decode cX9_where 58 = .ok (.istore 5, 2) := by decide +kernel
theorem dX9_where_60 : decode cX9_where 60 = .ok (.iinc 4 1, 3) := by decide +kernel
theorem dX9_where_63 : decode cX9_where 63 = .ok (.goto (-19), 3) := by decide +kernel
theorem dX9_where_66 : decode cX9_where 66 = .ok (.iload_n 3, 1) := by decide +kernel
theorem dX9_where_67 : decode cX9_where 67 = .ok (.ifCond .ne 22, 3) := by decide +kernel
theorem dX9_where_70 : decode cX9_where 70 = .ok (.aload_n 0, 1) := by decide +kernel
theorem dX9_where_71 : decode cX9_where 71 = .ok (.getfield 27, 3) := by decide +kernel
theorem dX9_where_74 : decode cX9_where 74 = .ok (.aload_n 0, 1) := by decide +kernel
theorem dX9_where_75 : decode cX9_where 75 = .ok (.getfield 27, 3) := by decide +kernel
theorem dX9_where_78 : decode cX9_where 78 = .ok (.bipush 15, 2) := by decide +kernel
theorem dX9_where_80 : decode cX9_where 80 = .ok (.iload_n 1, 1) := by decide +kernel
theorem dX9_where_81 : decode cX9_where 81 = .ok (.iadd, 1) := by decide +kernel
theorem dX9_where_82 : decode cX9_where 82 = .ok (.iaload, 1) := by decide +kernel
theorem dX9_where_83 : decode cX9_where 83 = .ok (.invokestatic 136, 3) := by decide +kernel
theorem dX9_where_86 : decode cX9_where 86 = .ok (.goto 19, 3) := by decide +kernel
theorem dX9_where_89 : decode cX9_where 89 = .ok (.aload_n 0, 1) := by decide +kernel
theorem dX9_where_90 : decode cX9_where 90 = .ok (.getfield 27, 3) := by decide +kernel
theorem dX9_where_93 : decode cX9_where 93 = .ok (.aload_n 0, 1) := by decide +kernel
theorem dX9_where_94 : decode cX9_where 94 = .ok (.getfield 27, 3) := by decide +kernel
theorem dX9_where_97 : decode cX9_where 97 = .ok (.bipush 15, 2) := by decide +kernel
theorem dX9_where_99 : decode cX9_where 99 = .ok (.iload_n 1, 1) := by decide +kernel
theorem dX9_where_100 : decode cX9_where 100 = .ok (.iadd, 1) := by decide +kernel
theorem dX9_where_101 : decode cX9_where 101 = .ok (.iaload, 1) := by decide +kernel
theorem dX9_where_102 : decode cX9_where 102 = .ok (.invokestatic 107, 3) := by decide +kernel
theorem dX9_where_105 : decode cX9_where 105 = .ok (.ireturn, 1) := by decide +kernel
theorem dX9_takes_0 : decode cX9_takes 0 = .ok (.aload_n 0, 1) := by decide +kernel
theorem dX9_takes_1 : decode cX9_takes 1 = .ok (.iload_n 1, 1) := by decide +kernel
theorem dX9_takes_2 : decode cX9_takes 2 = .ok (.invokevirtual 129, 3) := by decide +kernel
theorem dX9_takes_5 : decode cX9_takes 5 = .ok (.ifCond .ne 10, 3) := by decide +kernel
theorem dX9_takes_8 : decode cX9_takes 8 = .ok (.aload_n 0, 1) := by decide +kernel
theorem dX9_takes_9 : decode cX9_takes 9 = .ok (.bipush (-2), 2) := by decide +kernel
theorem dX9_takes_11 : decode cX9_takes 11 = .ok (.invokevirtual 73, 3) := by decide +kernel
theorem dX9_takes_14 : decode cX9_takes 14 = .ok (.ireturn, 1) := by decide +kernel
theorem dX9_takes_15 : decode cX9_takes 15 = .ok (.aload_n 0, 1) := by decide +kernel
theorem dX9_takes_16 : decode cX9_takes 16 = .ok (.invokevirtual 139, 3) := by decide +kernel
theorem dX9_takes_19 : decode cX9_takes 19 = .ok (.iconst 1, 1) := by decide +kernel
theorem dX9_takes_20 : decode cX9_takes 20 = .ok (.istore_n 2, 1) := by decide +kernel
theorem dX9_takes_21 : decode cX9_takes 21 = .ok (.iload_n 2, 1) := by decide +kernel
theorem dX9_takes_22 : decode cX9_takes 22 = .ok (.bipush 60, 2) := by decide +kernel
theorem dX9_takes_24 : decode cX9_takes 24 = .ok (.if_icmp .gt 23, 3) := by decide +kernel
theorem dX9_takes_27 : decode cX9_takes 27 = .ok (.aload_n 0, 1) := by decide +kernel
theorem dX9_takes_28 : decode cX9_takes 28 = .ok (.getfield 27, 3) := by decide +kernel
theorem dX9_takes_31 : decode cX9_takes 31 = .ok (.iconst 0, 1) := by decide +kernel
theorem dX9_takes_32 : decode cX9_takes 32 = .ok (.invokestatic 116, 3) := by decide +kernel
theorem dX9_takes_35 : decode cX9_takes 35 = .ok (.iload_n 1, 1) := by decide +kernel
theorem dX9_takes_36 : decode cX9_takes 36 = .ok (.if_icmp .ne 5, 3) := by decide +kernel
theorem dX9_takes_39 : decode cX9_takes 39 = .ok (.iload_n 2, 1) := by decide +kernel
theorem dX9_takes_40 : decode cX9_takes 40 = .ok (.ireturn, 1) := by decide +kernel
theorem dX9_takes_41 : decode cX9_takes 41 = .ok (.iinc 2 1, 3) := by decide +kernel
theorem dX9_takes_44 : decode cX9_takes 44 = .ok (.goto (-23), 3) := by decide +kernel
theorem dX9_takes_47 : decode cX9_takes 47 = .ok (.iconst (-1), 1) := by decide +kernel
theorem dX9_takes_48 : decode cX9_takes 48 = .ok (.ireturn, 1) := by decide +kernel
theorem dX9_level_0 : decode cX9_level 0 = .ok (.iload_n 1, 1) := by decide +kernel
theorem dX9_level_1 : decode cX9_level 1 = .ok (.iconst (-1), 1) := by decide +kernel
theorem dX9_level_2 : decode cX9_level 2 = .ok (.if_icmp .ge 10, 3) := by decide +kernel
theorem dX9_level_5 : decode cX9_level 5 = .ok (.aload_n 0, 1) := by decide +kernel
theorem dX9_level_6 : decode cX9_level 6 = .ok (.bipush (-10), 2) := by decide +kernel
theorem dX9_level_8 : decode cX9_level 8 = .ok (.invokevirtual 73, 3) := by decide +kernel
theorem dX9_level_11 : decode cX9_level 11 = .ok (.ireturn, 1) := by decide +kernel
theorem dX9_level_12 : decode cX9_level 12 = .ok (.iconst 0, 1) := by decide +kernel
theorem dX9_level_13 : decode cX9_level 13 = .ok (.istore_n 2, 1) := by decide +kernel
theorem dX9_level_14 : decode cX9_level 14 = .ok (.iconst 0, 1) := by decide +kernel
theorem dX9_level_15 : decode cX9_level 15 = .ok (.istore_n 3, 1) := by decide +kernel
theorem dX9_level_16 : decode cX9_level 16 = .ok (.iload_n 3, 1) := by decide +kernel
theorem dX9_level_17 : decode cX9_level 17 = .ok (.aload_n 0, 1) := by decide +kernel
theorem dX9_level_18 : decode cX9_level 18 = .ok (.invokevirtual 49, 3) := by decide +kernel
theorem dX9_level_21 : decode cX9_level 21 = .ok (.if_icmp .ge 81, 3) := by decide +kernel
theorem dX9_level_24 : decode cX9_level 24 = .ok (.iload_n 3, 1) := by decide +kernel
theorem dX9_level_25 : decode cX9_level 25 = .ok (.iconst 1, 1) := by decide +kernel
theorem dX9_level_26 : decode cX9_level 26 = .ok (.iadd, 1) := by decide +kernel
theorem dX9_level_27 : decode cX9_level 27 = .ok (.istore 4, 2) := by decide +kernel
theorem dX9_level_29 : decode cX9_level 29 = .ok (.iload 4, 2) := by decide +kernel
theorem dX9_level_31 : decode cX9_level 31 = .ok (.aload_n 0, 1) := by decide +kernel
theorem dX9_level_32 : decode cX9_level 32 = .ok (.invokevirtual 49, 3) := by decide +kernel
theorem dX9_level_35 : decode cX9_level 35 = .ok (.if_icmp .ge 61, 3) := by decide +kernel
theorem dX9_level_38 : decode cX9_level 38 = .ok (.aload_n 0, 1) := by decide +kernel
theorem dX9_level_39 : decode cX9_level 39 = .ok (.getfield 7, 3) := by decide +kernel
theorem dX9_level_42 : decode cX9_level 42 = .ok (.aload_n 0, 1) := by decide +kernel
theorem dX9_level_43 : decode cX9_level 43 = .ok (.getfield 7, 3) := by decide +kernel
theorem dX9_level_46 : decode cX9_level 46 = .ok (.bipush 15, 2) := by decide +kernel
theorem dX9_level_48 : decode cX9_level 48 = .ok (.iload_n 3, 1) := by decide +kernel
theorem dX9_level_49 : decode cX9_level 49 = .ok (.iadd, 1) := by decide +kernel
theorem dX9_level_50 : decode cX9_level 50 = .ok (.iaload, 1) := by decide +kernel
theorem dX9_level_51 : decode cX9_level 51 = .ok (.invokestatic 107, 3) := by decide +kernel
theorem dX9_level_54 : decode cX9_level 54 = .ok (.aload_n 0, 1) := by decide +kernel
theorem dX9_level_55 : decode cX9_level 55 = .ok (.getfield 7, 3) := by decide +kernel
theorem dX9_level_58 : decode cX9_level 58 = .ok (.aload_n 0, 1) := by decide +kernel
theorem dX9_level_59 : decode cX9_level 59 = .ok (.getfield 7, 3) := by decide +kernel
theorem dX9_level_62 : decode cX9_level 62 = .ok (.bipush 15, 2) := by decide +kernel
theorem dX9_level_64 : decode cX9_level 64 = .ok (.iload 4, 2) := by decide +kernel
theorem dX9_level_66 : decode cX9_level 66 = .ok (.iadd, 1) := by decide +kernel
theorem dX9_level_67 : decode cX9_level 67 = .ok (.iaload, 1) := by decide +kernel
theorem dX9_level_68 : decode cX9_level 68 = .ok (.invokestatic 107, 3) := by decide +kernel
theorem dX9_level_71 : decode cX9_level 71 = .ok (.if_icmp .ne 19, 3) := by decide +kernel
theorem dX9_level_74 : decode cX9_level 74 = .ok (.iload_n 2, 1) := by decide +kernel
theorem dX9_level_75 : decode cX9_level 75 = .ok (.iload_n 1, 1) := by decide +kernel
theorem dX9_level_76 : decode cX9_level 76 = .ok (.if_icmp .ne 11, 3) := by decide +kernel
theorem dX9_level_79 : decode cX9_level 79 = .ok (.bipush 10, 2) := by decide +kernel
theorem dX9_level_81 : decode cX9_level 81 = .ok (.iload_n 3, 1) := by decide +kernel
theorem dX9_level_82 : decode cX9_level 82 = .ok (.imul, 1) := by decide +kernel
theorem dX9_level_83 : decode cX9_level 83 = .ok (.iload 4, 2) := by decide +kernel
theorem dX9_level_85 : decode cX9_level 85 = .ok (.iadd, 1) := by decide +kernel
theorem dX9_level_86 : decode cX9_level 86 = .ok (.ireturn, 1) := by decide +kernel
theorem dX9_level_87 : decode cX9_level 87 = .ok (.iinc 2 1, 3) := by decide +kernel
theorem dX9_level_90 : decode cX9_level 90 = .ok (.iinc 4 1, 3) := by decide +kernel
theorem dX9_level_93 : decode cX9_level 93 = .ok (.goto (-64), 3) := by decide +kernel
theorem dX9_level_96 : decode cX9_level 96 = .ok (.iinc 3 1, 3) := by decide +kernel
theorem dX9_level_99 : decode cX9_level 99 = .ok (.goto (-83), 3) := by decide +kernel
theorem dX9_level_102 : decode cX9_level 102 = .ok (.iload_n 1, 1) := by decide +kernel
theorem dX9_level_103 : decode cX9_level 103 = .ok (.iconst (-1), 1) := by decide +kernel
theorem dX9_level_104 : decode cX9_level 104 = .ok (.if_icmp .ne 7, 3) := by decide +kernel
theorem dX9_level_107 : decode cX9_level 107 = .ok (.iload_n 2, 1) := by decide +kernel
theorem dX9_level_108 : decode cX9_level 108 = .ok (.goto 5, 3) := by decide +kernel
theorem dX9_level_111 : decode cX9_level 111 = .ok (.bipush (-5), 2) := by decide +kernel
theorem dX9_level_113 : decode cX9_level 113 = .ok (.ireturn, 1) := by decide +kernel
theorem dX9_again_0 : decode cX9_again 0 = .ok (.aload_n 0, 1) := by decide +kernel
theorem dX9_again_1 : decode cX9_again 1 = .ok (.invokevirtual 139, 3) := by decide +kernel
theorem dX9_again_4 : decode cX9_again 4 = .ok (.iconst 1, 1) := by decide +kernel
theorem dX9_again_5 : decode cX9_again 5 = .ok (.istore_n 1, 1) := by decide +kernel
theorem dX9_again_6 : decode cX9_again 6 = .ok (.iload_n 1, 1) := by decide +kernel
theorem dX9_again_7 : decode cX9_again 7 = .ok (.bipush 60, 2) := by decide +kernel
theorem dX9_again_9 : decode cX9_again 9 = .ok (.if_icmp .gt 103, 3) := by decide +kernel
theorem dX9_again_12 : decode cX9_again 12 = .ok (.aload_n 0, 1) := by decide +kernel
theorem dX9_again_13 : decode cX9_again 13 = .ok (.getfield 27, 3) := by decide +kernel
theorem dX9_again_16 : decode cX9_again 16 = .ok (.iconst 0, 1) := by decide +kernel
theorem dX9_again_17 : decode cX9_again 17 = .ok (.invokestatic 116, 3) := by decide +kernel
theorem dX9_again_20 : decode cX9_again 20 = .ok (.istore_n 2, 1) := by decide +kernel
theorem dX9_again_21 : decode cX9_again 21 = .ok (.aload_n 0, 1) := by decide +kernel
theorem dX9_again_22 : decode cX9_again 22 = .ok (.getfield 27, 3) := by decide +kernel
theorem dX9_again_25 : decode cX9_again 25 = .ok (.iconst 5, 1) := by decide +kernel
theorem dX9_again_26 : decode cX9_again 26 = .ok (.iaload, 1) := by decide +kernel
theorem dX9_again_27 : decode cX9_again 27 = .ok (.aload_n 0, 1) := by decide +kernel
theorem dX9_again_28 : decode cX9_again 28 = .ok (.getfield 7, 3) := by decide +kernel
theorem dX9_again_31 : decode cX9_again 31 = .ok (.iconst 5, 1) := by decide +kernel
theorem dX9_again_32 : decode cX9_again 32 = .ok (.iaload, 1) := by decide +kernel
theorem dX9_again_33 : decode cX9_again 33 = .ok (.if_icmp .ne 14, 3) := by decide +kernel
theorem dX9_again_36 : decode cX9_again 36 = .ok (.iload_n 1, 1) := by decide +kernel
theorem dX9_again_37 : decode cX9_again 37 = .ok (.bipush 8, 2) := by decide +kernel
theorem dX9_again_39 : decode cX9_again 39 = .ok (.irem, 1) := by decide +kernel
theorem dX9_again_40 : decode cX9_again 40 = .ok (.ifCond .ne 7, 3) := by decide +kernel
theorem dX9_again_43 : decode cX9_again 43 = .ok (.iconst 1, 1) := by decide +kernel
theorem dX9_again_44 : decode cX9_again 44 = .ok (.goto 4, 3) := by decide +kernel
theorem dX9_again_47 : decode cX9_again 47 = .ok (.iconst 0, 1) := by decide +kernel
theorem dX9_again_48 : decode cX9_again 48 = .ok (.istore_n 3, 1) := by decide +kernel
theorem dX9_again_49 : decode cX9_again 49 = .ok (.iconst 0, 1) := by decide +kernel
theorem dX9_again_50 : decode cX9_again 50 = .ok (.istore 4, 2) := by decide +kernel
theorem dX9_again_52 : decode cX9_again 52 = .ok (.iload 4, 2) := by decide +kernel
theorem dX9_again_54 : decode cX9_again 54 = .ok (.aload_n 0, 1) := by decide +kernel
theorem dX9_again_55 : decode cX9_again 55 = .ok (.invokevirtual 49, 3) := by decide +kernel
theorem dX9_again_58 : decode cX9_again 58 = .ok (.if_icmp .ge 42, 3) := by decide +kernel
theorem dX9_again_61 : decode cX9_again 61 = .ok (.iload_n 3, 1) := by decide +kernel
theorem dX9_again_62 : decode cX9_again 62 = .ok (.ifCond .eq 30, 3) := by decide +kernel
theorem dX9_again_65 : decode cX9_again 65 = .ok (.aload_n 0, 1) := by decide +kernel
theorem dX9_again_66 : decode cX9_again 66 = .ok (.getfield 27, 3) := by decide +kernel
theorem dX9_again_69 : decode cX9_again 69 = .ok (.bipush 9, 2) := by decide +kernel
theorem dX9_again_71 : decode cX9_again 71 = .ok (.iload 4, 2) := by decide +kernel
theorem dX9_again_73 : decode cX9_again 73 = .ok (.iadd, 1) := by decide +kernel
theorem dX9_again_74 : decode cX9_again 74 = .ok (.iaload, 1) := by decide +kernel
theorem dX9_again_75 : decode cX9_again 75 = .ok (.aload_n 0, 1) := by decide +kernel
theorem dX9_again_76 : decode cX9_again 76 = .ok (.getfield 7, 3) := by decide +kernel
theorem dX9_again_79 : decode cX9_again 79 = .ok (.bipush 9, 2) := by decide +kernel
theorem dX9_again_81 : decode cX9_again 81 = .ok (.iload 4, 2) := by decide +kernel
theorem dX9_again_83 : decode cX9_again 83 = .ok (.iadd, 1) := by decide +kernel
theorem dX9_again_84 : decode cX9_again 84 = .ok (.iaload, 1) := by decide +kernel
theorem dX9_again_85 : decode cX9_again 85 = .ok (.if_icmp .ne 7, 3) := by decide +kernel
theorem dX9_again_88 : decode cX9_again 88 = .ok (.iconst 1, 1) := by decide +kernel
theorem dX9_again_89 : decode cX9_again 89 = .ok (.goto 4, 3) := by decide +kernel
theorem dX9_again_92 : decode cX9_again 92 = .ok (.iconst 0, 1) := by decide +kernel
theorem dX9_again_93 : decode cX9_again 93 = .ok (.istore_n 3, 1) := by decide +kernel
theorem dX9_again_94 : decode cX9_again 94 = .ok (.iinc 4 1, 3) := by decide +kernel
theorem dX9_again_97 : decode cX9_again 97 = .ok (.goto (-45), 3) := by decide +kernel
theorem dX9_again_100 : decode cX9_again 100 = .ok (.iload_n 3, 1) := by decide +kernel
theorem dX9_again_101 : decode cX9_again 101 = .ok (.ifCond .eq 5, 3) := by decide +kernel
theorem dX9_again_104 : decode cX9_again 104 = .ok (.iload_n 1, 1) := by decide +kernel
theorem dX9_again_105 : decode cX9_again 105 = .ok (.ireturn, 1) := by decide +kernel
theorem dX9_again_106 : decode cX9_again 106 = .ok (.iinc 1 1, 3) := by decide +kernel
theorem dX9_again_109 : decode cX9_again 109 = .ok (.goto (-103), 3) := by decide +kernel
theorem dX9_again_112 : decode cX9_again 112 = .ok (.iconst (-1), 1) := by decide +kernel
theorem dX9_again_113 : decode cX9_again 113 = .ok (.ireturn, 1) := by decide +kernel
theorem dX9_taken_0 : decode cX9_taken 0 = .ok (.iconst 0, 1) := by decide +kernel
theorem dX9_taken_1 : decode cX9_taken 1 = .ok (.istore_n 3, 1) := by decide +kernel
theorem dX9_taken_2 : decode cX9_taken 2 = .ok (.iconst 0, 1) := by decide +kernel
theorem dX9_taken_3 : decode cX9_taken 3 = .ok (.istore 4, 2) := by decide +kernel
theorem dX9_taken_5 : decode cX9_taken 5 = .ok (.iload 4, 2) := by decide +kernel
theorem dX9_taken_7 : decode cX9_taken 7 = .ok (.iload_n 2, 1) := by decide +kernel
theorem dX9_taken_8 : decode cX9_taken 8 = .ok (.if_icmp .ge 29, 3) := by decide +kernel
theorem dX9_taken_11 : decode cX9_taken 11 = .ok (.iload_n 3, 1) := by decide +kernel
theorem dX9_taken_12 : decode cX9_taken 12 = .ok (.aload_n 0, 1) := by decide +kernel
theorem dX9_taken_13 : decode cX9_taken 13 = .ok (.getfield 27, 3) := by decide +kernel
theorem dX9_taken_16 : decode cX9_taken 16 = .ok (.iconst 0, 1) := by decide +kernel
theorem dX9_taken_17 : decode cX9_taken 17 = .ok (.invokestatic 116, 3) := by decide +kernel
theorem dX9_taken_20 : decode cX9_taken 20 = .ok (.iload_n 1, 1) := by decide +kernel
theorem dX9_taken_21 : decode cX9_taken 21 = .ok (.if_icmp .ne 7, 3) := by decide +kernel
theorem dX9_taken_24 : decode cX9_taken 24 = .ok (.iconst 1, 1) := by decide +kernel
theorem dX9_taken_25 : decode cX9_taken 25 = .ok (.goto 4, 3) := by decide +kernel
theorem dX9_taken_28 : decode cX9_taken 28 = .ok (.iconst 0, 1) := by decide +kernel
theorem dX9_taken_29 : decode cX9_taken 29 = .ok (.iadd, 1) := by decide +kernel
theorem dX9_taken_30 : decode cX9_taken 30 = .ok (.istore_n 3, 1) := by decide +kernel
theorem dX9_taken_31 : decode cX9_taken 31 = .ok (.iinc 4 1, 3) := by decide +kernel
theorem dX9_taken_34 : decode cX9_taken 34 = .ok (.goto (-29), 3) := by decide +kernel
theorem dX9_taken_37 : decode cX9_taken 37 = .ok (.iload_n 3, 1) := by decide +kernel
theorem dX9_taken_38 : decode cX9_taken 38 = .ok (.ireturn, 1) := by decide +kernel
theorem dX9_fast_0 : decode cX9_fast 0 = .ok (.aload_n 0, 1) := by decide +kernel
theorem dX9_fast_1 : decode cX9_fast 1 = .ok (.iload_n 1, 1) := by decide +kernel
theorem dX9_fast_2 : decode cX9_fast 2 = .ok (.invokevirtual 129, 3) := by decide +kernel
theorem dX9_fast_5 : decode cX9_fast 5 = .ok (.ifCond .eq 25, 3) := by decide +kernel
theorem dX9_fast_8 : decode cX9_fast 8 = .ok (.iload_n 2, 1) := by decide +kernel
theorem dX9_fast_9 : decode cX9_fast 9 = .ok (.i2l, 1) := by decide +kernel
theorem dX9_fast_10 : decode cX9_fast 10 = .ok (.lconst 1, 1) := by decide +kernel
theorem dX9_fast_11 : decode cX9_fast 11 = .ok (.ldc2_w 120, 3) := by decide +kernel
theorem dX9_fast_14 : decode cX9_fast 14 = .ok (.invokestatic 53, 3) := by decide +kernel
theorem dX9_fast_17 : decode cX9_fast 17 = .ok (.ifCond .eq 13, 3) := by decide +kernel
theorem dX9_fast_20 : decode cX9_fast 20 = .ok (.iload_n 3, 1) := by decide +kernel
theorem dX9_fast_21 : decode cX9_fast 21 = .ok (.i2l, 1) := by decide +kernel
theorem dX9_fast_22 : decode cX9_fast 22 = .ok (.lconst 0, 1) := by decide +kernel
theorem dX9_fast_23 : decode cX9_fast 23 = .ok (.lconst 1, 1) := by decide +kernel
theorem dX9_fast_24 : decode cX9_fast 24 = .ok (.invokestatic 53, 3) := by decide +kernel
theorem dX9_fast_27 : decode cX9_fast 27 = .ok (.ifCond .ne 10, 3) := by decide +kernel
theorem dX9_fast_30 : decode cX9_fast 30 = .ok (.aload_n 0, 1) := by decide +kernel
theorem dX9_fast_31 : decode cX9_fast 31 = .ok (.bipush (-2), 2) := by decide +kernel
theorem dX9_fast_33 : decode cX9_fast 33 = .ok (.invokevirtual 73, 3) := by decide +kernel
theorem dX9_fast_36 : decode cX9_fast 36 = .ok (.ireturn, 1) := by decide +kernel
theorem dX9_fast_37 : decode cX9_fast 37 = .ok (.iconst (-1), 1) := by decide +kernel
theorem dX9_fast_38 : decode cX9_fast 38 = .ok (.istore 4, 2) := by decide +kernel
theorem dX9_fast_40 : decode cX9_fast 40 = .ok (.iconst (-1), 1) := by decide +kernel
theorem dX9_fast_41 : decode cX9_fast 41 = .ok (.istore 5, 2) := by decide +kernel
theorem dX9_fast_43 : decode cX9_fast 43 = .ok (.iconst 0, 1) := by decide +kernel
theorem dX9_fast_44 : decode cX9_fast 44 = .ok (.istore 6, 2) := by decide +kernel
theorem dX9_fast_46 : decode cX9_fast 46 = .ok (.iload 6, 2) := by decide +kernel
theorem dX9_fast_48 : decode cX9_fast 48 = .ok (.iconst 4, 1) := by decide +kernel
theorem dX9_fast_49 : decode cX9_fast 49 = .ok (.if_icmp .ge 62, 3) := by decide +kernel
theorem dX9_fast_52 : decode cX9_fast 52 = .ok (.aload_n 0, 1) := by decide +kernel
theorem dX9_fast_53 : decode cX9_fast 53 = .ok (.invokevirtual 139, 3) := by decide +kernel
theorem dX9_fast_56 : decode cX9_fast 56 = .ok (.aload_n 0, 1) := by decide +kernel
theorem dX9_fast_57 : decode cX9_fast 57 = .ok (.getfield 27, 3) := by decide +kernel
theorem dX9_fast_60 : decode cX9_fast 60 = .ok (.bipush 6, 2) := by decide +kernel
theorem dX9_fast_62 : decode cX9_fast 62 = .ok (.iload 6, 2) := by decide +kernel
theorem dX9_fast_64 : decode cX9_fast 64 = .ok (.iastore, 1) := by decide +kernel
theorem dX9_fast_65 : decode cX9_fast 65 = .ok (.aload_n 0, 1) := by decide +kernel
theorem dX9_fast_66 : decode cX9_fast 66 = .ok (.iload_n 1, 1) := by decide +kernel
theorem dX9_fast_67 : decode cX9_fast 67 = .ok (.iload_n 2, 1) := by decide +kernel
theorem dX9_fast_68 : decode cX9_fast 68 = .ok (.invokevirtual 142, 3) := by decide +kernel
theorem dX9_fast_71 : decode cX9_fast 71 = .ok (.istore 7, 2) := by decide +kernel
theorem dX9_fast_73 : decode cX9_fast 73 = .ok (.iload 7, 2) := by decide +kernel
theorem dX9_fast_75 : decode cX9_fast 75 = .ok (.iload 5, 2) := by decide +kernel
theorem dX9_fast_77 : decode cX9_fast 77 = .ok (.if_icmp .le 8, 3) := by decide +kernel
theorem dX9_fast_80 : decode cX9_fast 80 = .ok (.iload 6, 2) := by decide +kernel
theorem dX9_fast_82 : decode cX9_fast 82 = .ok (.goto 5, 3) := by decide +kernel
theorem dX9_fast_85 : decode cX9_fast 85 = .ok (.iload 4, 2) := by decide +kernel
theorem dX9_fast_87 : decode cX9_fast 87 = .ok (.istore 4, 2) := by decide +kernel
theorem dX9_fast_89 : decode cX9_fast 89 = .ok (.iload 7, 2) := by decide +kernel
theorem dX9_fast_91 : decode cX9_fast 91 = .ok (.iload 5, 2) := by decide +kernel
theorem dX9_fast_93 : decode cX9_fast 93 = .ok (.if_icmp .le 8, 3) := by decide +kernel
theorem dX9_fast_96 : decode cX9_fast 96 = .ok (.iload 7, 2) := by decide +kernel
theorem dX9_fast_98 : decode cX9_fast 98 = .ok (.goto 5, 3) := by decide +kernel
theorem dX9_fast_101 : decode cX9_fast 101 = .ok (.iload 5, 2) := by decide +kernel
theorem dX9_fast_103 : decode cX9_fast 103 = .ok (.istore 5, 2) := by decide +kernel
theorem dX9_fast_105 : decode cX9_fast 105 = .ok (.iinc 6 1, 3) := by decide +kernel
theorem dX9_fast_108 : decode cX9_fast 108 = .ok (.goto (-62), 3) := by decide +kernel
theorem dX9_fast_111 : decode cX9_fast 111 = .ok (.iload_n 3, 1) := by decide +kernel
theorem dX9_fast_112 : decode cX9_fast 112 = .ok (.ifCond .ne 8, 3) := by decide +kernel
theorem dX9_fast_115 : decode cX9_fast 115 = .ok (.iload 4, 2) := by decide +kernel
theorem dX9_fast_117 : decode cX9_fast 117 = .ok (.goto 5, 3) := by decide +kernel
theorem dX9_fast_120 : decode cX9_fast 120 = .ok (.iload 5, 2) := by decide +kernel
theorem dX9_fast_122 : decode cX9_fast 122 = .ok (.ireturn, 1) := by decide +kernel
theorem dX9_seat_0 : decode cX9_seat 0 = .ok (.aload_n 0, 1) := by decide +kernel
theorem dX9_seat_1 : decode cX9_seat 1 = .ok (.iload_n 1, 1) := by decide +kernel
theorem dX9_seat_2 : decode cX9_seat 2 = .ok (.invokevirtual 129, 3) := by decide +kernel
theorem dX9_seat_5 : decode cX9_seat 5 = .ok (.ifCond .eq 25, 3) := by decide +kernel
theorem dX9_seat_8 : decode cX9_seat 8 = .ok (.iload_n 2, 1) := by decide +kernel
theorem dX9_seat_9 : decode cX9_seat 9 = .ok (.i2l, 1) := by decide +kernel
theorem dX9_seat_10 : decode cX9_seat 10 = .ok (.lconst 1, 1) := by decide +kernel
theorem dX9_seat_11 : decode cX9_seat 11 = .ok (.ldc2_w 120, 3) := by decide +kernel
theorem dX9_seat_14 : decode cX9_seat 14 = .ok (.invokestatic 53, 3) := by decide +kernel
theorem dX9_seat_17 : decode cX9_seat 17 = .ok (.ifCond .eq 13, 3) := by decide +kernel
theorem dX9_seat_20 : decode cX9_seat 20 = .ok (.iload_n 3, 1) := by decide +kernel
theorem dX9_seat_21 : decode cX9_seat 21 = .ok (.i2l, 1) := by decide +kernel
theorem dX9_seat_22 : decode cX9_seat 22 = .ok (.lconst 0, 1) := by decide +kernel
theorem dX9_seat_23 : decode cX9_seat 23 = .ok (.lconst 1, 1) := by decide +kernel
theorem dX9_seat_24 : decode cX9_seat 24 = .ok (.invokestatic 53, 3) := by decide +kernel
theorem dX9_seat_27 : decode cX9_seat 27 = .ok (.ifCond .ne 10, 3) := by decide +kernel
theorem dX9_seat_30 : decode cX9_seat 30 = .ok (.aload_n 0, 1) := by decide +kernel
theorem dX9_seat_31 : decode cX9_seat 31 = .ok (.bipush (-2), 2) := by decide +kernel
theorem dX9_seat_33 : decode cX9_seat 33 = .ok (.invokevirtual 73, 3) := by decide +kernel
theorem dX9_seat_36 : decode cX9_seat 36 = .ok (.ireturn, 1) := by decide +kernel
theorem dX9_seat_37 : decode cX9_seat 37 = .ok (.iconst (-1), 1) := by decide +kernel
theorem dX9_seat_38 : decode cX9_seat 38 = .ok (.istore 4, 2) := by decide +kernel
theorem dX9_seat_40 : decode cX9_seat 40 = .ok (.iconst (-1), 1) := by decide +kernel
theorem dX9_seat_41 : decode cX9_seat 41 = .ok (.istore 5, 2) := by decide +kernel
theorem dX9_seat_43 : decode cX9_seat 43 = .ok (.iconst 0, 1) := by decide +kernel
theorem dX9_seat_44 : decode cX9_seat 44 = .ok (.istore 6, 2) := by decide +kernel
theorem dX9_seat_46 : decode cX9_seat 46 = .ok (.iload 6, 2) := by decide +kernel
theorem dX9_seat_48 : decode cX9_seat 48 = .ok (.aload_n 0, 1) := by decide +kernel
theorem dX9_seat_49 : decode cX9_seat 49 = .ok (.getfield 7, 3) := by decide +kernel
theorem dX9_seat_52 : decode cX9_seat 52 = .ok (.bipush 21, 2) := by decide +kernel
theorem dX9_seat_54 : decode cX9_seat 54 = .ok (.iaload, 1) := by decide +kernel
theorem dX9_seat_55 : decode cX9_seat 55 = .ok (.if_icmp .ge 87, 3) := by decide +kernel
theorem dX9_seat_58 : decode cX9_seat 58 = .ok (.aload_n 0, 1) := by decide +kernel
theorem dX9_seat_59 : decode cX9_seat 59 = .ok (.getfield 7, 3) := by decide +kernel
theorem dX9_seat_62 : decode cX9_seat 62 = .ok (.iload 6, 2) := by decide +kernel
theorem dX9_seat_64 : decode cX9_seat 64 = .ok (.invokestatic 89, 3) := by decide +kernel
theorem dX9_seat_67 : decode cX9_seat 67 = .ok (.istore 7, 2) := by decide +kernel
theorem dX9_seat_69 : decode cX9_seat 69 = .ok (.iload 7, 2) := by decide +kernel
theorem dX9_seat_71 : decode cX9_seat 71 = .ok (.iconst (-1), 1) := by decide +kernel
theorem dX9_seat_72 : decode cX9_seat 72 = .ok (.if_icmp .eq 9, 3) := by decide +kernel
theorem dX9_seat_75 : decode cX9_seat 75 = .ok (.iload 7, 2) := by decide +kernel
theorem dX9_seat_77 : decode cX9_seat 77 = .ok (.iload_n 1, 1) := by decide +kernel
theorem dX9_seat_78 : decode cX9_seat 78 = .ok (.if_icmp .ne 58, 3) := by decide +kernel
theorem dX9_seat_81 : decode cX9_seat 81 = .ok (.aload_n 0, 1) := by decide +kernel
theorem dX9_seat_82 : decode cX9_seat 82 = .ok (.invokevirtual 139, 3) := by decide +kernel
theorem dX9_seat_85 : decode cX9_seat 85 = .ok (.aload_n 0, 1) := by decide +kernel
theorem dX9_seat_86 : decode cX9_seat 86 = .ok (.getfield 27, 3) := by decide +kernel
theorem dX9_seat_89 : decode cX9_seat 89 = .ok (.bipush 15, 2) := by decide +kernel
theorem dX9_seat_91 : decode cX9_seat 91 = .ok (.iload_n 1, 1) := by decide +kernel
theorem dX9_seat_92 : decode cX9_seat 92 = .ok (.iadd, 1) := by decide +kernel
theorem dX9_seat_93 : decode cX9_seat 93 = .ok (.iload 6, 2) := by decide +kernel
theorem dX9_seat_95 : decode cX9_seat 95 = .ok (.iastore, 1) := by decide +kernel
theorem dX9_seat_96 : decode cX9_seat 96 = .ok (.aload_n 0, 1) := by decide +kernel
theorem dX9_seat_97 : decode cX9_seat 97 = .ok (.iload_n 1, 1) := by decide +kernel
theorem dX9_seat_98 : decode cX9_seat 98 = .ok (.iload_n 2, 1) := by decide +kernel
theorem dX9_seat_99 : decode cX9_seat 99 = .ok (.invokevirtual 142, 3) := by decide +kernel
theorem dX9_seat_102 : decode cX9_seat 102 = .ok (.istore 8, 2) := by decide +kernel
theorem dX9_seat_104 : decode cX9_seat 104 = .ok (.iload 8, 2) := by decide +kernel
theorem dX9_seat_106 : decode cX9_seat 106 = .ok (.iload 5, 2) := by decide +kernel
theorem dX9_seat_108 : decode cX9_seat 108 = .ok (.if_icmp .le 8, 3) := by decide +kernel
theorem dX9_seat_111 : decode cX9_seat 111 = .ok (.iload 6, 2) := by decide +kernel
theorem dX9_seat_113 : decode cX9_seat 113 = .ok (.goto 5, 3) := by decide +kernel
theorem dX9_seat_116 : decode cX9_seat 116 = .ok (.iload 4, 2) := by decide +kernel
theorem dX9_seat_118 : decode cX9_seat 118 = .ok (.istore 4, 2) := by decide +kernel
theorem dX9_seat_120 : decode cX9_seat 120 = .ok (.iload 8, 2) := by decide +kernel
theorem dX9_seat_122 : decode cX9_seat 122 = .ok (.iload 5, 2) := by decide +kernel
theorem dX9_seat_124 : decode cX9_seat 124 = .ok (.if_icmp .le 8, 3) := by decide +kernel
theorem dX9_seat_127 : decode cX9_seat 127 = .ok (.iload 8, 2) := by decide +kernel
theorem dX9_seat_129 : decode cX9_seat 129 = .ok (.goto 5, 3) := by decide +kernel
theorem dX9_seat_132 : decode cX9_seat 132 = .ok (.iload 5, 2) := by decide +kernel
theorem dX9_seat_134 : decode cX9_seat 134 = .ok (.istore 5, 2) := by decide +kernel
theorem dX9_seat_136 : decode cX9_seat 136 = .ok (.iinc 6 1, 3) := by decide +kernel
theorem dX9_seat_139 : decode cX9_seat 139 = .ok (.goto (-93), 3) := by decide +kernel
theorem dX9_seat_142 : decode cX9_seat 142 = .ok (.iload_n 3, 1) := by decide +kernel
theorem dX9_seat_143 : decode cX9_seat 143 = .ok (.ifCond .ne 8, 3) := by decide +kernel
theorem dX9_seat_146 : decode cX9_seat 146 = .ok (.iload 4, 2) := by decide +kernel
theorem dX9_seat_148 : decode cX9_seat 148 = .ok (.goto 5, 3) := by decide +kernel
theorem dX9_seat_151 : decode cX9_seat 151 = .ok (.iload 5, 2) := by decide +kernel
theorem dX9_seat_153 : decode cX9_seat 153 = .ok (.ireturn, 1) := by decide +kernel
theorem dX9_takenBy_0 : decode cX9_takenBy 0 = .ok (.iconst 0, 1) := by decide +kernel
theorem dX9_takenBy_1 : decode cX9_takenBy 1 = .ok (.istore 4, 2) := by decide +kernel
theorem dX9_takenBy_3 : decode cX9_takenBy 3 = .ok (.aload_n 0, 1) := by decide +kernel
theorem dX9_takenBy_4 : decode cX9_takenBy 4 = .ok (.invokevirtual 139, 3) := by decide +kernel
theorem dX9_takenBy_7 : decode cX9_takenBy 7 = .ok (.iload_n 2, 1) := by decide +kernel
theorem dX9_takenBy_8 : decode cX9_takenBy 8 = .ok (.iconst 1, 1) := by decide +kernel
theorem dX9_takenBy_9 : decode cX9_takenBy 9 = .ok (.isub, 1) := by decide +kernel
theorem dX9_takenBy_10 : decode cX9_takenBy 10 = .ok (.istore 5, 2) := by decide +kernel
theorem dX9_takenBy_12 : decode cX9_takenBy 12 = .ok (.iload 5, 2) := by decide +kernel
theorem dX9_takenBy_14 : decode cX9_takenBy 14 = .ok (.ifCond .lt 46, 3) := by decide +kernel
theorem dX9_takenBy_17 : decode cX9_takenBy 17 = .ok (.aload_n 0, 1) := by decide +kernel
theorem dX9_takenBy_18 : decode cX9_takenBy 18 = .ok (.getfield 27, 3) := by decide +kernel
theorem dX9_takenBy_21 : decode cX9_takenBy 21 = .ok (.bipush 6, 2) := by decide +kernel
theorem dX9_takenBy_23 : decode cX9_takenBy 23 = .ok (.iload_n 3, 1) := by decide +kernel
theorem dX9_takenBy_24 : decode cX9_takenBy 24 = .ok (.iconst 2, 1) := by decide +kernel
theorem dX9_takenBy_25 : decode cX9_takenBy 25 = .ok (.iload 5, 2) := by decide +kernel
theorem dX9_takenBy_27 : decode cX9_takenBy 27 = .ok (.imul, 1) := by decide +kernel
theorem dX9_takenBy_28 : decode cX9_takenBy 28 = .ok (.ishr, 1) := by decide +kernel
theorem dX9_takenBy_29 : decode cX9_takenBy 29 = .ok (.iconst 3, 1) := by decide +kernel
theorem dX9_takenBy_30 : decode cX9_takenBy 30 = .ok (.iand, 1) := by decide +kernel
theorem dX9_takenBy_31 : decode cX9_takenBy 31 = .ok (.iastore, 1) := by decide +kernel
theorem dX9_takenBy_32 : decode cX9_takenBy 32 = .ok (.iload 4, 2) := by decide +kernel
theorem dX9_takenBy_34 : decode cX9_takenBy 34 = .ok (.aload_n 0, 1) := by decide +kernel
theorem dX9_takenBy_35 : decode cX9_takenBy 35 = .ok (.getfield 27, 3) := by decide +kernel
theorem dX9_takenBy_38 : decode cX9_takenBy 38 = .ok (.iconst 0, 1) := by decide +kernel
theorem dX9_takenBy_39 : decode cX9_takenBy 39 = .ok (.invokestatic 116, 3) := by decide +kernel
theorem dX9_takenBy_42 : decode cX9_takenBy 42 = .ok (.iload_n 1, 1) := by decide +kernel
theorem dX9_takenBy_43 : decode cX9_takenBy 43 = .ok (.if_icmp .ne 7, 3) := by decide +kernel
theorem dX9_takenBy_46 : decode cX9_takenBy 46 = .ok (.iconst 1, 1) := by decide +kernel
theorem dX9_takenBy_47 : decode cX9_takenBy 47 = .ok (.goto 4, 3) := by decide +kernel
theorem dX9_takenBy_50 : decode cX9_takenBy 50 = .ok (.iconst 0, 1) := by decide +kernel
theorem dX9_takenBy_51 : decode cX9_takenBy 51 = .ok (.iadd, 1) := by decide +kernel
theorem dX9_takenBy_52 : decode cX9_takenBy 52 = .ok (.istore 4, 2) := by decide +kernel
theorem dX9_takenBy_54 : decode cX9_takenBy 54 = .ok (.iinc 5 (-1), 3) := by decide +kernel
theorem dX9_takenBy_57 : decode cX9_takenBy 57 = .ok (.goto (-45), 3) := by decide +kernel
theorem dX9_takenBy_60 : decode cX9_takenBy 60 = .ok (.iload 4, 2) := by decide +kernel
theorem dX9_takenBy_62 : decode cX9_takenBy 62 = .ok (.ireturn, 1) := by decide +kernel
theorem dX9_lever_0 : decode cX9_lever 0 = .ok (.aload_n 0, 1) := by decide +kernel
theorem dX9_lever_1 : decode cX9_lever 1 = .ok (.iload_n 1, 1) := by decide +kernel
theorem dX9_lever_2 : decode cX9_lever 2 = .ok (.invokevirtual 129, 3) := by decide +kernel
theorem dX9_lever_5 : decode cX9_lever 5 = .ok (.ifCond .eq 20, 3) := by decide +kernel
theorem dX9_lever_8 : decode cX9_lever 8 = .ok (.iload_n 2, 1) := by decide +kernel
theorem dX9_lever_9 : decode cX9_lever 9 = .ok (.i2l, 1) := by decide +kernel
theorem dX9_lever_10 : decode cX9_lever 10 = .ok (.lconst 1, 1) := by decide +kernel
theorem dX9_lever_11 : decode cX9_lever 11 = .ok (.ldc2_w 134, 3) := by decide +kernel
theorem dX9_lever_14 : decode cX9_lever 14 = .ok (.invokestatic 53, 3) := by decide +kernel
theorem dX9_lever_17 : decode cX9_lever 17 = .ok (.ifCond .eq 8, 3) := by decide +kernel
theorem dX9_lever_20 : decode cX9_lever 20 = .ok (.iload_n 3, 1) := by decide +kernel
theorem dX9_lever_21 : decode cX9_lever 21 = .ok (.iconst (-1), 1) := by decide +kernel
theorem dX9_lever_22 : decode cX9_lever 22 = .ok (.if_icmp .ge 10, 3) := by decide +kernel
theorem dX9_lever_25 : decode cX9_lever 25 = .ok (.aload_n 0, 1) := by decide +kernel
theorem dX9_lever_26 : decode cX9_lever 26 = .ok (.bipush (-10), 2) := by decide +kernel
theorem dX9_lever_28 : decode cX9_lever 28 = .ok (.invokevirtual 73, 3) := by decide +kernel
theorem dX9_lever_31 : decode cX9_lever 31 = .ok (.ireturn, 1) := by decide +kernel
theorem dX9_lever_32 : decode cX9_lever 32 = .ok (.iconst (-1), 1) := by decide +kernel
theorem dX9_lever_33 : decode cX9_lever 33 = .ok (.istore 4, 2) := by decide +kernel
theorem dX9_lever_35 : decode cX9_lever 35 = .ok (.iconst (-1), 1) := by decide +kernel
theorem dX9_lever_36 : decode cX9_lever 36 = .ok (.istore 5, 2) := by decide +kernel
theorem dX9_lever_38 : decode cX9_lever 38 = .ok (.iconst 0, 1) := by decide +kernel
theorem dX9_lever_39 : decode cX9_lever 39 = .ok (.istore 6, 2) := by decide +kernel
theorem dX9_lever_41 : decode cX9_lever 41 = .ok (.iload 6, 2) := by decide +kernel
theorem dX9_lever_43 : decode cX9_lever 43 = .ok (.iconst 1, 1) := by decide +kernel
theorem dX9_lever_44 : decode cX9_lever 44 = .ok (.iconst 2, 1) := by decide +kernel
theorem dX9_lever_45 : decode cX9_lever 45 = .ok (.iload_n 2, 1) := by decide +kernel
theorem dX9_lever_46 : decode cX9_lever 46 = .ok (.imul, 1) := by decide +kernel
theorem dX9_lever_47 : decode cX9_lever 47 = .ok (.ishl, 1) := by decide +kernel
theorem dX9_lever_48 : decode cX9_lever 48 = .ok (.if_icmp .ge 51, 3) := by decide +kernel
theorem dX9_lever_51 : decode cX9_lever 51 = .ok (.aload_n 0, 1) := by decide +kernel
theorem dX9_lever_52 : decode cX9_lever 52 = .ok (.iload_n 1, 1) := by decide +kernel
theorem dX9_lever_53 : decode cX9_lever 53 = .ok (.iload_n 2, 1) := by decide +kernel
theorem dX9_lever_54 : decode cX9_lever 54 = .ok (.iload 6, 2) := by decide +kernel
theorem dX9_lever_56 : decode cX9_lever 56 = .ok (.invokevirtual 146, 3) := by decide +kernel
theorem dX9_lever_59 : decode cX9_lever 59 = .ok (.istore 7, 2) := by decide +kernel
theorem dX9_lever_61 : decode cX9_lever 61 = .ok (.iload 7, 2) := by decide +kernel
theorem dX9_lever_63 : decode cX9_lever 63 = .ok (.iload 5, 2) := by decide +kernel
theorem dX9_lever_65 : decode cX9_lever 65 = .ok (.if_icmp .le 8, 3) := by decide +kernel
theorem dX9_lever_68 : decode cX9_lever 68 = .ok (.iload 6, 2) := by decide +kernel
theorem dX9_lever_70 : decode cX9_lever 70 = .ok (.goto 5, 3) := by decide +kernel
theorem dX9_lever_73 : decode cX9_lever 73 = .ok (.iload 4, 2) := by decide +kernel
theorem dX9_lever_75 : decode cX9_lever 75 = .ok (.istore 4, 2) := by decide +kernel
theorem dX9_lever_77 : decode cX9_lever 77 = .ok (.iload 7, 2) := by decide +kernel
theorem dX9_lever_79 : decode cX9_lever 79 = .ok (.iload 5, 2) := by decide +kernel
theorem dX9_lever_81 : decode cX9_lever 81 = .ok (.if_icmp .le 8, 3) := by decide +kernel
theorem dX9_lever_84 : decode cX9_lever 84 = .ok (.iload 7, 2) := by decide +kernel
theorem dX9_lever_86 : decode cX9_lever 86 = .ok (.goto 5, 3) := by decide +kernel
theorem dX9_lever_89 : decode cX9_lever 89 = .ok (.iload 5, 2) := by decide +kernel
theorem dX9_lever_91 : decode cX9_lever 91 = .ok (.istore 5, 2) := by decide +kernel
theorem dX9_lever_93 : decode cX9_lever 93 = .ok (.iinc 6 1, 3) := by decide +kernel
theorem dX9_lever_96 : decode cX9_lever 96 = .ok (.goto (-55), 3) := by decide +kernel
theorem dX9_lever_99 : decode cX9_lever 99 = .ok (.iload_n 3, 1) := by decide +kernel
theorem dX9_lever_100 : decode cX9_lever 100 = .ok (.iconst (-1), 1) := by decide +kernel
theorem dX9_lever_101 : decode cX9_lever 101 = .ok (.if_icmp .ne 8, 3) := by decide +kernel
theorem dX9_lever_104 : decode cX9_lever 104 = .ok (.iload 5, 2) := by decide +kernel
theorem dX9_lever_106 : decode cX9_lever 106 = .ok (.goto 25, 3) := by decide +kernel
theorem dX9_lever_109 : decode cX9_lever 109 = .ok (.iload_n 3, 1) := by decide +kernel
theorem dX9_lever_110 : decode cX9_lever 110 = .ok (.iload_n 2, 1) := by decide +kernel
theorem dX9_lever_111 : decode cX9_lever 111 = .ok (.if_icmp .lt 8, 3) := by decide +kernel
theorem dX9_lever_114 : decode cX9_lever 114 = .ok (.bipush (-5), 2) := by decide +kernel
theorem dX9_lever_116 : decode cX9_lever 116 = .ok (.goto 15, 3) := by decide +kernel
theorem dX9_lever_119 : decode cX9_lever 119 = .ok (.iload 4, 2) := by decide +kernel
theorem dX9_lever_121 : decode cX9_lever 121 = .ok (.iconst 2, 1) := by decide +kernel
theorem dX9_lever_122 : decode cX9_lever 122 = .ok (.iload_n 2, 1) := by decide +kernel
theorem dX9_lever_123 : decode cX9_lever 123 = .ok (.iconst 1, 1) := by decide +kernel
theorem dX9_lever_124 : decode cX9_lever 124 = .ok (.isub, 1) := by decide +kernel
theorem dX9_lever_125 : decode cX9_lever 125 = .ok (.iload_n 3, 1) := by decide +kernel
theorem dX9_lever_126 : decode cX9_lever 126 = .ok (.isub, 1) := by decide +kernel
theorem dX9_lever_127 : decode cX9_lever 127 = .ok (.imul, 1) := by decide +kernel
theorem dX9_lever_128 : decode cX9_lever 128 = .ok (.ishr, 1) := by decide +kernel
theorem dX9_lever_129 : decode cX9_lever 129 = .ok (.iconst 3, 1) := by decide +kernel
theorem dX9_lever_130 : decode cX9_lever 130 = .ok (.iand, 1) := by decide +kernel
theorem dX9_lever_131 : decode cX9_lever 131 = .ok (.ireturn, 1) := by decide +kernel
theorem dX9_seen_0 : decode cX9_seen 0 = .ok (.aload_n 0, 1) := by decide +kernel
theorem dX9_seen_1 : decode cX9_seen 1 = .ok (.iload_n 1, 1) := by decide +kernel
theorem dX9_seen_2 : decode cX9_seen 2 = .ok (.invokevirtual 77, 3) := by decide +kernel
theorem dX9_seen_5 : decode cX9_seen 5 = .ok (.ifCond .eq 35, 3) := by decide +kernel
theorem dX9_seen_8 : decode cX9_seen 8 = .ok (.iload_n 2, 1) := by decide +kernel
theorem dX9_seen_9 : decode cX9_seen 9 = .ok (.i2l, 1) := by decide +kernel
theorem dX9_seen_10 : decode cX9_seen 10 = .ok (.lconst 0, 1) := by decide +kernel
theorem dX9_seen_11 : decode cX9_seen 11 = .ok (.ldc2_w 150, 3) := by decide +kernel
theorem dX9_seen_14 : decode cX9_seen 14 = .ok (.invokestatic 53, 3) := by decide +kernel
theorem dX9_seen_17 : decode cX9_seen 17 = .ok (.ifCond .eq 23, 3) := by decide +kernel
theorem dX9_seen_20 : decode cX9_seen 20 = .ok (.iload_n 3, 1) := by decide +kernel
theorem dX9_seen_21 : decode cX9_seen 21 = .ok (.invokestatic 69, 3) := by decide +kernel
theorem dX9_seen_24 : decode cX9_seen 24 = .ok (.ifCond .eq 16, 3) := by decide +kernel
theorem dX9_seen_27 : decode cX9_seen 27 = .ok (.iload 4, 2) := by decide +kernel
theorem dX9_seen_29 : decode cX9_seen 29 = .ok (.i2l, 1) := by decide +kernel
theorem dX9_seen_30 : decode cX9_seen 30 = .ok (.lconst 0, 1) := by decide +kernel
theorem dX9_seen_31 : decode cX9_seen 31 = .ok (.ldc2_w 152, 3) := by decide +kernel
theorem dX9_seen_34 : decode cX9_seen 34 = .ok (.invokestatic 53, 3) := by decide +kernel
theorem dX9_seen_37 : decode cX9_seen 37 = .ok (.ifCond .ne 10, 3) := by decide +kernel
theorem dX9_seen_40 : decode cX9_seen 40 = .ok (.aload_n 0, 1) := by decide +kernel
theorem dX9_seen_41 : decode cX9_seen 41 = .ok (.bipush (-2), 2) := by decide +kernel
theorem dX9_seen_43 : decode cX9_seen 43 = .ok (.invokevirtual 73, 3) := by decide +kernel
theorem dX9_seen_46 : decode cX9_seen 46 = .ok (.ireturn, 1) := by decide +kernel
theorem dX9_seen_47 : decode cX9_seen 47 = .ok (.aload_n 0, 1) := by decide +kernel
theorem dX9_seen_48 : decode cX9_seen 48 = .ok (.getfield 7, 3) := by decide +kernel
theorem dX9_seen_51 : decode cX9_seen 51 = .ok (.iconst 1, 1) := by decide +kernel
theorem dX9_seen_52 : decode cX9_seen 52 = .ok (.iaload, 1) := by decide +kernel
theorem dX9_seen_53 : decode cX9_seen 53 = .ok (.iconst 5, 1) := by decide +kernel
theorem dX9_seen_54 : decode cX9_seen 54 = .ok (.if_icmp .ne 8, 3) := by decide +kernel
theorem dX9_seen_57 : decode cX9_seen 57 = .ok (.aload_n 0, 1) := by decide +kernel
theorem dX9_seen_58 : decode cX9_seen 58 = .ok (.invokevirtual 96, 3) := by decide +kernel
theorem dX9_seen_61 : decode cX9_seen 61 = .ok (.ireturn, 1) := by decide +kernel
theorem dX9_seen_62 : decode cX9_seen 62 = .ok (.bipush 58, 2) := by decide +kernel
theorem dX9_seen_64 : decode cX9_seen 64 = .ok (.iconst 4, 1) := by decide +kernel
theorem dX9_seen_65 : decode cX9_seen 65 = .ok (.aload_n 0, 1) := by decide +kernel
theorem dX9_seen_66 : decode cX9_seen 66 = .ok (.getfield 7, 3) := by decide +kernel
theorem dX9_seen_69 : decode cX9_seen 69 = .ok (.iconst 1, 1) := by decide +kernel
theorem dX9_seen_70 : decode cX9_seen 70 = .ok (.iaload, 1) := by decide +kernel
theorem dX9_seen_71 : decode cX9_seen 71 = .ok (.imul, 1) := by decide +kernel
theorem dX9_seen_72 : decode cX9_seen 72 = .ok (.iadd, 1) := by decide +kernel
theorem dX9_seen_73 : decode cX9_seen 73 = .ok (.istore 5, 2) := by decide +kernel
theorem dX9_seen_75 : decode cX9_seen 75 = .ok (.aload_n 0, 1) := by decide +kernel
theorem dX9_seen_76 : decode cX9_seen 76 = .ok (.getfield 7, 3) := by decide +kernel
theorem dX9_seen_79 : decode cX9_seen 79 = .ok (.iload 5, 2) := by decide +kernel
theorem dX9_seen_81 : decode cX9_seen 81 = .ok (.iload_n 1, 1) := by decide +kernel
theorem dX9_seen_82 : decode cX9_seen 82 = .ok (.iastore, 1) := by decide +kernel
theorem dX9_seen_83 : decode cX9_seen 83 = .ok (.aload_n 0, 1) := by decide +kernel
theorem dX9_seen_84 : decode cX9_seen 84 = .ok (.getfield 7, 3) := by decide +kernel
theorem dX9_seen_87 : decode cX9_seen 87 = .ok (.iload 5, 2) := by decide +kernel
theorem dX9_seen_89 : decode cX9_seen 89 = .ok (.iconst 1, 1) := by decide +kernel
theorem dX9_seen_90 : decode cX9_seen 90 = .ok (.iadd, 1) := by decide +kernel
theorem dX9_seen_91 : decode cX9_seen 91 = .ok (.iload_n 2, 1) := by decide +kernel
theorem dX9_seen_92 : decode cX9_seen 92 = .ok (.iastore, 1) := by decide +kernel
theorem dX9_seen_93 : decode cX9_seen 93 = .ok (.aload_n 0, 1) := by decide +kernel
theorem dX9_seen_94 : decode cX9_seen 94 = .ok (.getfield 7, 3) := by decide +kernel
theorem dX9_seen_97 : decode cX9_seen 97 = .ok (.iload 5, 2) := by decide +kernel
theorem dX9_seen_99 : decode cX9_seen 99 = .ok (.iconst 2, 1) := by decide +kernel
theorem dX9_seen_100 : decode cX9_seen 100 = .ok (.iadd, 1) := by decide +kernel
theorem dX9_seen_101 : decode cX9_seen 101 = .ok (.iload_n 3, 1) := by decide +kernel
theorem dX9_seen_102 : decode cX9_seen 102 = .ok (.iastore, 1) := by decide +kernel
theorem dX9_seen_103 : decode cX9_seen 103 = .ok (.aload_n 0, 1) := by decide +kernel
theorem dX9_seen_104 : decode cX9_seen 104 = .ok (.getfield 7, 3) := by decide +kernel
theorem dX9_seen_107 : decode cX9_seen 107 = .ok (.iload 5, 2) := by decide +kernel
theorem dX9_seen_109 : decode cX9_seen 109 = .ok (.iconst 3, 1) := by decide +kernel
theorem dX9_seen_110 : decode cX9_seen 110 = .ok (.iadd, 1) := by decide +kernel
theorem dX9_seen_111 : decode cX9_seen 111 = .ok (.iload 4, 2) := by decide +kernel
theorem dX9_seen_113 : decode cX9_seen 113 = .ok (.iastore, 1) := by decide +kernel
theorem dX9_seen_114 : decode cX9_seen 114 = .ok (.aload_n 0, 1) := by decide +kernel
theorem dX9_seen_115 : decode cX9_seen 115 = .ok (.getfield 7, 3) := by decide +kernel
theorem dX9_seen_118 : decode cX9_seen 118 = .ok (.iconst 1, 1) := by decide +kernel
theorem dX9_seen_119 : decode cX9_seen 119 = .ok (.dup2, 1) := by decide +kernel
theorem dX9_seen_120 : decode cX9_seen 120 = .ok (.iaload, 1) := by decide +kernel
theorem dX9_seen_121 : decode cX9_seen 121 = .ok (.iconst 1, 1) := by decide +kernel
theorem dX9_seen_122 : decode cX9_seen 122 = .ok (.iadd, 1) := by decide +kernel
theorem dX9_seen_123 : decode cX9_seen 123 = .ok (.iastore, 1) := by decide +kernel
theorem dX9_seen_124 : decode cX9_seen 124 = .ok (.aload_n 0, 1) := by decide +kernel
theorem dX9_seen_125 : decode cX9_seen 125 = .ok (.getfield 7, 3) := by decide +kernel
theorem dX9_seen_128 : decode cX9_seen 128 = .ok (.iconst 1, 1) := by decide +kernel
theorem dX9_seen_129 : decode cX9_seen 129 = .ok (.iaload, 1) := by decide +kernel
theorem dX9_seen_130 : decode cX9_seen 130 = .ok (.ireturn, 1) := by decide +kernel
