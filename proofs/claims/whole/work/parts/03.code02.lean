theorem dX8_about_0 : decode cX8_about 0 = .ok (.aload_n 0, 1) := by decide +kernel
theorem dX8_about_1 : decode cX8_about 1 = .ok (.iload_n 1, 1) := by decide +kernel
theorem dX8_about_2 : decode cX8_about 2 = .ok (.invokevirtual 80, 3) := by decide +kernel
theorem dX8_about_5 : decode cX8_about 5 = .ok (.ifCond .ne 8, 3) := by decide +kernel
theorem dX8_about_8 : decode cX8_about 8 = .ok (.aload_n 0, 1) := by decide +kernel
theorem dX8_about_9 : decode cX8_about 9 = .ok (.invokevirtual 62, 3) := by decide +kernel
theorem dX8_about_12 : decode cX8_about 12 = .ok (.ireturn, 1) := by decide +kernel
theorem dX8_about_13 : decode cX8_about 13 = .ok (.aload_n 0, 1) := by decide +kernel
theorem dX8_about_14 : decode cX8_about 14 = .ok (.getfield 10, 3) := by decide +kernel
theorem dX8_about_17 : decode cX8_about 17 = .ok (.getfield 66, 3) := by decide +kernel
theorem dX8_about_20 : decode cX8_about 20 = .ok (.astore_n 3, 1) := by decide +kernel
theorem dX8_about_21 : decode cX8_about 21 = .ok (.iload_n 2, 1) := by decide +kernel
theorem dX8_about_22 : decode cX8_about 22 = .ok (.tableswitch 57 0 3 #[30, 37, 44, 51], 30) := by decide +kernel
theorem dX8_about_52 : decode cX8_about 52 = .ok (.aload_n 3, 1) := by decide +kernel
theorem dX8_about_53 : decode cX8_about 53 = .ok (.getfield 84, 3) := by decide +kernel
theorem dX8_about_56 : decode cX8_about 56 = .ok (.iload_n 1, 1) := by decide +kernel
theorem dX8_about_57 : decode cX8_about 57 = .ok (.iaload, 1) := by decide +kernel
theorem dX8_about_58 : decode cX8_about 58 = .ok (.ireturn, 1) := by decide +kernel
theorem dX8_about_59 : decode cX8_about 59 = .ok (.aload_n 3, 1) := by decide +kernel
theorem dX8_about_60 : decode cX8_about 60 = .ok (.getfield 172, 3) := by decide +kernel
theorem dX8_about_63 : decode cX8_about 63 = .ok (.iload_n 1, 1) := by decide +kernel
theorem dX8_about_64 : decode cX8_about 64 = .ok (.iaload, 1) := by decide +kernel
theorem dX8_about_65 : decode cX8_about 65 = .ok (.ireturn, 1) := by decide +kernel
theorem dX8_about_66 : decode cX8_about 66 = .ok (.aload_n 3, 1) := by decide +kernel
theorem dX8_about_67 : decode cX8_about 67 = .ok (.iload_n 1, 1) := by decide +kernel
theorem dX8_about_68 : decode cX8_about 68 = .ok (.iconst 0, 1) := by decide +kernel
theorem dX8_about_69 : decode cX8_about 69 = .ok (.invokevirtual 166, 3) := by decide +kernel
theorem dX8_about_72 : decode cX8_about 72 = .ok (.ireturn, 1) := by decide +kernel
theorem dX8_about_73 : decode cX8_about 73 = .ok (.aload_n 3, 1) := by decide +kernel
theorem dX8_about_74 : decode cX8_about 74 = .ok (.iload_n 1, 1) := by decide +kernel
theorem dX8_about_75 : decode cX8_about 75 = .ok (.invokevirtual 100, 3) := by decide +kernel
theorem dX8_about_78 : decode cX8_about 78 = .ok (.ireturn, 1) := by decide +kernel
theorem dX8_about_79 : decode cX8_about 79 = .ok (.aload_n 0, 1) := by decide +kernel
theorem dX8_about_80 : decode cX8_about 80 = .ok (.invokevirtual 62, 3) := by decide +kernel
theorem dX8_about_83 : decode cX8_about 83 = .ok (.ireturn, 1) := by decide +kernel
theorem dX8_where_0 : decode cX8_where 0 = .ok (.aload_n 0, 1) := by decide +kernel
theorem dX8_where_1 : decode cX8_where 1 = .ok (.iload_n 1, 1) := by decide +kernel
theorem dX8_where_2 : decode cX8_where 2 = .ok (.invokevirtual 141, 3) := by decide +kernel
theorem dX8_where_5 : decode cX8_where 5 = .ok (.ifCond .eq 22, 3) := by decide +kernel
theorem dX8_where_8 : decode cX8_where 8 = .ok (.iload_n 2, 1) := by decide +kernel
theorem dX8_where_9 : decode cX8_where 9 = .ok (.iconst 0, 1) := by decide +kernel
theorem dX8_where_10 : decode cX8_where 10 = .ok (.bipush 60, 2) := by decide +kernel
theorem dX8_where_12 : decode cX8_where 12 = .ok (.invokestatic 58, 3) := by decide +kernel
theorem dX8_where_15 : decode cX8_where 15 = .ok (.ifCond .eq 12, 3) := by decide +kernel
theorem dX8_where_18 : decode cX8_where 18 = .ok (.iload_n 3, 1) := by decide +kernel
theorem dX8_where_19 : decode cX8_where 19 = .ok (.iconst 0, 1) := by decide +kernel
theorem dX8_where_20 : decode cX8_where 20 = .ok (.iconst 1, 1) := by decide +kernel
theorem dX8_where_21 : decode cX8_where 21 = .ok (.invokestatic 58, 3) := by decide +kernel
theorem dX8_where_24 : decode cX8_where 24 = .ok (.ifCond .ne 8, 3) := by decide +kernel
theorem dX8_where_27 : decode cX8_where 27 = .ok (.aload_n 0, 1) := by decide +kernel
theorem dX8_where_28 : decode cX8_where 28 = .ok (.invokevirtual 62, 3) := by decide +kernel
theorem dX8_where_31 : decode cX8_where 31 = .ok (.ireturn, 1) := by decide +kernel
theorem dX8_where_32 : decode cX8_where 32 = .ok (.aload_n 0, 1) := by decide +kernel
theorem dX8_where_33 : decode cX8_where 33 = .ok (.getfield 10, 3) := by decide +kernel
theorem dX8_where_36 : decode cX8_where 36 = .ok (.getfield 66, 3) := by decide +kernel
theorem dX8_where_39 : decode cX8_where 39 = .ok (.astore 4, 2) := by decide +kernel
theorem dX8_where_41 : decode cX8_where 41 = .ok (.iload_n 3, 1) := by decide +kernel
theorem dX8_where_42 : decode cX8_where 42 = .ok (.ifCond .ne 13, 3) := by decide +kernel
theorem dX8_where_45 : decode cX8_where 45 = .ok (.aload 4, 2) := by decide +kernel
theorem dX8_where_47 : decode cX8_where 47 = .ok (.iload_n 1, 1) := by decide +kernel
theorem dX8_where_48 : decode cX8_where 48 = .ok (.iload_n 2, 1) := by decide +kernel
theorem dX8_where_49 : decode cX8_where 49 = .ok (.invokevirtual 162, 3) := by decide +kernel
theorem dX8_where_52 : decode cX8_where 52 = .ok (.goto 16, 3) := by decide +kernel
theorem dX8_where_55 : decode cX8_where 55 = .ok (.aload 4, 2) := by decide +kernel
theorem dX8_where_57 : decode cX8_where 57 = .ok (.aload 4, 2) := by decide +kernel
theorem dX8_where_59 : decode cX8_where 59 = .ok (.getfield 144, 3) := by decide +kernel
theorem dX8_where_62 : decode cX8_where 62 = .ok (.iload_n 1, 1) := by decide +kernel
theorem dX8_where_63 : decode cX8_where 63 = .ok (.iaload, 1) := by decide +kernel
theorem dX8_where_64 : decode cX8_where 64 = .ok (.iload_n 2, 1) := by decide +kernel
theorem dX8_where_65 : decode cX8_where 65 = .ok (.invokevirtual 166, 3) := by decide +kernel
theorem dX8_where_68 : decode cX8_where 68 = .ok (.ireturn, 1) := by decide +kernel
theorem dX8_takes_0 : decode cX8_takes 0 = .ok (.aload_n 0, 1) := by decide +kernel
theorem dX8_takes_1 : decode cX8_takes 1 = .ok (.iload_n 1, 1) := by decide +kernel
theorem dX8_takes_2 : decode cX8_takes 2 = .ok (.invokevirtual 141, 3) := by decide +kernel
theorem dX8_takes_5 : decode cX8_takes 5 = .ok (.ifCond .ne 8, 3) := by decide +kernel
theorem dX8_takes_8 : decode cX8_takes 8 = .ok (.aload_n 0, 1) := by decide +kernel
theorem dX8_takes_9 : decode cX8_takes 9 = .ok (.invokevirtual 62, 3) := by decide +kernel
theorem dX8_takes_12 : decode cX8_takes 12 = .ok (.ireturn, 1) := by decide +kernel
theorem dX8_takes_13 : decode cX8_takes 13 = .ok (.aload_n 0, 1) := by decide +kernel
theorem dX8_takes_14 : decode cX8_takes 14 = .ok (.getfield 37, 3) := by decide +kernel
theorem dX8_takes_17 : decode cX8_takes 17 = .ok (.aload_n 0, 1) := by decide +kernel
theorem dX8_takes_18 : decode cX8_takes 18 = .ok (.getfield 10, 3) := by decide +kernel
theorem dX8_takes_21 : decode cX8_takes 21 = .ok (.getfield 66, 3) := by decide +kernel
theorem dX8_takes_24 : decode cX8_takes 24 = .ok (.invokevirtual 122, 3) := by decide +kernel
theorem dX8_takes_27 : decode cX8_takes 27 = .ok (.iconst 1, 1) := by decide +kernel
theorem dX8_takes_28 : decode cX8_takes 28 = .ok (.istore_n 2, 1) := by decide +kernel
theorem dX8_takes_29 : decode cX8_takes 29 = .ok (.iload_n 2, 1) := by decide +kernel
theorem dX8_takes_30 : decode cX8_takes 30 = .ok (.bipush 60, 2) := by decide +kernel
theorem dX8_takes_32 : decode cX8_takes 32 = .ok (.if_icmp .gt 22, 3) := by decide +kernel
theorem dX8_takes_35 : decode cX8_takes 35 = .ok (.aload_n 0, 1) := by decide +kernel
theorem dX8_takes_36 : decode cX8_takes 36 = .ok (.getfield 37, 3) := by decide +kernel
theorem dX8_takes_39 : decode cX8_takes 39 = .ok (.invokevirtual 132, 3) := by decide +kernel
theorem dX8_takes_42 : decode cX8_takes 42 = .ok (.iload_n 1, 1) := by decide +kernel
theorem dX8_takes_43 : decode cX8_takes 43 = .ok (.if_icmp .ne 5, 3) := by decide +kernel
theorem dX8_takes_46 : decode cX8_takes 46 = .ok (.iload_n 2, 1) := by decide +kernel
theorem dX8_takes_47 : decode cX8_takes 47 = .ok (.ireturn, 1) := by decide +kernel
theorem dX8_takes_48 : decode cX8_takes 48 = .ok (.iinc 2 1, 3) := by decide +kernel
theorem dX8_takes_51 : decode cX8_takes 51 = .ok (.goto (-22), 3) := by decide +kernel
theorem dX8_takes_54 : decode cX8_takes 54 = .ok (.iconst (-1), 1) := by decide +kernel
theorem dX8_takes_55 : decode cX8_takes 55 = .ok (.ireturn, 1) := by decide +kernel
theorem dX8_level_0 : decode cX8_level 0 = .ok (.iload_n 1, 1) := by decide +kernel
theorem dX8_level_1 : decode cX8_level 1 = .ok (.iconst (-1), 1) := by decide +kernel
theorem dX8_level_2 : decode cX8_level 2 = .ok (.if_icmp .ge 8, 3) := by decide +kernel
theorem dX8_level_5 : decode cX8_level 5 = .ok (.aload_n 0, 1) := by decide +kernel
theorem dX8_level_6 : decode cX8_level 6 = .ok (.invokevirtual 175, 3) := by decide +kernel
theorem dX8_level_9 : decode cX8_level 9 = .ok (.ireturn, 1) := by decide +kernel
theorem dX8_level_10 : decode cX8_level 10 = .ok (.aload_n 0, 1) := by decide +kernel
theorem dX8_level_11 : decode cX8_level 11 = .ok (.getfield 10, 3) := by decide +kernel
theorem dX8_level_14 : decode cX8_level 14 = .ok (.getfield 66, 3) := by decide +kernel
theorem dX8_level_17 : decode cX8_level 17 = .ok (.astore_n 2, 1) := by decide +kernel
theorem dX8_level_18 : decode cX8_level 18 = .ok (.iconst 0, 1) := by decide +kernel
theorem dX8_level_19 : decode cX8_level 19 = .ok (.istore_n 3, 1) := by decide +kernel
theorem dX8_level_20 : decode cX8_level 20 = .ok (.iconst 0, 1) := by decide +kernel
theorem dX8_level_21 : decode cX8_level 21 = .ok (.istore 4, 2) := by decide +kernel
theorem dX8_level_23 : decode cX8_level 23 = .ok (.iload 4, 2) := by decide +kernel
theorem dX8_level_25 : decode cX8_level 25 = .ok (.aload_n 2, 1) := by decide +kernel
theorem dX8_level_26 : decode cX8_level 26 = .ok (.getfield 69, 3) := by decide +kernel
theorem dX8_level_29 : decode cX8_level 29 = .ok (.if_icmp .ge 74, 3) := by decide +kernel
theorem dX8_level_32 : decode cX8_level 32 = .ok (.iload 4, 2) := by decide +kernel
theorem dX8_level_34 : decode cX8_level 34 = .ok (.iconst 1, 1) := by decide +kernel
theorem dX8_level_35 : decode cX8_level 35 = .ok (.iadd, 1) := by decide +kernel
theorem dX8_level_36 : decode cX8_level 36 = .ok (.istore 5, 2) := by decide +kernel
theorem dX8_level_38 : decode cX8_level 38 = .ok (.iload 5, 2) := by decide +kernel
theorem dX8_level_40 : decode cX8_level 40 = .ok (.aload_n 2, 1) := by decide +kernel
theorem dX8_level_41 : decode cX8_level 41 = .ok (.getfield 69, 3) := by decide +kernel
theorem dX8_level_44 : decode cX8_level 44 = .ok (.if_icmp .ge 53, 3) := by decide +kernel
theorem dX8_level_47 : decode cX8_level 47 = .ok (.aload_n 2, 1) := by decide +kernel
theorem dX8_level_48 : decode cX8_level 48 = .ok (.aload_n 2, 1) := by decide +kernel
theorem dX8_level_49 : decode cX8_level 49 = .ok (.getfield 144, 3) := by decide +kernel
theorem dX8_level_52 : decode cX8_level 52 = .ok (.iload 4, 2) := by decide +kernel
theorem dX8_level_54 : decode cX8_level 54 = .ok (.iaload, 1) := by decide +kernel
theorem dX8_level_55 : decode cX8_level 55 = .ok (.iconst 0, 1) := by decide +kernel
theorem dX8_level_56 : decode cX8_level 56 = .ok (.invokevirtual 166, 3) := by decide +kernel
theorem dX8_level_59 : decode cX8_level 59 = .ok (.aload_n 2, 1) := by decide +kernel
theorem dX8_level_60 : decode cX8_level 60 = .ok (.aload_n 2, 1) := by decide +kernel
theorem dX8_level_61 : decode cX8_level 61 = .ok (.getfield 144, 3) := by decide +kernel
theorem dX8_level_64 : decode cX8_level 64 = .ok (.iload 5, 2) := by decide +kernel
theorem dX8_level_66 : decode cX8_level 66 = .ok (.iaload, 1) := by decide +kernel
theorem dX8_level_67 : decode cX8_level 67 = .ok (.iconst 0, 1) := by decide +kernel
theorem dX8_level_68 : decode cX8_level 68 = .ok (.invokevirtual 166, 3) := by decide +kernel
theorem dX8_level_71 : decode cX8_level 71 = .ok (.if_icmp .ne 20, 3) := by decide +kernel
theorem dX8_level_74 : decode cX8_level 74 = .ok (.iload_n 3, 1) := by decide +kernel
theorem dX8_level_75 : decode cX8_level 75 = .ok (.iload_n 1, 1) := by decide +kernel
theorem dX8_level_76 : decode cX8_level 76 = .ok (.if_icmp .ne 12, 3) := by decide +kernel
theorem dX8_level_79 : decode cX8_level 79 = .ok (.bipush 10, 2) := by decide +kernel
theorem dX8_level_81 : decode cX8_level 81 = .ok (.iload 4, 2) := by decide +kernel
theorem dX8_level_83 : decode cX8_level 83 = .ok (.imul, 1) := by decide +kernel
theorem dX8_level_84 : decode cX8_level 84 = .ok (.iload 5, 2) := by decide +kernel
theorem dX8_level_86 : decode cX8_level 86 = .ok (.iadd, 1) := by decide +kernel
theorem dX8_level_87 : decode cX8_level 87 = .ok (.ireturn, 1) := by decide +kernel
theorem dX8_level_88 : decode cX8_level 88 = .ok (.iinc 3 1, 3) := by decide +kernel
theorem dX8_level_91 : decode cX8_level 91 = .ok (.iinc 5 1, 3) := by decide +kernel
theorem dX8_level_94 : decode cX8_level 94 = .ok (.goto (-56), 3) := by decide +kernel
theorem dX8_level_97 : decode cX8_level 97 = .ok (.iinc 4 1, 3) := by decide +kernel
theorem dX8_level_100 : decode cX8_level 100 = .ok (.goto (-77), 3) := by decide +kernel
theorem dX8_level_103 : decode cX8_level 103 = .ok (.iload_n 1, 1) := by decide +kernel
theorem dX8_level_104 : decode cX8_level 104 = .ok (.iconst (-1), 1) := by decide +kernel
theorem dX8_level_105 : decode cX8_level 105 = .ok (.if_icmp .ne 7, 3) := by decide +kernel
theorem dX8_level_108 : decode cX8_level 108 = .ok (.iload_n 3, 1) := by decide +kernel
theorem dX8_level_109 : decode cX8_level 109 = .ok (.goto 5, 3) := by decide +kernel
theorem dX8_level_112 : decode cX8_level 112 = .ok (.bipush (-5), 2) := by decide +kernel
theorem dX8_level_114 : decode cX8_level 114 = .ok (.ireturn, 1) := by decide +kernel
theorem dX8_again_0 : decode cX8_again 0 = .ok (.aload_n 0, 1) := by decide +kernel
theorem dX8_again_1 : decode cX8_again 1 = .ok (.getfield 37, 3) := by decide +kernel
theorem dX8_again_4 : decode cX8_again 4 = .ok (.aload_n 0, 1) := by decide +kernel
theorem dX8_again_5 : decode cX8_again 5 = .ok (.getfield 10, 3) := by decide +kernel
theorem dX8_again_8 : decode cX8_again 8 = .ok (.getfield 66, 3) := by decide +kernel
theorem dX8_again_11 : decode cX8_again 11 = .ok (.invokevirtual 122, 3) := by decide +kernel
theorem dX8_again_14 : decode cX8_again 14 = .ok (.iconst 1, 1) := by decide +kernel
theorem dX8_again_15 : decode cX8_again 15 = .ok (.istore_n 1, 1) := by decide +kernel
theorem dX8_again_16 : decode cX8_again 16 = .ok (.iload_n 1, 1) := by decide +kernel
theorem dX8_again_17 : decode cX8_again 17 = .ok (.bipush 60, 2) := by decide +kernel
theorem dX8_again_19 : decode cX8_again 19 = .ok (.if_icmp .gt 36, 3) := by decide +kernel
theorem dX8_again_22 : decode cX8_again 22 = .ok (.aload_n 0, 1) := by decide +kernel
theorem dX8_again_23 : decode cX8_again 23 = .ok (.getfield 37, 3) := by decide +kernel
theorem dX8_again_26 : decode cX8_again 26 = .ok (.invokevirtual 132, 3) := by decide +kernel
theorem dX8_again_29 : decode cX8_again 29 = .ok (.pop, 1) := by decide +kernel
theorem dX8_again_30 : decode cX8_again 30 = .ok (.aload_n 0, 1) := by decide +kernel
theorem dX8_again_31 : decode cX8_again 31 = .ok (.getfield 37, 3) := by decide +kernel
theorem dX8_again_34 : decode cX8_again 34 = .ok (.aload_n 0, 1) := by decide +kernel
theorem dX8_again_35 : decode cX8_again 35 = .ok (.getfield 10, 3) := by decide +kernel
theorem dX8_again_38 : decode cX8_again 38 = .ok (.getfield 66, 3) := by decide +kernel
theorem dX8_again_41 : decode cX8_again 41 = .ok (.invokevirtual 178, 3) := by decide +kernel
theorem dX8_again_44 : decode cX8_again 44 = .ok (.ifCond .eq 5, 3) := by decide +kernel
theorem dX8_again_47 : decode cX8_again 47 = .ok (.iload_n 1, 1) := by decide +kernel
theorem dX8_again_48 : decode cX8_again 48 = .ok (.ireturn, 1) := by decide +kernel
theorem dX8_again_49 : decode cX8_again 49 = .ok (.iinc 1 1, 3) := by decide +kernel
theorem dX8_again_52 : decode cX8_again 52 = .ok (.goto (-36), 3) := by decide +kernel
theorem dX8_again_55 : decode cX8_again 55 = .ok (.iconst (-1), 1) := by decide +kernel
theorem dX8_again_56 : decode cX8_again 56 = .ok (.ireturn, 1) := by decide +kernel
theorem dX8_fast_0 : decode cX8_fast 0 = .ok (.aload_n 0, 1) := by decide +kernel
theorem dX8_fast_1 : decode cX8_fast 1 = .ok (.iconst 0, 1) := by decide +kernel
theorem dX8_fast_2 : decode cX8_fast 2 = .ok (.iload_n 1, 1) := by decide +kernel
theorem dX8_fast_3 : decode cX8_fast 3 = .ok (.iload_n 2, 1) := by decide +kernel
theorem dX8_fast_4 : decode cX8_fast 4 = .ok (.iload_n 3, 1) := by decide +kernel
theorem dX8_fast_5 : decode cX8_fast 5 = .ok (.invokevirtual 182, 3) := by decide +kernel
theorem dX8_fast_8 : decode cX8_fast 8 = .ok (.ireturn, 1) := by decide +kernel
theorem dX8_seat_0 : decode cX8_seat 0 = .ok (.aload_n 0, 1) := by decide +kernel
theorem dX8_seat_1 : decode cX8_seat 1 = .ok (.iconst 1, 1) := by decide +kernel
theorem dX8_seat_2 : decode cX8_seat 2 = .ok (.iload_n 1, 1) := by decide +kernel
theorem dX8_seat_3 : decode cX8_seat 3 = .ok (.iload_n 2, 1) := by decide +kernel
theorem dX8_seat_4 : decode cX8_seat 4 = .ok (.iload_n 3, 1) := by decide +kernel
theorem dX8_seat_5 : decode cX8_seat 5 = .ok (.invokevirtual 182, 3) := by decide +kernel
theorem dX8_seat_8 : decode cX8_seat 8 = .ok (.ireturn, 1) := by decide +kernel
theorem dX8_lever_0 : decode cX8_lever 0 = .ok (.aload_n 0, 1) := by decide +kernel
theorem dX8_lever_1 : decode cX8_lever 1 = .ok (.iload_n 1, 1) := by decide +kernel
theorem dX8_lever_2 : decode cX8_lever 2 = .ok (.invokevirtual 141, 3) := by decide +kernel
theorem dX8_lever_5 : decode cX8_lever 5 = .ok (.ifCond .eq 18, 3) := by decide +kernel
theorem dX8_lever_8 : decode cX8_lever 8 = .ok (.iload_n 2, 1) := by decide +kernel
theorem dX8_lever_9 : decode cX8_lever 9 = .ok (.iconst 1, 1) := by decide +kernel
theorem dX8_lever_10 : decode cX8_lever 10 = .ok (.bipush 6, 2) := by decide +kernel
theorem dX8_lever_12 : decode cX8_lever 12 = .ok (.invokestatic 58, 3) := by decide +kernel
theorem dX8_lever_15 : decode cX8_lever 15 = .ok (.ifCond .eq 8, 3) := by decide +kernel
theorem dX8_lever_18 : decode cX8_lever 18 = .ok (.iload_n 3, 1) := by decide +kernel
theorem dX8_lever_19 : decode cX8_lever 19 = .ok (.iconst (-1), 1) := by decide +kernel
theorem dX8_lever_20 : decode cX8_lever 20 = .ok (.if_icmp .ge 8, 3) := by decide +kernel
theorem dX8_lever_23 : decode cX8_lever 23 = .ok (.aload_n 0, 1) := by decide +kernel
theorem dX8_lever_24 : decode cX8_lever 24 = .ok (.invokevirtual 175, 3) := by decide +kernel
theorem dX8_lever_27 : decode cX8_lever 27 = .ok (.ireturn, 1) := by decide +kernel
theorem dX8_lever_28 : decode cX8_lever 28 = .ok (.iload_n 3, 1) := by decide +kernel
theorem dX8_lever_29 : decode cX8_lever 29 = .ok (.iload_n 2, 1) := by decide +kernel
theorem dX8_lever_30 : decode cX8_lever 30 = .ok (.if_icmp .lt 6, 3) := by decide +kernel
theorem dX8_lever_33 : decode cX8_lever 33 = .ok (.bipush (-5), 2) := by decide +kernel
theorem dX8_lever_35 : decode cX8_lever 35 = .ok (.ireturn, 1) := by decide +kernel
theorem dX8_lever_36 : decode cX8_lever 36 = .ok (.aload_n 0, 1) := by decide +kernel
theorem dX8_lever_37 : decode cX8_lever 37 = .ok (.getfield 37, 3) := by decide +kernel
theorem dX8_lever_40 : decode cX8_lever 40 = .ok (.aload_n 0, 1) := by decide +kernel
theorem dX8_lever_41 : decode cX8_lever 41 = .ok (.getfield 10, 3) := by decide +kernel
theorem dX8_lever_44 : decode cX8_lever 44 = .ok (.getfield 66, 3) := by decide +kernel
theorem dX8_lever_47 : decode cX8_lever 47 = .ok (.invokevirtual 122, 3) := by decide +kernel
theorem dX8_lever_50 : decode cX8_lever 50 = .ok (.aload_n 0, 1) := by decide +kernel
theorem dX8_lever_51 : decode cX8_lever 51 = .ok (.getfield 44, 3) := by decide +kernel
theorem dX8_lever_54 : decode cX8_lever 54 = .ok (.aload_n 0, 1) := by decide +kernel
theorem dX8_lever_55 : decode cX8_lever 55 = .ok (.getfield 37, 3) := by decide +kernel
theorem dX8_lever_58 : decode cX8_lever 58 = .ok (.iload_n 1, 1) := by decide +kernel
theorem dX8_lever_59 : decode cX8_lever 59 = .ok (.iload_n 2, 1) := by decide +kernel
theorem dX8_lever_60 : decode cX8_lever 60 = .ok (.invokevirtual 186, 3) := by decide +kernel
theorem dX8_lever_63 : decode cX8_lever 63 = .ok (.iload_n 3, 1) := by decide +kernel
theorem dX8_lever_64 : decode cX8_lever 64 = .ok (.iconst (-1), 1) := by decide +kernel
theorem dX8_lever_65 : decode cX8_lever 65 = .ok (.if_icmp .ne 13, 3) := by decide +kernel
theorem dX8_lever_68 : decode cX8_lever 68 = .ok (.aload_n 0, 1) := by decide +kernel
theorem dX8_lever_69 : decode cX8_lever 69 = .ok (.getfield 44, 3) := by decide +kernel
theorem dX8_lever_72 : decode cX8_lever 72 = .ok (.getfield 190, 3) := by decide +kernel
theorem dX8_lever_75 : decode cX8_lever 75 = .ok (.goto 12, 3) := by decide +kernel
theorem dX8_lever_78 : decode cX8_lever 78 = .ok (.aload_n 0, 1) := by decide +kernel
theorem dX8_lever_79 : decode cX8_lever 79 = .ok (.getfield 44, 3) := by decide +kernel
theorem dX8_lever_82 : decode cX8_lever 82 = .ok (.getfield 193, 3) := by decide +kernel
theorem dX8_lever_85 : decode cX8_lever 85 = .ok (.iload_n 3, 1) := by decide +kernel
theorem dX8_lever_86 : decode cX8_lever 86 = .ok (.iaload, 1) := by decide +kernel
theorem dX8_lever_87 : decode cX8_lever 87 = .ok (.ireturn, 1) := by decide +kernel
theorem dX8_seen_0 : decode cX8_seen 0 = .ok (.aload_n 0, 1) := by decide +kernel
theorem dX8_seen_1 : decode cX8_seen 1 = .ok (.iload_n 1, 1) := by decide +kernel
theorem dX8_seen_2 : decode cX8_seen 2 = .ok (.invokevirtual 80, 3) := by decide +kernel
theorem dX8_seen_5 : decode cX8_seen 5 = .ok (.ifCond .eq 33, 3) := by decide +kernel
theorem dX8_seen_8 : decode cX8_seen 8 = .ok (.iload_n 2, 1) := by decide +kernel
theorem dX8_seen_9 : decode cX8_seen 9 = .ok (.iconst 0, 1) := by decide +kernel
theorem dX8_seen_10 : decode cX8_seen 10 = .ok (.bipush 99, 2) := by decide +kernel
theorem dX8_seen_12 : decode cX8_seen 12 = .ok (.invokestatic 58, 3) := by decide +kernel
theorem dX8_seen_15 : decode cX8_seen 15 = .ok (.ifCond .eq 23, 3) := by decide +kernel
theorem dX8_seen_18 : decode cX8_seen 18 = .ok (.iload_n 3, 1) := by decide +kernel
theorem dX8_seen_19 : decode cX8_seen 19 = .ok (.iconst 0, 1) := by decide +kernel
theorem dX8_seen_20 : decode cX8_seen 20 = .ok (.iconst 3, 1) := by decide +kernel
theorem dX8_seen_21 : decode cX8_seen 21 = .ok (.invokestatic 58, 3) := by decide +kernel
theorem dX8_seen_24 : decode cX8_seen 24 = .ok (.ifCond .eq 14, 3) := by decide +kernel
theorem dX8_seen_27 : decode cX8_seen 27 = .ok (.iload 4, 2) := by decide +kernel
theorem dX8_seen_29 : decode cX8_seen 29 = .ok (.iconst 0, 1) := by decide +kernel
theorem dX8_seen_30 : decode cX8_seen 30 = .ok (.bipush 15, 2) := by decide +kernel
theorem dX8_seen_32 : decode cX8_seen 32 = .ok (.invokestatic 58, 3) := by decide +kernel
theorem dX8_seen_35 : decode cX8_seen 35 = .ok (.ifCond .ne 8, 3) := by decide +kernel
theorem dX8_seen_38 : decode cX8_seen 38 = .ok (.aload_n 0, 1) := by decide +kernel
theorem dX8_seen_39 : decode cX8_seen 39 = .ok (.invokevirtual 62, 3) := by decide +kernel
theorem dX8_seen_42 : decode cX8_seen 42 = .ok (.ireturn, 1) := by decide +kernel
theorem dX8_seen_43 : decode cX8_seen 43 = .ok (.aload_n 0, 1) := by decide +kernel
theorem dX8_seen_44 : decode cX8_seen 44 = .ok (.getfield 10, 3) := by decide +kernel
theorem dX8_seen_47 : decode cX8_seen 47 = .ok (.getfield 196, 3) := by decide +kernel
theorem dX8_seen_50 : decode cX8_seen 50 = .ok (.invokevirtual 200, 3) := by decide +kernel
theorem dX8_seen_53 : decode cX8_seen 53 = .ok (.ifCond .eq 8, 3) := by decide +kernel
theorem dX8_seen_56 : decode cX8_seen 56 = .ok (.aload_n 0, 1) := by decide +kernel
theorem dX8_seen_57 : decode cX8_seen 57 = .ok (.invokevirtual 107, 3) := by decide +kernel
theorem dX8_seen_60 : decode cX8_seen 60 = .ok (.ireturn, 1) := by decide +kernel
theorem dX8_seen_61 : decode cX8_seen 61 = .ok (.aload_n 0, 1) := by decide +kernel
theorem dX8_seen_62 : decode cX8_seen 62 = .ok (.getfield 10, 3) := by decide +kernel
theorem dX8_seen_65 : decode cX8_seen 65 = .ok (.getfield 196, 3) := by decide +kernel
theorem dX8_seen_68 : decode cX8_seen 68 = .ok (.iload_n 1, 1) := by decide +kernel
theorem dX8_seen_69 : decode cX8_seen 69 = .ok (.iload_n 2, 1) := by decide +kernel
theorem dX8_seen_70 : decode cX8_seen 70 = .ok (.iload_n 3, 1) := by decide +kernel
theorem dX8_seen_71 : decode cX8_seen 71 = .ok (.iload 4, 2) := by decide +kernel
theorem dX8_seen_73 : decode cX8_seen 73 = .ok (.iconst 0, 1) := by decide +kernel
theorem dX8_seen_74 : decode cX8_seen 74 = .ok (.invokevirtual 206, 3) := by decide +kernel
theorem dX8_seen_77 : decode cX8_seen 77 = .ok (.aload_n 0, 1) := by decide +kernel
theorem dX8_seen_78 : decode cX8_seen 78 = .ok (.getfield 10, 3) := by decide +kernel
theorem dX8_seen_81 : decode cX8_seen 81 = .ok (.getfield 196, 3) := by decide +kernel
theorem dX8_seen_84 : decode cX8_seen 84 = .ok (.getfield 210, 3) := by decide +kernel
theorem dX8_seen_87 : decode cX8_seen 87 = .ok (.ireturn, 1) := by decide +kernel
theorem dX8_phases_0 : decode cX8_phases 0 = .ok (.aload_n 0, 1) := by decide +kernel
theorem dX8_phases_1 : decode cX8_phases 1 = .ok (.iload_n 1, 1) := by decide +kernel
theorem dX8_phases_2 : decode cX8_phases 2 = .ok (.invokevirtual 80, 3) := by decide +kernel
theorem dX8_phases_5 : decode cX8_phases 5 = .ok (.ifCond .eq 12, 3) := by decide +kernel
theorem dX8_phases_8 : decode cX8_phases 8 = .ok (.aload_n 0, 1) := by decide +kernel
theorem dX8_phases_9 : decode cX8_phases 9 = .ok (.iconst 0, 1) := by decide +kernel
theorem dX8_phases_10 : decode cX8_phases 10 = .ok (.iload_n 1, 1) := by decide +kernel
theorem dX8_phases_11 : decode cX8_phases 11 = .ok (.invokevirtual 211, 3) := by decide +kernel
theorem dX8_phases_14 : decode cX8_phases 14 = .ok (.goto 7, 3) := by decide +kernel
theorem dX8_phases_17 : decode cX8_phases 17 = .ok (.aload_n 0, 1) := by decide +kernel
theorem dX8_phases_18 : decode cX8_phases 18 = .ok (.invokevirtual 62, 3) := by decide +kernel
theorem dX8_phases_21 : decode cX8_phases 21 = .ok (.ireturn, 1) := by decide +kernel
theorem dX8_tell_0 : decode cX8_tell 0 = .ok (.aload_n 0, 1) := by decide +kernel
theorem dX8_tell_1 : decode cX8_tell 1 = .ok (.iload_n 1, 1) := by decide +kernel
theorem dX8_tell_2 : decode cX8_tell 2 = .ok (.invokevirtual 80, 3) := by decide +kernel
theorem dX8_tell_5 : decode cX8_tell 5 = .ok (.ifCond .eq 12, 3) := by decide +kernel
theorem dX8_tell_8 : decode cX8_tell 8 = .ok (.aload_n 0, 1) := by decide +kernel
theorem dX8_tell_9 : decode cX8_tell 9 = .ok (.iconst 0, 1) := by decide +kernel
theorem dX8_tell_10 : decode cX8_tell 10 = .ok (.iload_n 1, 1) := by decide +kernel
theorem dX8_tell_11 : decode cX8_tell 11 = .ok (.invokevirtual 214, 3) := by decide +kernel
theorem dX8_tell_14 : decode cX8_tell 14 = .ok (.goto 7, 3) := by decide +kernel
theorem dX8_tell_17 : decode cX8_tell 17 = .ok (.aload_n 0, 1) := by decide +kernel
theorem dX8_tell_18 : decode cX8_tell 18 = .ok (.invokevirtual 62, 3) := by decide +kernel
theorem dX8_tell_21 : decode cX8_tell 21 = .ok (.ireturn, 1) := by decide +kernel
theorem dX8_note_0 : decode cX8_note 0 = .ok (.aload_n 0, 1) := by decide +kernel
theorem dX8_note_1 : decode cX8_note 1 = .ok (.iload_n 1, 1) := by decide +kernel
theorem dX8_note_2 : decode cX8_note 2 = .ok (.invokevirtual 80, 3) := by decide +kernel
theorem dX8_note_5 : decode cX8_note 5 = .ok (.ifCond .eq 44, 3) := by decide +kernel
theorem dX8_note_8 : decode cX8_note 8 = .ok (.iload_n 2, 1) := by decide +kernel
theorem dX8_note_9 : decode cX8_note 9 = .ok (.iconst 0, 1) := by decide +kernel
theorem dX8_note_10 : decode cX8_note 10 = .ok (.bipush 7, 2) := by decide +kernel
theorem dX8_note_12 : decode cX8_note 12 = .ok (.invokestatic 58, 3) := by decide +kernel
theorem dX8_note_15 : decode cX8_note 15 = .ok (.ifCond .eq 34, 3) := by decide +kernel
theorem dX8_note_18 : decode cX8_note 18 = .ok (.iload_n 3, 1) := by decide +kernel
theorem dX8_note_19 : decode cX8_note 19 = .ok (.iconst 0, 1) := by decide +kernel
theorem dX8_note_20 : decode cX8_note 20 = .ok (.bipush 99, 2) := by decide +kernel
theorem dX8_note_22 : decode cX8_note 22 = .ok (.invokestatic 58, 3) := by decide +kernel
theorem dX8_note_25 : decode cX8_note 25 = .ok (.ifCond .eq 24, 3) := by decide +kernel
theorem dX8_note_28 : decode cX8_note 28 = .ok (.iload 4, 2) := by decide +kernel
theorem dX8_note_30 : decode cX8_note 30 = .ok (.iconst 0, 1) := by decide +kernel
theorem dX8_note_31 : decode cX8_note 31 = .ok (.iconst 3, 1) := by decide +kernel
theorem dX8_note_32 : decode cX8_note 32 = .ok (.invokestatic 58, 3) := by decide +kernel
theorem dX8_note_35 : decode cX8_note 35 = .ok (.ifCond .eq 14, 3) := by decide +kernel
theorem dX8_note_38 : decode cX8_note 38 = .ok (.iload 5, 2) := by decide +kernel
theorem dX8_note_40 : decode cX8_note 40 = .ok (.iconst 0, 1) := by decide +kernel
theorem dX8_note_41 : decode cX8_note 41 = .ok (.bipush 15, 2) := by decide +kernel
theorem dX8_note_43 : decode cX8_note 43 = .ok (.invokestatic 58, 3) := by decide +kernel
theorem dX8_note_46 : decode cX8_note 46 = .ok (.ifCond .ne 8, 3) := by decide +kernel
theorem dX8_note_49 : decode cX8_note 49 = .ok (.aload_n 0, 1) := by decide +kernel
theorem dX8_note_50 : decode cX8_note 50 = .ok (.invokevirtual 62, 3) := by decide +kernel
theorem dX8_note_53 : decode cX8_note 53 = .ok (.ireturn, 1) := by decide +kernel
theorem dX8_note_54 : decode cX8_note 54 = .ok (.aload_n 0, 1) := by decide +kernel
theorem dX8_note_55 : decode cX8_note 55 = .ok (.getfield 10, 3) := by decide +kernel
theorem dX8_note_58 : decode cX8_note 58 = .ok (.getfield 217, 3) := by decide +kernel
theorem dX8_note_61 : decode cX8_note 61 = .ok (.invokevirtual 200, 3) := by decide +kernel
theorem dX8_note_64 : decode cX8_note 64 = .ok (.ifCond .eq 8, 3) := by decide +kernel
theorem dX8_note_67 : decode cX8_note 67 = .ok (.aload_n 0, 1) := by decide +kernel
theorem dX8_note_68 : decode cX8_note 68 = .ok (.invokevirtual 107, 3) := by decide +kernel
theorem dX8_note_71 : decode cX8_note 71 = .ok (.ireturn, 1) := by decide +kernel
theorem dX8_note_72 : decode cX8_note 72 = .ok (.aload_n 0, 1) := by decide +kernel
theorem dX8_note_73 : decode cX8_note 73 = .ok (.getfield 10, 3) := by decide +kernel
theorem dX8_note_76 : decode cX8_note 76 = .ok (.getfield 217, 3) := by decide +kernel
theorem dX8_note_79 : decode cX8_note 79 = .ok (.iload_n 1, 1) := by decide +kernel
theorem dX8_note_80 : decode cX8_note 80 = .ok (.iload_n 2, 1) := by decide +kernel
theorem dX8_note_81 : decode cX8_note 81 = .ok (.iload_n 3, 1) := by decide +kernel
theorem dX8_note_82 : decode cX8_note 82 = .ok (.iload 4, 2) := by decide +kernel
theorem dX8_note_84 : decode cX8_note 84 = .ok (.iload 5, 2) := by decide +kernel
theorem dX8_note_86 : decode cX8_note 86 = .ok (.invokevirtual 206, 3) := by decide +kernel
theorem dX8_note_89 : decode cX8_note 89 = .ok (.aload_n 0, 1) := by decide +kernel
theorem dX8_note_90 : decode cX8_note 90 = .ok (.getfield 10, 3) := by decide +kernel
theorem dX8_note_93 : decode cX8_note 93 = .ok (.getfield 217, 3) := by decide +kernel
theorem dX8_note_96 : decode cX8_note 96 = .ok (.getfield 210, 3) := by decide +kernel
theorem dX8_note_99 : decode cX8_note 99 = .ok (.ireturn, 1) := by decide +kernel
theorem dX8_mark_0 : decode cX8_mark 0 = .ok (.aload_n 0, 1) := by decide +kernel
theorem dX8_mark_1 : decode cX8_mark 1 = .ok (.iload_n 1, 1) := by decide +kernel
theorem dX8_mark_2 : decode cX8_mark 2 = .ok (.invokevirtual 141, 3) := by decide +kernel
theorem dX8_mark_5 : decode cX8_mark 5 = .ok (.ifCond .eq 45, 3) := by decide +kernel
theorem dX8_mark_8 : decode cX8_mark 8 = .ok (.iload_n 2, 1) := by decide +kernel
theorem dX8_mark_9 : decode cX8_mark 9 = .ok (.iconst 1, 1) := by decide +kernel
theorem dX8_mark_10 : decode cX8_mark 10 = .ok (.bipush 9, 2) := by decide +kernel
theorem dX8_mark_12 : decode cX8_mark 12 = .ok (.invokestatic 58, 3) := by decide +kernel
theorem dX8_mark_15 : decode cX8_mark 15 = .ok (.ifCond .eq 35, 3) := by decide +kernel
theorem dX8_mark_18 : decode cX8_mark 18 = .ok (.iload_n 3, 1) := by decide +kernel
theorem dX8_mark_19 : decode cX8_mark 19 = .ok (.iconst 0, 1) := by decide +kernel
theorem dX8_mark_20 : decode cX8_mark 20 = .ok (.bipush 15, 2) := by decide +kernel
theorem dX8_mark_22 : decode cX8_mark 22 = .ok (.invokestatic 58, 3) := by decide +kernel
theorem dX8_mark_25 : decode cX8_mark 25 = .ok (.ifCond .eq 25, 3) := by decide +kernel
theorem dX8_mark_28 : decode cX8_mark 28 = .ok (.iload 4, 2) := by decide +kernel
theorem dX8_mark_30 : decode cX8_mark 30 = .ok (.iconst 0, 1) := by decide +kernel
theorem dX8_mark_31 : decode cX8_mark 31 = .ok (.bipush 99, 2) := by decide +kernel
theorem dX8_mark_33 : decode cX8_mark 33 = .ok (.invokestatic 58, 3) := by decide +kernel
theorem dX8_mark_36 : decode cX8_mark 36 = .ok (.ifCond .eq 14, 3) := by decide +kernel
theorem dX8_mark_39 : decode cX8_mark 39 = .ok (.iload 5, 2) := by decide +kernel
theorem dX8_mark_41 : decode cX8_mark 41 = .ok (.iconst 0, 1) := by decide +kernel
theorem dX8_mark_42 : decode cX8_mark 42 = .ok (.bipush 60, 2) := by decide +kernel
theorem dX8_mark_44 : decode cX8_mark 44 = .ok (.invokestatic 58, 3) := by decide +kernel
theorem dX8_mark_47 : decode cX8_mark 47 = .ok (.ifCond .ne 8, 3) := by decide +kernel
theorem dX8_mark_50 : decode cX8_mark 50 = .ok (.aload_n 0, 1) := by decide +kernel
theorem dX8_mark_51 : decode cX8_mark 51 = .ok (.invokevirtual 62, 3) := by decide +kernel
theorem dX8_mark_54 : decode cX8_mark 54 = .ok (.ireturn, 1) := by decide +kernel
theorem dX8_mark_55 : decode cX8_mark 55 = .ok (.aload_n 0, 1) := by decide +kernel
theorem dX8_mark_56 : decode cX8_mark 56 = .ok (.getfield 10, 3) := by decide +kernel
theorem dX8_mark_59 : decode cX8_mark 59 = .ok (.getfield 220, 3) := by decide +kernel
theorem dX8_mark_62 : decode cX8_mark 62 = .ok (.invokevirtual 200, 3) := by decide +kernel
theorem dX8_mark_65 : decode cX8_mark 65 = .ok (.ifCond .eq 8, 3) := by decide +kernel
theorem dX8_mark_68 : decode cX8_mark 68 = .ok (.aload_n 0, 1) := by decide +kernel
theorem dX8_mark_69 : decode cX8_mark 69 = .ok (.invokevirtual 107, 3) := by decide +kernel
theorem dX8_mark_72 : decode cX8_mark 72 = .ok (.ireturn, 1) := by decide +kernel
theorem dX8_mark_73 : decode cX8_mark 73 = .ok (.aload_n 0, 1) := by decide +kernel
theorem dX8_mark_74 : decode cX8_mark 74 = .ok (.getfield 10, 3) := by decide +kernel
theorem dX8_mark_77 : decode cX8_mark 77 = .ok (.getfield 220, 3) := by decide +kernel
theorem dX8_mark_80 : decode cX8_mark 80 = .ok (.iload_n 1, 1) := by decide +kernel
theorem dX8_mark_81 : decode cX8_mark 81 = .ok (.iload_n 2, 1) := by decide +kernel
theorem dX8_mark_82 : decode cX8_mark 82 = .ok (.iload_n 3, 1) := by decide +kernel
theorem dX8_mark_83 : decode cX8_mark 83 = .ok (.iload 4, 2) := by decide +kernel
theorem dX8_mark_85 : decode cX8_mark 85 = .ok (.iload 5, 2) := by decide +kernel
theorem dX8_mark_87 : decode cX8_mark 87 = .ok (.invokevirtual 206, 3) := by decide +kernel
theorem dX8_mark_90 : decode cX8_mark 90 = .ok (.aload_n 0, 1) := by decide +kernel
theorem dX8_mark_91 : decode cX8_mark 91 = .ok (.getfield 10, 3) := by decide +kernel
theorem dX8_mark_94 : decode cX8_mark 94 = .ok (.getfield 220, 3) := by decide +kernel
theorem dX8_mark_97 : decode cX8_mark 97 = .ok (.getfield 210, 3) := by decide +kernel
theorem dX8_mark_100 : decode cX8_mark 100 = .ok (.ireturn, 1) := by decide +kernel
theorem dX8_forget_0 : decode cX8_forget 0 = .ok (.iload_n 1, 1) := by decide +kernel
theorem dX8_forget_1 : decode cX8_forget 1 = .ok (.tableswitch 60 0 2 #[27, 38, 49], 27) := by decide +kernel
theorem dX8_forget_28 : decode cX8_forget 28 = .ok (.aload_n 0, 1) := by decide +kernel
theorem dX8_forget_29 : decode cX8_forget 29 = .ok (.getfield 10, 3) := by decide +kernel
theorem dX8_forget_32 : decode cX8_forget 32 = .ok (.getfield 196, 3) := by decide +kernel
theorem dX8_forget_35 : decode cX8_forget 35 = .ok (.invokevirtual 223, 3) := by decide +kernel
theorem dX8_forget_38 : decode cX8_forget 38 = .ok (.ireturn, 1) := by decide +kernel
theorem dX8_forget_39 : decode cX8_forget 39 = .ok (.aload_n 0, 1) := by decide +kernel
theorem dX8_forget_40 : decode cX8_forget 40 = .ok (.getfield 10, 3) := by decide +kernel
theorem dX8_forget_43 : decode cX8_forget 43 = .ok (.getfield 217, 3) := by decide +kernel
theorem dX8_forget_46 : decode cX8_forget 46 = .ok (.invokevirtual 223, 3) := by decide +kernel
theorem dX8_forget_49 : decode cX8_forget 49 = .ok (.ireturn, 1) := by decide +kernel
theorem dX8_forget_50 : decode cX8_forget 50 = .ok (.aload_n 0, 1) := by decide +kernel
theorem dX8_forget_51 : decode cX8_forget 51 = .ok (.getfield 10, 3) := by decide +kernel
theorem dX8_forget_54 : decode cX8_forget 54 = .ok (.getfield 220, 3) := by decide +kernel
theorem dX8_forget_57 : decode cX8_forget 57 = .ok (.invokevirtual 223, 3) := by decide +kernel
theorem dX8_forget_60 : decode cX8_forget 60 = .ok (.ireturn, 1) := by decide +kernel
theorem dX8_forget_61 : decode cX8_forget 61 = .ok (.aload_n 0, 1) := by decide +kernel
theorem dX8_forget_62 : decode cX8_forget 62 = .ok (.invokevirtual 62, 3) := by decide +kernel
theorem dX8_forget_65 : decode cX8_forget 65 = .ok (.ireturn, 1) := by decide +kernel
theorem dX8_is_0 : decode cX8_is 0 = .ok (.aload_n 0, 1) := by decide +kernel
theorem dX8_is_1 : decode cX8_is 1 = .ok (.iload_n 1, 1) := by decide +kernel
theorem dX8_is_2 : decode cX8_is 2 = .ok (.invokevirtual 80, 3) := by decide +kernel
theorem dX8_is_5 : decode cX8_is 5 = .ok (.ifCond .eq 12, 3) := by decide +kernel
theorem dX8_is_8 : decode cX8_is 8 = .ok (.aload_n 0, 1) := by decide +kernel
theorem dX8_is_9 : decode cX8_is 9 = .ok (.iconst 1, 1) := by decide +kernel
theorem dX8_is_10 : decode cX8_is 10 = .ok (.iload_n 1, 1) := by decide +kernel
theorem dX8_is_11 : decode cX8_is 11 = .ok (.invokevirtual 211, 3) := by decide +kernel
theorem dX8_is_14 : decode cX8_is 14 = .ok (.goto 7, 3) := by decide +kernel
theorem dX8_is_17 : decode cX8_is 17 = .ok (.aload_n 0, 1) := by decide +kernel
theorem dX8_is_18 : decode cX8_is 18 = .ok (.invokevirtual 62, 3) := by decide +kernel
theorem dX8_is_21 : decode cX8_is 21 = .ok (.ireturn, 1) := by decide +kernel
theorem dX8_look_0 : decode cX8_look 0 = .ok (.aload_n 0, 1) := by decide +kernel
theorem dX8_look_1 : decode cX8_look 1 = .ok (.iload_n 1, 1) := by decide +kernel
theorem dX8_look_2 : decode cX8_look 2 = .ok (.invokevirtual 80, 3) := by decide +kernel
theorem dX8_look_5 : decode cX8_look 5 = .ok (.ifCond .eq 12, 3) := by decide +kernel
theorem dX8_look_8 : decode cX8_look 8 = .ok (.aload_n 0, 1) := by decide +kernel
theorem dX8_look_9 : decode cX8_look 9 = .ok (.iconst 1, 1) := by decide +kernel
theorem dX8_look_10 : decode cX8_look 10 = .ok (.iload_n 1, 1) := by decide +kernel
theorem dX8_look_11 : decode cX8_look 11 = .ok (.invokevirtual 214, 3) := by decide +kernel
theorem dX8_look_14 : decode cX8_look 14 = .ok (.goto 7, 3) := by decide +kernel
theorem dX8_look_17 : decode cX8_look 17 = .ok (.aload_n 0, 1) := by decide +kernel
theorem dX8_look_18 : decode cX8_look 18 = .ok (.invokevirtual 62, 3) := by decide +kernel
theorem dX8_look_21 : decode cX8_look 21 = .ok (.ireturn, 1) := by decide +kernel
theorem dX8_kinds_0 : decode cX8_kinds 0 = .ok (.aload_n 0, 1) := by decide +kernel
theorem dX8_kinds_1 : decode cX8_kinds 1 = .ok (.iload_n 1, 1) := by decide +kernel
theorem dX8_kinds_2 : decode cX8_kinds 2 = .ok (.invokevirtual 141, 3) := by decide +kernel
theorem dX8_kinds_5 : decode cX8_kinds 5 = .ok (.ifCond .eq 12, 3) := by decide +kernel
theorem dX8_kinds_8 : decode cX8_kinds 8 = .ok (.aload_n 0, 1) := by decide +kernel
theorem dX8_kinds_9 : decode cX8_kinds 9 = .ok (.iconst 2, 1) := by decide +kernel
theorem dX8_kinds_10 : decode cX8_kinds 10 = .ok (.iload_n 1, 1) := by decide +kernel
theorem dX8_kinds_11 : decode cX8_kinds 11 = .ok (.invokevirtual 211, 3) := by decide +kernel
theorem dX8_kinds_14 : decode cX8_kinds 14 = .ok (.goto 7, 3) := by decide +kernel
theorem dX8_kinds_17 : decode cX8_kinds 17 = .ok (.aload_n 0, 1) := by decide +kernel
theorem dX8_kinds_18 : decode cX8_kinds 18 = .ok (.invokevirtual 62, 3) := by decide +kernel
theorem dX8_kinds_21 : decode cX8_kinds 21 = .ok (.ireturn, 1) := by decide +kernel
theorem dX8_ask_0 : decode cX8_ask 0 = .ok (.aload_n 0, 1) := by decide +kernel
theorem dX8_ask_1 : decode cX8_ask 1 = .ok (.iload_n 1, 1) := by decide +kernel
theorem dX8_ask_2 : decode cX8_ask 2 = .ok (.invokevirtual 141, 3) := by decide +kernel
theorem dX8_ask_5 : decode cX8_ask 5 = .ok (.ifCond .eq 12, 3) := by decide +kernel
theorem dX8_ask_8 : decode cX8_ask 8 = .ok (.aload_n 0, 1) := by decide +kernel
theorem dX8_ask_9 : decode cX8_ask 9 = .ok (.iconst 2, 1) := by decide +kernel
theorem dX8_ask_10 : decode cX8_ask 10 = .ok (.iload_n 1, 1) := by decide +kernel
theorem dX8_ask_11 : decode cX8_ask 11 = .ok (.invokevirtual 214, 3) := by decide +kernel
theorem dX8_ask_14 : decode cX8_ask 14 = .ok (.goto 7, 3) := by decide +kernel
theorem dX8_ask_17 : decode cX8_ask 17 = .ok (.aload_n 0, 1) := by decide +kernel
theorem dX8_ask_18 : decode cX8_ask 18 = .ok (.invokevirtual 62, 3) := by decide +kernel
theorem dX8_ask_21 : decode cX8_ask 21 = .ok (.ireturn, 1) := by decide +kernel
theorem dX8_hands_0 : decode cX8_hands 0 = .ok (.aload_n 0, 1) := by decide +kernel
theorem dX8_hands_1 : decode cX8_hands 1 = .ok (.iload_n 1, 1) := by decide +kernel
theorem dX8_hands_2 : decode cX8_hands 2 = .ok (.invokevirtual 141, 3) := by decide +kernel
theorem dX8_hands_5 : decode cX8_hands 5 = .ok (.ifCond .eq 21, 3) := by decide +kernel
theorem dX8_hands_8 : decode cX8_hands 8 = .ok (.aload_n 0, 1) := by decide +kernel
theorem dX8_hands_9 : decode cX8_hands 9 = .ok (.iload_n 2, 1) := by decide +kernel
theorem dX8_hands_10 : decode cX8_hands 10 = .ok (.invokevirtual 141, 3) := by decide +kernel
theorem dX8_hands_13 : decode cX8_hands 13 = .ok (.ifCond .eq 13, 3) := by decide +kernel
theorem dX8_hands_16 : decode cX8_hands 16 = .ok (.iload_n 1, 1) := by decide +kernel
theorem dX8_hands_17 : decode cX8_hands 17 = .ok (.iload_n 2, 1) := by decide +kernel
theorem dX8_hands_18 : decode cX8_hands 18 = .ok (.if_icmp .eq 8, 3) := by decide +kernel
theorem dX8_hands_21 : decode cX8_hands 21 = .ok (.iload_n 3, 1) := by decide +kernel
theorem dX8_hands_22 : decode cX8_hands 22 = .ok (.iconst (-1), 1) := by decide +kernel
theorem dX8_hands_23 : decode cX8_hands 23 = .ok (.if_icmp .ge 8, 3) := by decide +kernel
theorem dX8_hands_26 : decode cX8_hands 26 = .ok (.aload_n 0, 1) := by decide +kernel
theorem dX8_hands_27 : decode cX8_hands 27 = .ok (.invokevirtual 175, 3) := by decide +kernel
theorem dX8_hands_30 : decode cX8_hands 30 = .ok (.ireturn, 1) := by decide +kernel
theorem dX8_hands_31 : decode cX8_hands 31 = .ok (.aload_n 0, 1) := by decide +kernel
theorem dX8_hands_32 : decode cX8_hands 32 = .ok (.iload_n 1, 1) := by decide +kernel
theorem dX8_hands_33 : decode cX8_hands 33 = .ok (.iload_n 2, 1) := by decide +kernel
theorem dX8_hands_34 : decode cX8_hands 34 = .ok (.invokevirtual 226, 3) := by decide +kernel
theorem dX8_hands_37 : decode cX8_hands 37 = .ok (.iconst 0, 1) := by decide +kernel
theorem dX8_hands_38 : decode cX8_hands 38 = .ok (.istore 4, 2) := by decide +kernel
theorem dX8_hands_40 : decode cX8_hands 40 = .ok (.iconst 0, 1) := by decide +kernel
theorem dX8_hands_41 : decode cX8_hands 41 = .ok (.istore 5, 2) := by decide +kernel
theorem dX8_hands_43 : decode cX8_hands 43 = .ok (.iload 5, 2) := by decide +kernel
theorem dX8_hands_45 : decode cX8_hands 45 = .ok (.iconst 3, 1) := by decide +kernel
theorem dX8_hands_46 : decode cX8_hands 46 = .ok (.if_icmp .gt 53, 3) := by decide +kernel
theorem dX8_hands_49 : decode cX8_hands 49 = .ok (.iconst 0, 1) := by decide +kernel
theorem dX8_hands_50 : decode cX8_hands 50 = .ok (.istore 6, 2) := by decide +kernel
theorem dX8_hands_52 : decode cX8_hands 52 = .ok (.iload 6, 2) := by decide +kernel
theorem dX8_hands_54 : decode cX8_hands 54 = .ok (.iconst 3, 1) := by decide +kernel
theorem dX8_hands_55 : decode cX8_hands 55 = .ok (.if_icmp .gt 38, 3) := by decide +kernel
theorem dX8_hands_58 : decode cX8_hands 58 = .ok (.aload_n 0, 1) := by decide +kernel
theorem dX8_hands_59 : decode cX8_hands 59 = .ok (.iload 5, 2) := by decide +kernel
theorem dX8_hands_61 : decode cX8_hands 61 = .ok (.iload 6, 2) := by decide +kernel
theorem dX8_hands_63 : decode cX8_hands 63 = .ok (.invokevirtual 229, 3) := by decide +kernel
theorem dX8_hands_66 : decode cX8_hands 66 = .ok (.ifCond .eq 21, 3) := by decide +kernel
theorem dX8_hands_69 : decode cX8_hands 69 = .ok (.iload 4, 2) := by decide +kernel
theorem dX8_hands_71 : decode cX8_hands 71 = .ok (.iload_n 3, 1) := by decide +kernel
theorem dX8_hands_72 : decode cX8_hands 72 = .ok (.if_icmp .ne 12, 3) := by decide +kernel
theorem dX8_hands_75 : decode cX8_hands 75 = .ok (.bipush 10, 2) := by decide +kernel
theorem dX8_hands_77 : decode cX8_hands 77 = .ok (.iload 5, 2) := by decide +kernel
theorem dX8_hands_79 : decode cX8_hands 79 = .ok (.imul, 1) := by decide +kernel
theorem dX8_hands_80 : decode cX8_hands 80 = .ok (.iload 6, 2) := by decide +kernel
theorem dX8_hands_82 : decode cX8_hands 82 = .ok (.iadd, 1) := by decide +kernel
theorem dX8_hands_83 : decode cX8_hands 83 = .ok (.ireturn, 1) := by decide +kernel
theorem dX8_hands_84 : decode cX8_hands 84 = .ok (.iinc 4 1, 3) := by decide +kernel
theorem dX8_hands_87 : decode cX8_hands 87 = .ok (.iinc 6 1, 3) := by decide +kernel
theorem dX8_hands_90 : decode cX8_hands 90 = .ok (.goto (-38), 3) := by decide +kernel
theorem dX8_hands_93 : decode cX8_hands 93 = .ok (.iinc 5 1, 3) := by decide +kernel
theorem dX8_hands_96 : decode cX8_hands 96 = .ok (.goto (-53), 3) := by decide +kernel
theorem dX8_hands_99 : decode cX8_hands 99 = .ok (.iload_n 3, 1) := by decide +kernel
theorem dX8_hands_100 : decode cX8_hands 100 = .ok (.iconst (-1), 1) := by decide +kernel
theorem dX8_hands_101 : decode cX8_hands 101 = .ok (.if_icmp .ne 8, 3) := by decide +kernel
theorem dX8_hands_104 : decode cX8_hands 104 = .ok (.iload 4, 2) := by decide +kernel
theorem dX8_hands_106 : decode cX8_hands 106 = .ok (.goto 5, 3) := by decide +kernel
theorem dX8_hands_109 : decode cX8_hands 109 = .ok (.bipush (-5), 2) := by decide +kernel
theorem dX8_hands_111 : decode cX8_hands 111 = .ok (.ireturn, 1) := by decide +kernel
theorem dX8_slip_0 : decode cX8_slip 0 = .ok (.aload_n 0, 1) := by decide +kernel
theorem dX8_slip_1 : decode cX8_slip 1 = .ok (.iload_n 1, 1) := by decide +kernel
theorem dX8_slip_2 : decode cX8_slip 2 = .ok (.invokevirtual 141, 3) := by decide +kernel
theorem dX8_slip_5 : decode cX8_slip 5 = .ok (.ifCond .eq 34, 3) := by decide +kernel
theorem dX8_slip_8 : decode cX8_slip 8 = .ok (.iload_n 2, 1) := by decide +kernel
theorem dX8_slip_9 : decode cX8_slip 9 = .ok (.iconst 0, 1) := by decide +kernel
theorem dX8_slip_10 : decode cX8_slip 10 = .ok (.bipush 99, 2) := by decide +kernel
theorem dX8_slip_12 : decode cX8_slip 12 = .ok (.invokestatic 58, 3) := by decide +kernel
theorem dX8_slip_15 : decode cX8_slip 15 = .ok (.ifCond .eq 24, 3) := by decide +kernel
theorem dX8_slip_18 : decode cX8_slip 18 = .ok (.iload_n 3, 1) := by decide +kernel
theorem dX8_slip_19 : decode cX8_slip 19 = .ok (.iconst 0, 1) := by decide +kernel
theorem dX8_slip_20 : decode cX8_slip 20 = .ok (.bipush 6, 2) := by decide +kernel
theorem dX8_slip_22 : decode cX8_slip 22 = .ok (.invokestatic 58, 3) := by decide +kernel
theorem dX8_slip_25 : decode cX8_slip 25 = .ok (.ifCond .eq 14, 3) := by decide +kernel
theorem dX8_slip_28 : decode cX8_slip 28 = .ok (.iload 4, 2) := by decide +kernel
theorem dX8_slip_30 : decode cX8_slip 30 = .ok (.iconst 0, 1) := by decide +kernel
theorem dX8_slip_31 : decode cX8_slip 31 = .ok (.bipush 10, 2) := by decide +kernel
theorem dX8_slip_33 : decode cX8_slip 33 = .ok (.invokestatic 58, 3) := by decide +kernel
theorem dX8_slip_36 : decode cX8_slip 36 = .ok (.ifCond .ne 8, 3) := by decide +kernel
theorem dX8_slip_39 : decode cX8_slip 39 = .ok (.aload_n 0, 1) := by decide +kernel
theorem dX8_slip_40 : decode cX8_slip 40 = .ok (.invokevirtual 62, 3) := by decide +kernel
theorem dX8_slip_43 : decode cX8_slip 43 = .ok (.ireturn, 1) := by decide +kernel
theorem dX8_slip_44 : decode cX8_slip 44 = .ok (.aload_n 0, 1) := by decide +kernel
theorem dX8_slip_45 : decode cX8_slip 45 = .ok (.getfield 37, 3) := by decide +kernel
theorem dX8_slip_48 : decode cX8_slip 48 = .ok (.aload_n 0, 1) := by decide +kernel
theorem dX8_slip_49 : decode cX8_slip 49 = .ok (.getfield 10, 3) := by decide +kernel
theorem dX8_slip_52 : decode cX8_slip 52 = .ok (.getfield 66, 3) := by decide +kernel
theorem dX8_slip_55 : decode cX8_slip 55 = .ok (.invokevirtual 122, 3) := by decide +kernel
theorem dX8_slip_58 : decode cX8_slip 58 = .ok (.lconst 1, 1) := by decide +kernel
theorem dX8_slip_59 : decode cX8_slip 59 = .ok (.lstore 5, 2) := by decide +kernel
theorem dX8_slip_61 : decode cX8_slip 61 = .ok (.iconst 0, 1) := by decide +kernel
theorem dX8_slip_62 : decode cX8_slip 62 = .ok (.istore 7, 2) := by decide +kernel
theorem dX8_slip_64 : decode cX8_slip 64 = .ok (.iload 7, 2) := by decide +kernel
theorem dX8_slip_66 : decode cX8_slip 66 = .ok (.iload_n 3, 1) := by decide +kernel
theorem dX8_slip_67 : decode cX8_slip 67 = .ok (.if_icmp .ge 17, 3) := by decide +kernel
theorem dX8_slip_70 : decode cX8_slip 70 = .ok (.lload 5, 2) := by decide +kernel
theorem dX8_slip_72 : decode cX8_slip 72 = .ok (.ldc2_w 233, 3) := by decide +kernel
theorem dX8_slip_75 : decode cX8_slip 75 = .ok (.lmul, 1) := by decide +kernel
theorem dX8_slip_76 : decode cX8_slip 76 = .ok (.lstore 5, 2) := by decide +kernel
theorem dX8_slip_78 : decode cX8_slip 78 = .ok (.iinc 7 1, 3) := by decide +kernel
theorem dX8_slip_81 : decode cX8_slip 81 = .ok (.goto (-17), 3) := by decide +kernel
theorem dX8_slip_84 : decode cX8_slip 84 = .ok (.aload_n 0, 1) := by decide +kernel
theorem dX8_slip_85 : decode cX8_slip 85 = .ok (.aload_n 0, 1) := by decide +kernel
theorem dX8_slip_86 : decode cX8_slip 86 = .ok (.getfield 37, 3) := by decide +kernel
theorem dX8_slip_89 : decode cX8_slip 89 = .ok (.iload_n 1, 1) := by decide +kernel
theorem dX8_slip_90 : decode cX8_slip 90 = .ok (.iload_n 2, 1) := by decide +kernel
theorem dX8_slip_91 : decode cX8_slip 91 = .ok (.iload 4, 2) := by decide +kernel
theorem dX8_slip_93 : decode cX8_slip 93 = .ok (.iload_n 3, 1) := by decide +kernel
theorem dX8_slip_94 : decode cX8_slip 94 = .ok (.invokestatic 235, 3) := by decide +kernel
theorem dX8_slip_97 : decode cX8_slip 97 = .ok (.lload 5, 2) := by decide +kernel
theorem dX8_slip_99 : decode cX8_slip 99 = .ok (.invokevirtual 239, 3) := by decide +kernel
theorem dX8_slip_102 : decode cX8_slip 102 = .ok (.iconst 1, 1) := by decide +kernel
theorem dX8_slip_103 : decode cX8_slip 103 = .ok (.ireturn, 1) := by decide +kernel
theorem dX8_evenings_0 : decode cX8_evenings 0 = .ok (.iload_n 1, 1) := by decide +kernel
theorem dX8_evenings_1 : decode cX8_evenings 1 = .ok (.iconst 0, 1) := by decide +kernel
theorem dX8_evenings_2 : decode cX8_evenings 2 = .ok (.ldc 243, 2) := by decide +kernel
theorem dX8_evenings_4 : decode cX8_evenings 4 = .ok (.invokestatic 58, 3) := by decide +kernel
theorem dX8_evenings_7 : decode cX8_evenings 7 = .ok (.ifCond .eq 13, 3) := by decide +kernel
theorem dX8_evenings_10 : decode cX8_evenings 10 = .ok (.iload_n 2, 1) := by decide +kernel
theorem dX8_evenings_11 : decode cX8_evenings 11 = .ok (.iconst 0, 1) := by decide +kernel
theorem dX8_evenings_12 : decode cX8_evenings 12 = .ok (.bipush 60, 2) := by decide +kernel
theorem dX8_evenings_14 : decode cX8_evenings 14 = .ok (.invokestatic 58, 3) := by decide +kernel
theorem dX8_evenings_17 : decode cX8_evenings 17 = .ok (.ifCond .ne 8, 3) := by decide +kernel
theorem dX8_evenings_20 : decode cX8_evenings 20 = .ok (.aload_n 0, 1) := by decide +kernel
theorem dX8_evenings_21 : decode cX8_evenings 21 = .ok (.invokevirtual 62, 3) := by decide +kernel
theorem dX8_evenings_24 : decode cX8_evenings 24 = .ok (.ireturn, 1) := by decide +kernel
theorem dX8_evenings_25 : decode cX8_evenings 25 = .ok (.aload_n 0, 1) := by decide +kernel
theorem dX8_evenings_26 : decode cX8_evenings 26 = .ok (.getfield 37, 3) := by decide +kernel
theorem dX8_evenings_29 : decode cX8_evenings 29 = .ok (.aload_n 0, 1) := by decide +kernel
theorem dX8_evenings_30 : decode cX8_evenings 30 = .ok (.getfield 10, 3) := by decide +kernel
theorem dX8_evenings_33 : decode cX8_evenings 33 = .ok (.getfield 66, 3) := by decide +kernel
theorem dX8_evenings_36 : decode cX8_evenings 36 = .ok (.invokevirtual 122, 3) := by decide +kernel
theorem dX8_evenings_39 : decode cX8_evenings 39 = .ok (.iload_n 1, 1) := by decide +kernel
theorem dX8_evenings_40 : decode cX8_evenings 40 = .ok (.i2l, 1) := by decide +kernel
theorem dX8_evenings_41 : decode cX8_evenings 41 = .ok (.lstore_n 3, 1) := by decide +kernel
theorem dX8_evenings_42 : decode cX8_evenings 42 = .ok (.iconst 0, 1) := by decide +kernel
theorem dX8_evenings_43 : decode cX8_evenings 43 = .ok (.istore 5, 2) := by decide +kernel
theorem dX8_evenings_45 : decode cX8_evenings 45 = .ok (.iconst 0, 1) := by decide +kernel
theorem dX8_evenings_46 : decode cX8_evenings 46 = .ok (.istore 6, 2) := by decide +kernel
theorem dX8_evenings_48 : decode cX8_evenings 48 = .ok (.iload 6, 2) := by decide +kernel
theorem dX8_evenings_50 : decode cX8_evenings 50 = .ok (.iload_n 2, 1) := by decide +kernel
theorem dX8_evenings_51 : decode cX8_evenings 51 = .ok (.if_icmp .ge 54, 3) := by decide +kernel
theorem dX8_evenings_54 : decode cX8_evenings 54 = .ok (.lload_n 3, 1) := by decide +kernel
theorem dX8_evenings_55 : decode cX8_evenings 55 = .ok (.ldc2_w 244, 3) := by decide +kernel
theorem dX8_evenings_58 : decode cX8_evenings 58 = .ok (.lmul, 1) := by decide +kernel
theorem dX8_evenings_59 : decode cX8_evenings 59 = .ok (.ldc2_w 246, 3) := by decide +kernel
theorem dX8_evenings_62 : decode cX8_evenings 62 = .ok (.ladd, 1) := by decide +kernel
theorem dX8_evenings_63 : decode cX8_evenings 63 = .ok (.ldc2_w 248, 3) := by decide +kernel
theorem dX8_evenings_66 : decode cX8_evenings 66 = .ok (.lrem, 1) := by decide +kernel
theorem dX8_evenings_67 : decode cX8_evenings 67 = .ok (.lstore_n 3, 1) := by decide +kernel
theorem dX8_evenings_68 : decode cX8_evenings 68 = .ok (.aload_n 0, 1) := by decide +kernel
theorem dX8_evenings_69 : decode cX8_evenings 69 = .ok (.getfield 37, 3) := by decide +kernel
theorem dX8_evenings_72 : decode cX8_evenings 72 = .ok (.lload_n 3, 1) := by decide +kernel
theorem dX8_evenings_73 : decode cX8_evenings 73 = .ok (.ldc2_w 250, 3) := by decide +kernel
theorem dX8_evenings_76 : decode cX8_evenings 76 = .ok (.ldiv, 1) := by decide +kernel
theorem dX8_evenings_77 : decode cX8_evenings 77 = .ok (.ldc2_w 252, 3) := by decide +kernel
theorem dX8_evenings_80 : decode cX8_evenings 80 = .ok (.lrem, 1) := by decide +kernel
theorem dX8_evenings_81 : decode cX8_evenings 81 = .ok (.l2i, 1) := by decide +kernel
theorem dX8_evenings_82 : decode cX8_evenings 82 = .ok (.putfield 138, 3) := by decide +kernel
theorem dX8_evenings_85 : decode cX8_evenings 85 = .ok (.aload_n 0, 1) := by decide +kernel
theorem dX8_evenings_86 : decode cX8_evenings 86 = .ok (.getfield 37, 3) := by decide +kernel
theorem dX8_evenings_89 : decode cX8_evenings 89 = .ok (.invokevirtual 132, 3) := by decide +kernel
theorem dX8_evenings_92 : decode cX8_evenings 92 = .ok (.iconst (-1), 1) := by decide +kernel
theorem dX8_evenings_93 : decode cX8_evenings 93 = .ok (.if_icmp .eq 6, 3) := by decide +kernel
theorem dX8_evenings_96 : decode cX8_evenings 96 = .ok (.iinc 5 1, 3) := by decide +kernel
theorem dX8_evenings_99 : decode cX8_evenings 99 = .ok (.iinc 6 1, 3) := by decide +kernel
theorem dX8_evenings_102 : decode cX8_evenings 102 = .ok (.goto (-54), 3) := by decide +kernel
theorem dX8_evenings_105 : decode cX8_evenings 105 = .ok (.iload 5, 2) := by decide +kernel
theorem dX8_evenings_107 : decode cX8_evenings 107 = .ok (.ireturn, 1) := by decide +kernel
theorem dX8_part_0 : decode cX8_part 0 = .ok (.iload_n 1, 1) := by decide +kernel
theorem dX8_part_1 : decode cX8_part 1 = .ok (.iconst 0, 1) := by decide +kernel
theorem dX8_part_2 : decode cX8_part 2 = .ok (.iconst 1, 1) := by decide +kernel
theorem dX8_part_3 : decode cX8_part 3 = .ok (.invokestatic 58, 3) := by decide +kernel
theorem dX8_part_6 : decode cX8_part 6 = .ok (.ifCond .ne 9, 3) := by decide +kernel
theorem dX8_part_9 : decode cX8_part 9 = .ok (.aload_n 0, 1) := by decide +kernel
theorem dX8_part_10 : decode cX8_part 10 = .ok (.invokevirtual 62, 3) := by decide +kernel
theorem dX8_part_13 : decode cX8_part 13 = .ok (.i2l, 1) := by decide +kernel
theorem dX8_part_14 : decode cX8_part 14 = .ok (.lreturn, 1) := by decide +kernel
theorem dX8_part_15 : decode cX8_part 15 = .ok (.iload_n 1, 1) := by decide +kernel
theorem dX8_part_16 : decode cX8_part 16 = .ok (.ifCond .ne 10, 3) := by decide +kernel
theorem dX8_part_19 : decode cX8_part 19 = .ok (.aload_n 0, 1) := by decide +kernel
theorem dX8_part_20 : decode cX8_part 20 = .ok (.getfield 27, 3) := by decide +kernel
theorem dX8_part_23 : decode cX8_part 23 = .ok (.goto 7, 3) := by decide +kernel
theorem dX8_part_26 : decode cX8_part 26 = .ok (.aload_n 0, 1) := by decide +kernel
theorem dX8_part_27 : decode cX8_part 27 = .ok (.getfield 31, 3) := by decide +kernel
theorem dX8_part_30 : decode cX8_part 30 = .ok (.lreturn, 1) := by decide +kernel
theorem dX8_image_0 : decode cX8_image 0 = .ok (.iload_n 1, 1) := by decide +kernel
theorem dX8_image_1 : decode cX8_image 1 = .ok (.iconst 0, 1) := by decide +kernel
theorem dX8_image_2 : decode cX8_image 2 = .ok (.iconst 1, 1) := by decide +kernel
theorem dX8_image_3 : decode cX8_image 3 = .ok (.invokestatic 58, 3) := by decide +kernel
theorem dX8_image_6 : decode cX8_image 6 = .ok (.ifCond .ne 8, 3) := by decide +kernel
theorem dX8_image_9 : decode cX8_image 9 = .ok (.aload_n 0, 1) := by decide +kernel
theorem dX8_image_10 : decode cX8_image 10 = .ok (.invokevirtual 62, 3) := by decide +kernel
theorem dX8_image_13 : decode cX8_image 13 = .ok (.ireturn, 1) := by decide +kernel
theorem dX8_image_14 : decode cX8_image 14 = .ok (.aload_n 0, 1) := by decide +kernel
theorem dX8_image_15 : decode cX8_image 15 = .ok (.getfield 16, 3) := by decide +kernel
theorem dX8_image_18 : decode cX8_image 18 = .ok (.iload_n 1, 1) := by decide +kernel
theorem dX8_image_19 : decode cX8_image 19 = .ok (.aaload, 1) := by decide +kernel
theorem dX8_image_20 : decode cX8_image 20 = .ok (.astore_n 2, 1) := by decide +kernel
theorem dX8_image_21 : decode cX8_image 21 = .ok (.aload_n 2, 1) := by decide +kernel
theorem dX8_image_22 : decode cX8_image 22 = .ok (.ifnonnull 18, 3) := by decide +kernel
theorem dX8_image_25 : decode cX8_image 25 = .ok (.new 7, 3) := by decide +kernel
theorem dX8_image_28 : decode cX8_image 28 = .ok (.dup, 1) := by decide +kernel
theorem dX8_image_29 : decode cX8_image 29 = .ok (.invokespecial 9, 3) := by decide +kernel
theorem dX8_image_32 : decode cX8_image 32 = .ok (.astore_n 2, 1) := by decide +kernel
theorem dX8_image_33 : decode cX8_image 33 = .ok (.aload_n 0, 1) := by decide +kernel
theorem dX8_image_34 : decode cX8_image 34 = .ok (.getfield 16, 3) := by decide +kernel
theorem dX8_image_37 : decode cX8_image 37 = .ok (.iload_n 1, 1) := by decide +kernel
theorem dX8_image_38 : decode cX8_image 38 = .ok (.aload_n 2, 1) := by decide +kernel
theorem dX8_image_39 : decode cX8_image 39 = .ok (.aastore, 1) := by decide +kernel
theorem dX8_image_40 : decode cX8_image 40 = .ok (.aload_n 2, 1) := by decide +kernel
theorem dX8_image_41 : decode cX8_image 41 = .ok (.aload_n 0, 1) := by decide +kernel
theorem dX8_image_42 : decode cX8_image 42 = .ok (.getfield 10, 3) := by decide +kernel
theorem dX8_image_45 : decode cX8_image 45 = .ok (.invokevirtual 254, 3) := by decide +kernel
theorem dX8_image_48 : decode cX8_image 48 = .ok (.iconst 1, 1) := by decide +kernel
theorem dX8_image_49 : decode cX8_image 49 = .ok (.ireturn, 1) := by decide +kernel
theorem dX8_from_0 : decode cX8_from 0 = .ok (.iload_n 1, 1) := by decide +kernel
theorem dX8_from_1 : decode cX8_from 1 = .ok (.iconst 0, 1) := by decide +kernel
theorem dX8_from_2 : decode cX8_from 2 = .ok (.iconst 1, 1) := by decide +kernel
theorem dX8_from_3 : decode cX8_from 3 = .ok (.invokestatic 58, 3) := by decide +kernel
theorem dX8_from_6 : decode cX8_from 6 = .ok (.ifCond .ne 8, 3) := by decide +kernel
theorem dX8_from_9 : decode cX8_from 9 = .ok (.aload_n 0, 1) := by decide +kernel
theorem dX8_from_10 : decode cX8_from 10 = .ok (.invokevirtual 62, 3) := by decide +kernel
theorem dX8_from_13 : decode cX8_from 13 = .ok (.ireturn, 1) := by decide +kernel
theorem dX8_from_14 : decode cX8_from 14 = .ok (.aload_n 0, 1) := by decide +kernel
theorem dX8_from_15 : decode cX8_from 15 = .ok (.getfield 16, 3) := by decide +kernel
theorem dX8_from_18 : decode cX8_from 18 = .ok (.iload_n 1, 1) := by decide +kernel
theorem dX8_from_19 : decode cX8_from 19 = .ok (.aaload, 1) := by decide +kernel
theorem dX8_from_20 : decode cX8_from 20 = .ok (.astore_n 2, 1) := by decide +kernel
theorem dX8_from_21 : decode cX8_from 21 = .ok (.aload_n 2, 1) := by decide +kernel
theorem dX8_from_22 : decode cX8_from 22 = .ok (.ifnonnull 8, 3) := by decide +kernel
theorem dX8_from_25 : decode cX8_from 25 = .ok (.aload_n 0, 1) := by decide +kernel
theorem dX8_from_26 : decode cX8_from 26 = .ok (.invokevirtual 104, 3) := by decide +kernel
theorem dX8_from_29 : decode cX8_from 29 = .ok (.ireturn, 1) := by decide +kernel
theorem dX8_from_30 : decode cX8_from 30 = .ok (.aload_n 0, 1) := by decide +kernel
theorem dX8_from_31 : decode cX8_from 31 = .ok (.getfield 10, 3) := by decide +kernel
theorem dX8_from_34 : decode cX8_from 34 = .ok (.aload_n 2, 1) := by decide +kernel
theorem dX8_from_35 : decode cX8_from 35 = .ok (.invokevirtual 254, 3) := by decide +kernel
theorem dX8_from_38 : decode cX8_from 38 = .ok (.iconst 1, 1) := by decide +kernel
theorem dX8_from_39 : decode cX8_from 39 = .ok (.ireturn, 1) := by decide +kernel
theorem dX8_status_0 : decode cX8_status 0 = .ok (.iload_n 1, 1) := by decide +kernel
theorem dX8_status_1 : decode cX8_status 1 = .ok (.tableswitch 42 0 2 #[27, 32, 37], 27) := by decide +kernel
theorem dX8_status_28 : decode cX8_status 28 = .ok (.aload_n 0, 1) := by decide +kernel
theorem dX8_status_29 : decode cX8_status 29 = .ok (.getfield 257, 3) := by decide +kernel
theorem dX8_status_32 : decode cX8_status 32 = .ok (.ireturn, 1) := by decide +kernel
theorem dX8_status_33 : decode cX8_status 33 = .ok (.aload_n 0, 1) := by decide +kernel
theorem dX8_status_34 : decode cX8_status 34 = .ok (.getfield 260, 3) := by decide +kernel
theorem dX8_status_37 : decode cX8_status 37 = .ok (.ireturn, 1) := by decide +kernel
theorem dX8_status_38 : decode cX8_status 38 = .ok (.aload_n 0, 1) := by decide +kernel
theorem dX8_status_39 : decode cX8_status 39 = .ok (.getfield 263, 3) := by decide +kernel
theorem dX8_status_42 : decode cX8_status 42 = .ok (.ireturn, 1) := by decide +kernel
theorem dX8_status_43 : decode cX8_status 43 = .ok (.aload_n 0, 1) := by decide +kernel
theorem dX8_status_44 : decode cX8_status 44 = .ok (.invokevirtual 62, 3) := by decide +kernel
theorem dX8_status_47 : decode cX8_status 47 = .ok (.pop, 1) := by decide +kernel
theorem dX8_status_48 : decode cX8_status 48 = .ok (.iconst (-1), 1) := by decide +kernel
theorem dX8_status_49 : decode cX8_status 49 = .ok (.ireturn, 1) := by decide +kernel
theorem dX8_count_0 : decode cX8_count 0 = .ok (.iload_n 1, 1) := by decide +kernel
theorem dX8_count_1 : decode cX8_count 1 = .ok (.iconst 0, 1) := by decide +kernel
theorem dX8_count_2 : decode cX8_count 2 = .ok (.bipush 11, 2) := by decide +kernel
theorem dX8_count_4 : decode cX8_count 4 = .ok (.invokestatic 58, 3) := by decide +kernel
theorem dX8_count_7 : decode cX8_count 7 = .ok (.ifCond .eq 11, 3) := by decide +kernel
theorem dX8_count_10 : decode cX8_count 10 = .ok (.aload_n 0, 1) := by decide +kernel
theorem dX8_count_11 : decode cX8_count 11 = .ok (.iload_n 1, 1) := by decide +kernel
theorem dX8_count_12 : decode cX8_count 12 = .ok (.invokevirtual 266, 3) := by decide +kernel
theorem dX8_count_15 : decode cX8_count 15 = .ok (.goto 7, 3) := by decide +kernel
theorem dX8_count_18 : decode cX8_count 18 = .ok (.aload_n 0, 1) := by decide +kernel
theorem dX8_count_19 : decode cX8_count 19 = .ok (.invokevirtual 62, 3) := by decide +kernel
theorem dX8_count_22 : decode cX8_count 22 = .ok (.ireturn, 1) := by decide +kernel
theorem dX8_digest_0 : decode cX8_digest 0 = .ok (.ldc2_w 269, 3) := by decide +kernel
theorem dX8_digest_3 : decode cX8_digest 3 = .ok (.lstore_n 1, 1) := by decide +kernel
theorem dX8_digest_4 : decode cX8_digest 4 = .ok (.iconst 0, 1) := by decide +kernel
theorem dX8_digest_5 : decode cX8_digest 5 = .ok (.istore_n 3, 1) := by decide +kernel
theorem dX8_digest_6 : decode cX8_digest 6 = .ok (.iload_n 3, 1) := by decide +kernel
theorem dX8_digest_7 : decode cX8_digest 7 = .ok (.bipush 12, 2) := by decide +kernel
theorem dX8_digest_9 : decode cX8_digest 9 = .ok (.if_icmp .ge 22, 3) := by decide +kernel
theorem dX8_digest_12 : decode cX8_digest 12 = .ok (.ldc2_w 271, 3) := by decide +kernel
theorem dX8_digest_15 : decode cX8_digest 15 = .ok (.lload_n 1, 1) := by decide +kernel
theorem dX8_digest_16 : decode cX8_digest 16 = .ok (.lmul, 1) := by decide +kernel
theorem dX8_digest_17 : decode cX8_digest 17 = .ok (.aload_n 0, 1) := by decide +kernel
theorem dX8_digest_18 : decode cX8_digest 18 = .ok (.iload_n 3, 1) := by decide +kernel
theorem dX8_digest_19 : decode cX8_digest 19 = .ok (.invokevirtual 266, 3) := by decide +kernel
theorem dX8_digest_22 : decode cX8_digest 22 = .ok (.i2l, 1) := by decide +kernel
theorem dX8_digest_23 : decode cX8_digest 23 = .ok (.ladd, 1) := by decide +kernel
theorem dX8_digest_24 : decode cX8_digest 24 = .ok (.lstore_n 1, 1) := by decide +kernel
theorem dX8_digest_25 : decode cX8_digest 25 = .ok (.iinc 3 1, 3) := by decide +kernel
theorem dX8_digest_28 : decode cX8_digest 28 = .ok (.goto (-22), 3) := by decide +kernel
theorem dX8_digest_31 : decode cX8_digest 31 = .ok (.aload_n 0, 1) := by decide +kernel
theorem dX8_digest_32 : decode cX8_digest 32 = .ok (.getfield 10, 3) := by decide +kernel
theorem dX8_digest_35 : decode cX8_digest 35 = .ok (.getfield 66, 3) := by decide +kernel
theorem dX8_digest_38 : decode cX8_digest 38 = .ok (.lload_n 1, 1) := by decide +kernel
theorem dX8_digest_39 : decode cX8_digest 39 = .ok (.invokevirtual 273, 3) := by decide +kernel
theorem dX8_digest_42 : decode cX8_digest 42 = .ok (.lstore_n 1, 1) := by decide +kernel
theorem dX8_digest_43 : decode cX8_digest 43 = .ok (.aload_n 0, 1) := by decide +kernel
theorem dX8_digest_44 : decode cX8_digest 44 = .ok (.getfield 10, 3) := by decide +kernel
theorem dX8_digest_47 : decode cX8_digest 47 = .ok (.getfield 196, 3) := by decide +kernel
theorem dX8_digest_50 : decode cX8_digest 50 = .ok (.lload_n 1, 1) := by decide +kernel
theorem dX8_digest_51 : decode cX8_digest 51 = .ok (.invokevirtual 277, 3) := by decide +kernel
theorem dX8_digest_54 : decode cX8_digest 54 = .ok (.lstore_n 1, 1) := by decide +kernel
theorem dX8_digest_55 : decode cX8_digest 55 = .ok (.aload_n 0, 1) := by decide +kernel
theorem dX8_digest_56 : decode cX8_digest 56 = .ok (.getfield 10, 3) := by decide +kernel
theorem dX8_digest_59 : decode cX8_digest 59 = .ok (.getfield 217, 3) := by decide +kernel
theorem dX8_digest_62 : decode cX8_digest 62 = .ok (.lload_n 1, 1) := by decide +kernel
theorem dX8_digest_63 : decode cX8_digest 63 = .ok (.invokevirtual 277, 3) := by decide +kernel
theorem dX8_digest_66 : decode cX8_digest 66 = .ok (.lstore_n 1, 1) := by decide +kernel
theorem dX8_digest_67 : decode cX8_digest 67 = .ok (.aload_n 0, 1) := by decide +kernel
theorem dX8_digest_68 : decode cX8_digest 68 = .ok (.getfield 10, 3) := by decide +kernel
theorem dX8_digest_71 : decode cX8_digest 71 = .ok (.getfield 220, 3) := by decide +kernel
theorem dX8_digest_74 : decode cX8_digest 74 = .ok (.lload_n 1, 1) := by decide +kernel
theorem dX8_digest_75 : decode cX8_digest 75 = .ok (.invokevirtual 277, 3) := by decide +kernel
theorem dX8_digest_78 : decode cX8_digest 78 = .ok (.lstore_n 1, 1) := by decide +kernel
theorem dX8_digest_79 : decode cX8_digest 79 = .ok (.ldc2_w 271, 3) := by decide +kernel
theorem dX8_digest_82 : decode cX8_digest 82 = .ok (.lload_n 1, 1) := by decide +kernel
theorem dX8_digest_83 : decode cX8_digest 83 = .ok (.lmul, 1) := by decide +kernel
theorem dX8_digest_84 : decode cX8_digest 84 = .ok (.aload_n 0, 1) := by decide +kernel
theorem dX8_digest_85 : decode cX8_digest 85 = .ok (.getfield 27, 3) := by decide +kernel
theorem dX8_digest_88 : decode cX8_digest 88 = .ok (.ladd, 1) := by decide +kernel
theorem dX8_digest_89 : decode cX8_digest 89 = .ok (.lstore_n 1, 1) := by decide +kernel
theorem dX8_digest_90 : decode cX8_digest 90 = .ok (.ldc2_w 271, 3) := by decide +kernel
theorem dX8_digest_93 : decode cX8_digest 93 = .ok (.lload_n 1, 1) := by decide +kernel
theorem dX8_digest_94 : decode cX8_digest 94 = .ok (.lmul, 1) := by decide +kernel
theorem dX8_digest_95 : decode cX8_digest 95 = .ok (.aload_n 0, 1) := by decide +kernel
theorem dX8_digest_96 : decode cX8_digest 96 = .ok (.getfield 31, 3) := by decide +kernel
theorem dX8_digest_99 : decode cX8_digest 99 = .ok (.ladd, 1) := by decide +kernel
theorem dX8_digest_100 : decode cX8_digest 100 = .ok (.lreturn, 1) := by decide +kernel
theorem dX8_bad_0 : decode cX8_bad 0 = .ok (.aload_n 0, 1) := by decide +kernel
theorem dX8_bad_1 : decode cX8_bad 1 = .ok (.dup, 1) := by decide +kernel
theorem dX8_bad_2 : decode cX8_bad 2 = .ok (.getfield 257, 3) := by decide +kernel
theorem dX8_bad_5 : decode cX8_bad 5 = .ok (.iconst 1, 1) := by decide +kernel
theorem dX8_bad_6 : decode cX8_bad 6 = .ok (.iadd, 1) := by decide +kernel
theorem dX8_bad_7 : decode cX8_bad 7 = .ok (.putfield 257, 3) := by decide +kernel
theorem dX8_bad_10 : decode cX8_bad 10 = .ok (.bipush (-2), 2) := by decide +kernel
theorem dX8_bad_12 : decode cX8_bad 12 = .ok (.ireturn, 1) := by decide +kernel
theorem dX8_badOfList_0 : decode cX8_badOfList 0 = .ok (.aload_n 0, 1) := by decide +kernel
theorem dX8_badOfList_1 : decode cX8_badOfList 1 = .ok (.dup, 1) := by decide +kernel
theorem dX8_badOfList_2 : decode cX8_badOfList 2 = .ok (.getfield 257, 3) := by decide +kernel
theorem dX8_badOfList_5 : decode cX8_badOfList 5 = .ok (.iconst 1, 1) := by decide +kernel
theorem dX8_badOfList_6 : decode cX8_badOfList 6 = .ok (.iadd, 1) := by decide +kernel
theorem dX8_badOfList_7 : decode cX8_badOfList 7 = .ok (.putfield 257, 3) := by decide +kernel
theorem dX8_badOfList_10 : decode cX8_badOfList 10 = .ok (.bipush (-10), 2) := by decide +kernel
theorem dX8_badOfList_12 : decode cX8_badOfList 12 = .ok (.ireturn, 1) := by decide +kernel
theorem dX8_no_0 : decode cX8_no 0 = .ok (.aload_n 0, 1) := by decide +kernel
theorem dX8_no_1 : decode cX8_no 1 = .ok (.dup, 1) := by decide +kernel
theorem dX8_no_2 : decode cX8_no 2 = .ok (.getfield 260, 3) := by decide +kernel
theorem dX8_no_5 : decode cX8_no 5 = .ok (.iconst 1, 1) := by decide +kernel
theorem dX8_no_6 : decode cX8_no 6 = .ok (.iadd, 1) := by decide +kernel
theorem dX8_no_7 : decode cX8_no 7 = .ok (.putfield 260, 3) := by decide +kernel
theorem dX8_no_10 : decode cX8_no 10 = .ok (.bipush (-3), 2) := by decide +kernel
theorem dX8_no_12 : decode cX8_no 12 = .ok (.ireturn, 1) := by decide +kernel
theorem dX8_full_0 : decode cX8_full 0 = .ok (.aload_n 0, 1) := by decide +kernel
theorem dX8_full_1 : decode cX8_full 1 = .ok (.dup, 1) := by decide +kernel
theorem dX8_full_2 : decode cX8_full 2 = .ok (.getfield 263, 3) := by decide +kernel
theorem dX8_full_5 : decode cX8_full 5 = .ok (.iconst 1, 1) := by decide +kernel
theorem dX8_full_6 : decode cX8_full 6 = .ok (.iadd, 1) := by decide +kernel
theorem dX8_full_7 : decode cX8_full 7 = .ok (.putfield 263, 3) := by decide +kernel
theorem dX8_full_10 : decode cX8_full 10 = .ok (.bipush (-4), 2) := by decide +kernel
theorem dX8_full_12 : decode cX8_full 12 = .ok (.ireturn, 1) := by decide +kernel
theorem dX8_within_0 : decode cX8_within 0 = .ok (.iload_n 0, 1) := by decide +kernel
theorem dX8_within_1 : decode cX8_within 1 = .ok (.iload_n 1, 1) := by decide +kernel
theorem dX8_within_2 : decode cX8_within 2 = .ok (.if_icmp .lt 12, 3) := by decide +kernel
theorem dX8_within_5 : decode cX8_within 5 = .ok (.iload_n 0, 1) := by decide +kernel
theorem dX8_within_6 : decode cX8_within 6 = .ok (.iload_n 2, 1) := by decide +kernel
theorem dX8_within_7 : decode cX8_within 7 = .ok (.if_icmp .gt 7, 3) := by decide +kernel
theorem dX8_within_10 : decode cX8_within 10 = .ok (.iconst 1, 1) := by decide +kernel
theorem dX8_within_11 : decode cX8_within 11 = .ok (.goto 4, 3) := by decide +kernel
theorem dX8_within_14 : decode cX8_within 14 = .ok (.iconst 0, 1) := by decide +kernel
theorem dX8_within_15 : decode cX8_within 15 = .ok (.ireturn, 1) := by decide +kernel
theorem dX8_isSeat_0 : decode cX8_isSeat 0 = .ok (.iload_n 1, 1) := by decide +kernel
theorem dX8_isSeat_1 : decode cX8_isSeat 1 = .ok (.iconst 0, 1) := by decide +kernel
theorem dX8_isSeat_2 : decode cX8_isSeat 2 = .ok (.aload_n 0, 1) := by decide +kernel
theorem dX8_isSeat_3 : decode cX8_isSeat 3 = .ok (.getfield 10, 3) := by decide +kernel
theorem dX8_isSeat_6 : decode cX8_isSeat 6 = .ok (.getfield 66, 3) := by decide +kernel
theorem dX8_isSeat_9 : decode cX8_isSeat 9 = .ok (.getfield 278, 3) := by decide +kernel
theorem dX8_isSeat_12 : decode cX8_isSeat 12 = .ok (.iconst 1, 1) := by decide +kernel
theorem dX8_isSeat_13 : decode cX8_isSeat 13 = .ok (.isub, 1) := by decide +kernel
theorem dX8_isSeat_14 : decode cX8_isSeat 14 = .ok (.invokestatic 58, 3) := by decide +kernel
theorem dX8_isSeat_17 : decode cX8_isSeat 17 = .ok (.ireturn, 1) := by decide +kernel
theorem dX8_isRider_0 : decode cX8_isRider 0 = .ok (.iload_n 1, 1) := by decide +kernel
theorem dX8_isRider_1 : decode cX8_isRider 1 = .ok (.iconst 0, 1) := by decide +kernel
theorem dX8_isRider_2 : decode cX8_isRider 2 = .ok (.aload_n 0, 1) := by decide +kernel
theorem dX8_isRider_3 : decode cX8_isRider 3 = .ok (.getfield 10, 3) := by decide +kernel
theorem dX8_isRider_6 : decode cX8_isRider 6 = .ok (.getfield 66, 3) := by decide +kernel
theorem dX8_isRider_9 : decode cX8_isRider 9 = .ok (.getfield 69, 3) := by decide +kernel
theorem dX8_isRider_12 : decode cX8_isRider 12 = .ok (.iconst 1, 1) := by decide +kernel
theorem dX8_isRider_13 : decode cX8_isRider 13 = .ok (.isub, 1) := by decide +kernel
theorem dX8_isRider_14 : decode cX8_isRider 14 = .ok (.invokestatic 58, 3) := by decide +kernel
theorem dX8_isRider_17 : decode cX8_isRider 17 = .ok (.ireturn, 1) := by decide +kernel
theorem dX8_howMany_0 : decode cX8_howMany 0 = .ok (.iload_n 1, 1) := by decide +kernel
theorem dX8_howMany_1 : decode cX8_howMany 1 = .ok (.tableswitch 180 0 10 #[59, 70, 81, 92, 103, 114, 125, 136, 147, 158, 169], 59) := by decide +kernel
theorem dX8_howMany_60 : decode cX8_howMany 60 = .ok (.aload_n 0, 1) := by decide +kernel
theorem dX8_howMany_61 : decode cX8_howMany 61 = .ok (.getfield 10, 3) := by decide +kernel
theorem dX8_howMany_64 : decode cX8_howMany 64 = .ok (.getfield 66, 3) := by decide +kernel
theorem dX8_howMany_67 : decode cX8_howMany 67 = .ok (.getfield 278, 3) := by decide +kernel
theorem dX8_howMany_70 : decode cX8_howMany 70 = .ok (.ireturn, 1) := by decide +kernel
theorem dX8_howMany_71 : decode cX8_howMany 71 = .ok (.aload_n 0, 1) := by decide +kernel
theorem dX8_howMany_72 : decode cX8_howMany 72 = .ok (.getfield 10, 3) := by decide +kernel
theorem dX8_howMany_75 : decode cX8_howMany 75 = .ok (.getfield 66, 3) := by decide +kernel
theorem dX8_howMany_78 : decode cX8_howMany 78 = .ok (.getfield 69, 3) := by decide +kernel
theorem dX8_howMany_81 : decode cX8_howMany 81 = .ok (.ireturn, 1) := by decide +kernel
theorem dX8_howMany_82 : decode cX8_howMany 82 = .ok (.aload_n 0, 1) := by decide +kernel
theorem dX8_howMany_83 : decode cX8_howMany 83 = .ok (.getfield 10, 3) := by decide +kernel
theorem dX8_howMany_86 : decode cX8_howMany 86 = .ok (.getfield 66, 3) := by decide +kernel
theorem dX8_howMany_89 : decode cX8_howMany 89 = .ok (.getfield 135, 3) := by decide +kernel
theorem dX8_howMany_92 : decode cX8_howMany 92 = .ok (.ireturn, 1) := by decide +kernel
theorem dX8_howMany_93 : decode cX8_howMany 93 = .ok (.aload_n 0, 1) := by decide +kernel
theorem dX8_howMany_94 : decode cX8_howMany 94 = .ok (.getfield 10, 3) := by decide +kernel
theorem dX8_howMany_97 : decode cX8_howMany 97 = .ok (.getfield 66, 3) := by decide +kernel
theorem dX8_howMany_100 : decode cX8_howMany 100 = .ok (.getfield 138, 3) := by decide +kernel
theorem dX8_howMany_103 : decode cX8_howMany 103 = .ok (.ireturn, 1) := by decide +kernel
theorem dX8_howMany_104 : decode cX8_howMany 104 = .ok (.aload_n 0, 1) := by decide +kernel
theorem dX8_howMany_105 : decode cX8_howMany 105 = .ok (.getfield 10, 3) := by decide +kernel
theorem dX8_howMany_108 : decode cX8_howMany 108 = .ok (.getfield 66, 3) := by decide +kernel
theorem dX8_howMany_111 : decode cX8_howMany 111 = .ok (.getfield 147, 3) := by decide +kernel
theorem dX8_howMany_114 : decode cX8_howMany 114 = .ok (.ireturn, 1) := by decide +kernel
theorem dX8_howMany_115 : decode cX8_howMany 115 = .ok (.aload_n 0, 1) := by decide +kernel
theorem dX8_howMany_116 : decode cX8_howMany 116 = .ok (.getfield 10, 3) := by decide +kernel
theorem dX8_howMany_119 : decode cX8_howMany 119 = .ok (.getfield 66, 3) := by decide +kernel
theorem dX8_howMany_122 : decode cX8_howMany 122 = .ok (.getfield 129, 3) := by decide +kernel
theorem dX8_howMany_125 : decode cX8_howMany 125 = .ok (.ireturn, 1) := by decide +kernel
theorem dX8_howMany_126 : decode cX8_howMany 126 = .ok (.aload_n 0, 1) := by decide +kernel
theorem dX8_howMany_127 : decode cX8_howMany 127 = .ok (.getfield 10, 3) := by decide +kernel
theorem dX8_howMany_130 : decode cX8_howMany 130 = .ok (.getfield 66, 3) := by decide +kernel
theorem dX8_howMany_133 : decode cX8_howMany 133 = .ok (.invokevirtual 281, 3) := by decide +kernel
theorem dX8_howMany_136 : decode cX8_howMany 136 = .ok (.ireturn, 1) := by decide +kernel
theorem dX8_howMany_137 : decode cX8_howMany 137 = .ok (.aload_n 0, 1) := by decide +kernel
theorem dX8_howMany_138 : decode cX8_howMany 138 = .ok (.getfield 10, 3) := by decide +kernel
theorem dX8_howMany_141 : decode cX8_howMany 141 = .ok (.getfield 196, 3) := by decide +kernel
theorem dX8_howMany_144 : decode cX8_howMany 144 = .ok (.getfield 210, 3) := by decide +kernel
theorem dX8_howMany_147 : decode cX8_howMany 147 = .ok (.ireturn, 1) := by decide +kernel
theorem dX8_howMany_148 : decode cX8_howMany 148 = .ok (.aload_n 0, 1) := by decide +kernel
theorem dX8_howMany_149 : decode cX8_howMany 149 = .ok (.getfield 10, 3) := by decide +kernel
theorem dX8_howMany_152 : decode cX8_howMany 152 = .ok (.getfield 217, 3) := by decide +kernel
theorem dX8_howMany_155 : decode cX8_howMany 155 = .ok (.getfield 210, 3) := by decide +kernel
theorem dX8_howMany_158 : decode cX8_howMany 158 = .ok (.ireturn, 1) := by decide +kernel
theorem dX8_howMany_159 : decode cX8_howMany 159 = .ok (.aload_n 0, 1) := by decide +kernel
theorem dX8_howMany_160 : decode cX8_howMany 160 = .ok (.getfield 10, 3) := by decide +kernel
theorem dX8_howMany_163 : decode cX8_howMany 163 = .ok (.getfield 220, 3) := by decide +kernel
theorem dX8_howMany_166 : decode cX8_howMany 166 = .ok (.getfield 210, 3) := by decide +kernel
theorem dX8_howMany_169 : decode cX8_howMany 169 = .ok (.ireturn, 1) := by decide +kernel
theorem dX8_howMany_170 : decode cX8_howMany 170 = .ok (.aload_n 0, 1) := by decide +kernel
theorem dX8_howMany_171 : decode cX8_howMany 171 = .ok (.getfield 10, 3) := by decide +kernel
theorem dX8_howMany_174 : decode cX8_howMany 174 = .ok (.getfield 91, 3) := by decide +kernel
theorem dX8_howMany_177 : decode cX8_howMany 177 = .ok (.getfield 95, 3) := by decide +kernel
theorem dX8_howMany_180 : decode cX8_howMany 180 = .ok (.ireturn, 1) := by decide +kernel
theorem dX8_howMany_181 : decode cX8_howMany 181 = .ok (.aload_n 0, 1) := by decide +kernel
theorem dX8_howMany_182 : decode cX8_howMany 182 = .ok (.getfield 23, 3) := by decide +kernel
theorem dX8_howMany_185 : decode cX8_howMany 185 = .ok (.getfield 113, 3) := by decide +kernel
theorem dX8_howMany_188 : decode cX8_howMany 188 = .ok (.ireturn, 1) := by decide +kernel
theorem dX8_choose_0 : decode cX8_choose 0 = .ok (.aload_n 0, 1) := by decide +kernel
theorem dX8_choose_1 : decode cX8_choose 1 = .ok (.iload_n 2, 1) := by decide +kernel
theorem dX8_choose_2 : decode cX8_choose 2 = .ok (.invokevirtual 141, 3) := by decide +kernel
theorem dX8_choose_5 : decode cX8_choose 5 = .ok (.ifCond .eq 23, 3) := by decide +kernel
theorem dX8_choose_8 : decode cX8_choose 8 = .ok (.iload_n 3, 1) := by decide +kernel
theorem dX8_choose_9 : decode cX8_choose 9 = .ok (.iconst 1, 1) := by decide +kernel
theorem dX8_choose_10 : decode cX8_choose 10 = .ok (.bipush 60, 2) := by decide +kernel
theorem dX8_choose_12 : decode cX8_choose 12 = .ok (.invokestatic 58, 3) := by decide +kernel
theorem dX8_choose_15 : decode cX8_choose 15 = .ok (.ifCond .eq 13, 3) := by decide +kernel
theorem dX8_choose_18 : decode cX8_choose 18 = .ok (.iload 4, 2) := by decide +kernel
theorem dX8_choose_20 : decode cX8_choose 20 = .ok (.iconst 0, 1) := by decide +kernel
theorem dX8_choose_21 : decode cX8_choose 21 = .ok (.iconst 1, 1) := by decide +kernel
theorem dX8_choose_22 : decode cX8_choose 22 = .ok (.invokestatic 58, 3) := by decide +kernel
theorem dX8_choose_25 : decode cX8_choose 25 = .ok (.ifCond .ne 8, 3) := by decide +kernel
theorem dX8_choose_28 : decode cX8_choose 28 = .ok (.aload_n 0, 1) := by decide +kernel
theorem dX8_choose_29 : decode cX8_choose 29 = .ok (.invokevirtual 62, 3) := by decide +kernel
theorem dX8_choose_32 : decode cX8_choose 32 = .ok (.ireturn, 1) := by decide +kernel
theorem dX8_choose_33 : decode cX8_choose 33 = .ok (.iload_n 1, 1) := by decide +kernel
theorem dX8_choose_34 : decode cX8_choose 34 = .ok (.ifCond .eq 16, 3) := by decide +kernel
theorem dX8_choose_37 : decode cX8_choose 37 = .ok (.aload_n 0, 1) := by decide +kernel
theorem dX8_choose_38 : decode cX8_choose 38 = .ok (.getfield 10, 3) := by decide +kernel
theorem dX8_choose_41 : decode cX8_choose 41 = .ok (.getfield 66, 3) := by decide +kernel
theorem dX8_choose_44 : decode cX8_choose 44 = .ok (.getfield 278, 3) := by decide +kernel
theorem dX8_choose_47 : decode cX8_choose 47 = .ok (.goto 4, 3) := by decide +kernel
theorem dX8_choose_50 : decode cX8_choose 50 = .ok (.iconst 4, 1) := by decide +kernel
theorem dX8_choose_51 : decode cX8_choose 51 = .ok (.istore 5, 2) := by decide +kernel
theorem dX8_choose_53 : decode cX8_choose 53 = .ok (.iconst (-1), 1) := by decide +kernel
theorem dX8_choose_54 : decode cX8_choose 54 = .ok (.istore 6, 2) := by decide +kernel
theorem dX8_choose_56 : decode cX8_choose 56 = .ok (.iconst (-1), 1) := by decide +kernel
theorem dX8_choose_57 : decode cX8_choose 57 = .ok (.istore 7, 2) := by decide +kernel
theorem dX8_choose_59 : decode cX8_choose 59 = .ok (.iconst 0, 1) := by decide +kernel
theorem dX8_choose_60 : decode cX8_choose 60 = .ok (.istore 8, 2) := by decide +kernel
theorem dX8_choose_62 : decode cX8_choose 62 = .ok (.iload 8, 2) := by decide +kernel
theorem dX8_choose_64 : decode cX8_choose 64 = .ok (.iload 5, 2) := by decide +kernel
theorem dX8_choose_66 : decode cX8_choose 66 = .ok (.if_icmp .ge 35, 3) := by decide +kernel
theorem dX8_choose_69 : decode cX8_choose 69 = .ok (.aload_n 0, 1) := by decide +kernel
theorem dX8_choose_70 : decode cX8_choose 70 = .ok (.iload_n 1, 1) := by decide +kernel
theorem dX8_choose_71 : decode cX8_choose 71 = .ok (.iload 8, 2) := by decide +kernel
theorem dX8_choose_73 : decode cX8_choose 73 = .ok (.iload_n 2, 1) := by decide +kernel
theorem dX8_choose_74 : decode cX8_choose 74 = .ok (.iload_n 3, 1) := by decide +kernel
theorem dX8_choose_75 : decode cX8_choose 75 = .ok (.invokevirtual 284, 3) := by decide +kernel
theorem dX8_choose_78 : decode cX8_choose 78 = .ok (.istore 9, 2) := by decide +kernel
theorem dX8_choose_80 : decode cX8_choose 80 = .ok (.iload 9, 2) := by decide +kernel
theorem dX8_choose_82 : decode cX8_choose 82 = .ok (.iload 6, 2) := by decide +kernel
theorem dX8_choose_84 : decode cX8_choose 84 = .ok (.if_icmp .le 11, 3) := by decide +kernel
theorem dX8_choose_87 : decode cX8_choose 87 = .ok (.iload 9, 2) := by decide +kernel
theorem dX8_choose_89 : decode cX8_choose 89 = .ok (.istore 6, 2) := by decide +kernel
theorem dX8_choose_91 : decode cX8_choose 91 = .ok (.iload 8, 2) := by decide +kernel
theorem dX8_choose_93 : decode cX8_choose 93 = .ok (.istore 7, 2) := by decide +kernel
theorem dX8_choose_95 : decode cX8_choose 95 = .ok (.iinc 8 1, 3) := by decide +kernel
theorem dX8_choose_98 : decode cX8_choose 98 = .ok (.goto (-36), 3) := by decide +kernel
theorem dX8_choose_101 : decode cX8_choose 101 = .ok (.iload 4, 2) := by decide +kernel
theorem dX8_choose_103 : decode cX8_choose 103 = .ok (.ifCond .ne 8, 3) := by decide +kernel
theorem dX8_choose_106 : decode cX8_choose 106 = .ok (.iload 7, 2) := by decide +kernel
theorem dX8_choose_108 : decode cX8_choose 108 = .ok (.goto 5, 3) := by decide +kernel
theorem dX8_choose_111 : decode cX8_choose 111 = .ok (.iload 6, 2) := by decide +kernel
theorem dX8_choose_113 : decode cX8_choose 113 = .ok (.ireturn, 1) := by decide +kernel
theorem dX8_takenIf_0 : decode cX8_takenIf 0 = .ok (.aload_n 0, 1) := by decide +kernel
theorem dX8_takenIf_1 : decode cX8_takenIf 1 = .ok (.getfield 37, 3) := by decide +kernel
theorem dX8_takenIf_4 : decode cX8_takenIf 4 = .ok (.aload_n 0, 1) := by decide +kernel
theorem dX8_takenIf_5 : decode cX8_takenIf 5 = .ok (.getfield 10, 3) := by decide +kernel
theorem dX8_takenIf_8 : decode cX8_takenIf 8 = .ok (.getfield 66, 3) := by decide +kernel
theorem dX8_takenIf_11 : decode cX8_takenIf 11 = .ok (.invokevirtual 122, 3) := by decide +kernel
theorem dX8_takenIf_14 : decode cX8_takenIf 14 = .ok (.iload_n 1, 1) := by decide +kernel
theorem dX8_takenIf_15 : decode cX8_takenIf 15 = .ok (.ifCond .eq 40, 3) := by decide +kernel
theorem dX8_takenIf_18 : decode cX8_takenIf 18 = .ok (.aload_n 0, 1) := by decide +kernel
theorem dX8_takenIf_19 : decode cX8_takenIf 19 = .ok (.getfield 37, 3) := by decide +kernel
theorem dX8_takenIf_22 : decode cX8_takenIf 22 = .ok (.iload_n 2, 1) := by decide +kernel
theorem dX8_takenIf_23 : decode cX8_takenIf 23 = .ok (.invokevirtual 100, 3) := by decide +kernel
theorem dX8_takenIf_26 : decode cX8_takenIf 26 = .ok (.istore 5, 2) := by decide +kernel
theorem dX8_takenIf_28 : decode cX8_takenIf 28 = .ok (.iload 5, 2) := by decide +kernel
theorem dX8_takenIf_30 : decode cX8_takenIf 30 = .ok (.iconst (-1), 1) := by decide +kernel
theorem dX8_takenIf_31 : decode cX8_takenIf 31 = .ok (.if_icmp .eq 11, 3) := by decide +kernel
theorem dX8_takenIf_34 : decode cX8_takenIf 34 = .ok (.iload 5, 2) := by decide +kernel
theorem dX8_takenIf_36 : decode cX8_takenIf 36 = .ok (.iload_n 3, 1) := by decide +kernel
theorem dX8_takenIf_37 : decode cX8_takenIf 37 = .ok (.if_icmp .eq 5, 3) := by decide +kernel
theorem dX8_takenIf_40 : decode cX8_takenIf 40 = .ok (.iconst (-1), 1) := by decide +kernel
theorem dX8_takenIf_41 : decode cX8_takenIf 41 = .ok (.ireturn, 1) := by decide +kernel
theorem dX8_takenIf_42 : decode cX8_takenIf 42 = .ok (.aload_n 0, 1) := by decide +kernel
theorem dX8_takenIf_43 : decode cX8_takenIf 43 = .ok (.getfield 37, 3) := by decide +kernel
theorem dX8_takenIf_46 : decode cX8_takenIf 46 = .ok (.getfield 144, 3) := by decide +kernel
theorem dX8_takenIf_49 : decode cX8_takenIf 49 = .ok (.iload_n 3, 1) := by decide +kernel
theorem dX8_takenIf_50 : decode cX8_takenIf 50 = .ok (.iload_n 2, 1) := by decide +kernel
theorem dX8_takenIf_51 : decode cX8_takenIf 51 = .ok (.iastore, 1) := by decide +kernel
theorem dX8_takenIf_52 : decode cX8_takenIf 52 = .ok (.goto 11, 3) := by decide +kernel
theorem dX8_takenIf_55 : decode cX8_takenIf 55 = .ok (.aload_n 0, 1) := by decide +kernel
theorem dX8_takenIf_56 : decode cX8_takenIf 56 = .ok (.getfield 37, 3) := by decide +kernel
theorem dX8_takenIf_59 : decode cX8_takenIf 59 = .ok (.iload_n 2, 1) := by decide +kernel
theorem dX8_takenIf_60 : decode cX8_takenIf 60 = .ok (.putfield 138, 3) := by decide +kernel
theorem dX8_takenIf_63 : decode cX8_takenIf 63 = .ok (.iconst 0, 1) := by decide +kernel
theorem dX8_takenIf_64 : decode cX8_takenIf 64 = .ok (.istore 5, 2) := by decide +kernel
theorem dX8_takenIf_66 : decode cX8_takenIf 66 = .ok (.iconst 0, 1) := by decide +kernel
theorem dX8_takenIf_67 : decode cX8_takenIf 67 = .ok (.istore 6, 2) := by decide +kernel
theorem dX8_takenIf_69 : decode cX8_takenIf 69 = .ok (.iload 6, 2) := by decide +kernel
theorem dX8_takenIf_71 : decode cX8_takenIf 71 = .ok (.iload 4, 2) := by decide +kernel
theorem dX8_takenIf_73 : decode cX8_takenIf 73 = .ok (.if_icmp .ge 23, 3) := by decide +kernel
theorem dX8_takenIf_76 : decode cX8_takenIf 76 = .ok (.aload_n 0, 1) := by decide +kernel
theorem dX8_takenIf_77 : decode cX8_takenIf 77 = .ok (.getfield 37, 3) := by decide +kernel
theorem dX8_takenIf_80 : decode cX8_takenIf 80 = .ok (.invokevirtual 132, 3) := by decide +kernel
theorem dX8_takenIf_83 : decode cX8_takenIf 83 = .ok (.iload_n 3, 1) := by decide +kernel
theorem dX8_takenIf_84 : decode cX8_takenIf 84 = .ok (.if_icmp .ne 6, 3) := by decide +kernel
theorem dX8_takenIf_87 : decode cX8_takenIf 87 = .ok (.iinc 5 1, 3) := by decide +kernel
theorem dX8_takenIf_90 : decode cX8_takenIf 90 = .ok (.iinc 6 1, 3) := by decide +kernel
theorem dX8_takenIf_93 : decode cX8_takenIf 93 = .ok (.goto (-24), 3) := by decide +kernel
theorem dX8_takenIf_96 : decode cX8_takenIf 96 = .ok (.iload 5, 2) := by decide +kernel
theorem dX8_takenIf_98 : decode cX8_takenIf 98 = .ok (.ireturn, 1) := by decide +kernel
