theorem dX0_reach_0 : decode cX0_reach 0 = .ok (.iload_n 1, 1) := by decide +kernel
theorem dX0_reach_1 : decode cX0_reach 1 = .ok (.iload_n 2, 1) := by decide +kernel
theorem dX0_reach_2 : decode cX0_reach 2 = .ok (.iadd, 1) := by decide +kernel
theorem dX0_reach_3 : decode cX0_reach 3 = .ok (.istore 4, 2) := by decide +kernel
theorem dX0_reach_5 : decode cX0_reach 5 = .ok (.iload 4, 2) := by decide +kernel
theorem dX0_reach_7 : decode cX0_reach 7 = .ok (.iconst 2, 1) := by decide +kernel
theorem dX0_reach_8 : decode cX0_reach 8 = .ok (.idiv, 1) := by decide +kernel
theorem dX0_reach_9 : decode cX0_reach 9 = .ok (.istore 5, 2) := by decide +kernel
theorem dX0_reach_11 : decode cX0_reach 11 = .ok (.iload 4, 2) := by decide +kernel
theorem dX0_reach_13 : decode cX0_reach 13 = .ok (.iconst 3, 1) := by decide +kernel
theorem dX0_reach_14 : decode cX0_reach 14 = .ok (.iadd, 1) := by decide +kernel
theorem dX0_reach_15 : decode cX0_reach 15 = .ok (.istore 6, 2) := by decide +kernel
theorem dX0_reach_17 : decode cX0_reach 17 = .ok (.iload_n 0, 1) := by decide +kernel
theorem dX0_reach_18 : decode cX0_reach 18 = .ok (.tableswitch 83 1 5 #[34, 37, 40, 54, 69], 34) := by decide +kernel
theorem dX0_reach_52 : decode cX0_reach 52 = .ok (.iload 5, 2) := by decide +kernel
theorem dX0_reach_54 : decode cX0_reach 54 = .ok (.ireturn, 1) := by decide +kernel
theorem dX0_reach_55 : decode cX0_reach 55 = .ok (.iload 6, 2) := by decide +kernel
theorem dX0_reach_57 : decode cX0_reach 57 = .ok (.ireturn, 1) := by decide +kernel
theorem dX0_reach_58 : decode cX0_reach 58 = .ok (.iload 5, 2) := by decide +kernel
theorem dX0_reach_60 : decode cX0_reach 60 = .ok (.iload_n 3, 1) := by decide +kernel
theorem dX0_reach_61 : decode cX0_reach 61 = .ok (.iconst 5, 1) := by decide +kernel
theorem dX0_reach_62 : decode cX0_reach 62 = .ok (.if_icmp .ge 7, 3) := by decide +kernel
theorem dX0_reach_65 : decode cX0_reach 65 = .ok (.iload_n 3, 1) := by decide +kernel
theorem dX0_reach_66 : decode cX0_reach 66 = .ok (.goto 4, 3) := by decide +kernel
theorem dX0_reach_69 : decode cX0_reach 69 = .ok (.iconst 5, 1) := by decide +kernel
theorem dX0_reach_70 : decode cX0_reach 70 = .ok (.iadd, 1) := by decide +kernel
theorem dX0_reach_71 : decode cX0_reach 71 = .ok (.ireturn, 1) := by decide +kernel
theorem dX0_reach_72 : decode cX0_reach 72 = .ok (.iload 6, 2) := by decide +kernel
theorem dX0_reach_74 : decode cX0_reach 74 = .ok (.iload_n 3, 1) := by decide +kernel
theorem dX0_reach_75 : decode cX0_reach 75 = .ok (.if_icmp .le 10, 3) := by decide +kernel
theorem dX0_reach_78 : decode cX0_reach 78 = .ok (.iload 6, 2) := by decide +kernel
theorem dX0_reach_80 : decode cX0_reach 80 = .ok (.iload_n 3, 1) := by decide +kernel
theorem dX0_reach_81 : decode cX0_reach 81 = .ok (.isub, 1) := by decide +kernel
theorem dX0_reach_82 : decode cX0_reach 82 = .ok (.goto 4, 3) := by decide +kernel
theorem dX0_reach_85 : decode cX0_reach 85 = .ok (.iconst 0, 1) := by decide +kernel
theorem dX0_reach_86 : decode cX0_reach 86 = .ok (.ireturn, 1) := by decide +kernel
theorem dX0_reach_87 : decode cX0_reach 87 = .ok (.iload_n 3, 1) := by decide +kernel
theorem dX0_reach_88 : decode cX0_reach 88 = .ok (.ifCond .ne 10, 3) := by decide +kernel
theorem dX0_reach_91 : decode cX0_reach 91 = .ok (.iconst 2, 1) := by decide +kernel
theorem dX0_reach_92 : decode cX0_reach 92 = .ok (.iload 4, 2) := by decide +kernel
theorem dX0_reach_94 : decode cX0_reach 94 = .ok (.imul, 1) := by decide +kernel
theorem dX0_reach_95 : decode cX0_reach 95 = .ok (.goto 5, 3) := by decide +kernel
theorem dX0_reach_98 : decode cX0_reach 98 = .ok (.iload 4, 2) := by decide +kernel
theorem dX0_reach_100 : decode cX0_reach 100 = .ok (.ireturn, 1) := by decide +kernel
theorem dX0_reach_101 : decode cX0_reach 101 = .ok (.iload 4, 2) := by decide +kernel
theorem dX0_reach_103 : decode cX0_reach 103 = .ok (.ireturn, 1) := by decide +kernel
theorem dX1_high_0 : decode cX1_high 0 = .ok (.iload_n 1, 1) := by decide +kernel
theorem dX1_high_1 : decode cX1_high 1 = .ok (.iload_n 2, 1) := by decide +kernel
theorem dX1_high_2 : decode cX1_high 2 = .ok (.iadd, 1) := by decide +kernel
theorem dX1_high_3 : decode cX1_high 3 = .ok (.bipush 8, 2) := by decide +kernel
theorem dX1_high_5 : decode cX1_high 5 = .ok (.irem, 1) := by decide +kernel
theorem dX1_high_6 : decode cX1_high 6 = .ok (.istore 4, 2) := by decide +kernel
theorem dX1_high_8 : decode cX1_high 8 = .ok (.iconst 3, 1) := by decide +kernel
theorem dX1_high_9 : decode cX1_high 9 = .ok (.istore 5, 2) := by decide +kernel
theorem dX1_high_11 : decode cX1_high 11 = .ok (.iload 5, 2) := by decide +kernel
theorem dX1_high_13 : decode cX1_high 13 = .ok (.iload 4, 2) := by decide +kernel
theorem dX1_high_15 : decode cX1_high 15 = .ok (.iconst 4, 1) := by decide +kernel
theorem dX1_high_16 : decode cX1_high 16 = .ok (.if_icmp .gt 8, 3) := by decide +kernel
theorem dX1_high_19 : decode cX1_high 19 = .ok (.iload 4, 2) := by decide +kernel
theorem dX1_high_21 : decode cX1_high 21 = .ok (.goto 8, 3) := by decide +kernel
theorem dX1_high_24 : decode cX1_high 24 = .ok (.bipush 8, 2) := by decide +kernel
theorem dX1_high_26 : decode cX1_high 26 = .ok (.iload 4, 2) := by decide +kernel
theorem dX1_high_28 : decode cX1_high 28 = .ok (.isub, 1) := by decide +kernel
theorem dX1_high_29 : decode cX1_high 29 = .ok (.iadd, 1) := by decide +kernel
theorem dX1_high_30 : decode cX1_high 30 = .ok (.istore 6, 2) := by decide +kernel
theorem dX1_high_32 : decode cX1_high 32 = .ok (.iload_n 0, 1) := by decide +kernel
theorem dX1_high_33 : decode cX1_high 33 = .ok (.tableswitch 71 1 5 #[35, 38, 54, 59, 64], 35) := by decide +kernel
theorem dX1_high_68 : decode cX1_high 68 = .ok (.iload 6, 2) := by decide +kernel
theorem dX1_high_70 : decode cX1_high 70 = .ok (.ireturn, 1) := by decide +kernel
theorem dX1_high_71 : decode cX1_high 71 = .ok (.iload 4, 2) := by decide +kernel
theorem dX1_high_73 : decode cX1_high 73 = .ok (.iconst 4, 1) := by decide +kernel
theorem dX1_high_74 : decode cX1_high 74 = .ok (.if_icmp .lt 10, 3) := by decide +kernel
theorem dX1_high_77 : decode cX1_high 77 = .ok (.iload 5, 2) := by decide +kernel
theorem dX1_high_79 : decode cX1_high 79 = .ok (.iconst 2, 1) := by decide +kernel
theorem dX1_high_80 : decode cX1_high 80 = .ok (.iadd, 1) := by decide +kernel
theorem dX1_high_81 : decode cX1_high 81 = .ok (.goto 5, 3) := by decide +kernel
theorem dX1_high_84 : decode cX1_high 84 = .ok (.iload 5, 2) := by decide +kernel
theorem dX1_high_86 : decode cX1_high 86 = .ok (.ireturn, 1) := by decide +kernel
theorem dX1_high_87 : decode cX1_high 87 = .ok (.iload 5, 2) := by decide +kernel
theorem dX1_high_89 : decode cX1_high 89 = .ok (.iload_n 3, 1) := by decide +kernel
theorem dX1_high_90 : decode cX1_high 90 = .ok (.isub, 1) := by decide +kernel
theorem dX1_high_91 : decode cX1_high 91 = .ok (.ireturn, 1) := by decide +kernel
theorem dX1_high_92 : decode cX1_high 92 = .ok (.iload 6, 2) := by decide +kernel
theorem dX1_high_94 : decode cX1_high 94 = .ok (.iload_n 3, 1) := by decide +kernel
theorem dX1_high_95 : decode cX1_high 95 = .ok (.iadd, 1) := by decide +kernel
theorem dX1_high_96 : decode cX1_high 96 = .ok (.ireturn, 1) := by decide +kernel
theorem dX1_high_97 : decode cX1_high 97 = .ok (.iload 6, 2) := by decide +kernel
theorem dX1_high_99 : decode cX1_high 99 = .ok (.iconst 1, 1) := by decide +kernel
theorem dX1_high_100 : decode cX1_high 100 = .ok (.iadd, 1) := by decide +kernel
theorem dX1_high_101 : decode cX1_high 101 = .ok (.iconst 2, 1) := by decide +kernel
theorem dX1_high_102 : decode cX1_high 102 = .ok (.idiv, 1) := by decide +kernel
theorem dX1_high_103 : decode cX1_high 103 = .ok (.ireturn, 1) := by decide +kernel
theorem dX1_high_104 : decode cX1_high 104 = .ok (.iload 5, 2) := by decide +kernel
theorem dX1_high_106 : decode cX1_high 106 = .ok (.ireturn, 1) := by decide +kernel
theorem dX2_init_0 : decode cX2_init 0 = .ok (.aload_n 0, 1) := by decide +kernel
theorem dX2_init_1 : decode cX2_init 1 = .ok (.invokespecial 3, 3) := by decide +kernel
theorem dX2_init_4 : decode cX2_init 4 = .ok (.aload_n 0, 1) := by decide +kernel
theorem dX2_init_5 : decode cX2_init 5 = .ok (.bipush 6, 2) := by decide +kernel
theorem dX2_init_7 : decode cX2_init 7 = .ok (.newarray .int, 2) := by decide +kernel
theorem dX2_init_9 : decode cX2_init 9 = .ok (.putfield 9, 3) := by decide +kernel
theorem dX2_init_12 : decode cX2_init 12 = .ok (.aload_n 0, 1) := by decide +kernel
theorem dX2_init_13 : decode cX2_init 13 = .ok (.bipush 6, 2) := by decide +kernel
theorem dX2_init_15 : decode cX2_init 15 = .ok (.newarray .int, 2) := by decide +kernel
theorem dX2_init_17 : decode cX2_init 17 = .ok (.putfield 15, 3) := by decide +kernel
theorem dX2_init_20 : decode cX2_init 20 = .ok (.return_, 1) := by decide +kernel
theorem dX2_find_0 : decode cX2_find 0 = .ok (.aload_n 0, 1) := by decide +kernel
theorem dX2_find_1 : decode cX2_find 1 = .ok (.iconst (-1), 1) := by decide +kernel
theorem dX2_find_2 : decode cX2_find 2 = .ok (.putfield 18, 3) := by decide +kernel
theorem dX2_find_5 : decode cX2_find 5 = .ok (.aload_n 0, 1) := by decide +kernel
theorem dX2_find_6 : decode cX2_find 6 = .ok (.iload_n 2, 1) := by decide +kernel
theorem dX2_find_7 : decode cX2_find 7 = .ok (.putfield 22, 3) := by decide +kernel
theorem dX2_find_10 : decode cX2_find 10 = .ok (.aload_n 0, 1) := by decide +kernel
theorem dX2_find_11 : decode cX2_find 11 = .ok (.iload_n 3, 1) := by decide +kernel
theorem dX2_find_12 : decode cX2_find 12 = .ok (.bipush 6, 2) := by decide +kernel
theorem dX2_find_14 : decode cX2_find 14 = .ok (.invokestatic 25, 3) := by decide +kernel
theorem dX2_find_17 : decode cX2_find 17 = .ok (.putfield 31, 3) := by decide +kernel
theorem dX2_find_20 : decode cX2_find 20 = .ok (.aload_n 0, 1) := by decide +kernel
theorem dX2_find_21 : decode cX2_find 21 = .ok (.aload_n 1, 1) := by decide +kernel
theorem dX2_find_22 : decode cX2_find 22 = .ok (.iconst 0, 1) := by decide +kernel
theorem dX2_find_23 : decode cX2_find 23 = .ok (.iconst 0, 1) := by decide +kernel
theorem dX2_find_24 : decode cX2_find 24 = .ok (.invokestatic 34, 3) := by decide +kernel
theorem dX2_find_27 : decode cX2_find 27 = .ok (.return_, 1) := by decide +kernel
theorem dX2_pull_0 : decode cX2_pull 0 = .ok (.iload_n 3, 1) := by decide +kernel
theorem dX2_pull_1 : decode cX2_pull 1 = .ok (.aload_n 0, 1) := by decide +kernel
theorem dX2_pull_2 : decode cX2_pull 2 = .ok (.getfield 31, 3) := by decide +kernel
theorem dX2_pull_5 : decode cX2_pull 5 = .ok (.iadd, 1) := by decide +kernel
theorem dX2_pull_6 : decode cX2_pull 6 = .ok (.iload_n 2, 1) := by decide +kernel
theorem dX2_pull_7 : decode cX2_pull 7 = .ok (.isub, 1) := by decide +kernel
theorem dX2_pull_8 : decode cX2_pull 8 = .ok (.aload_n 0, 1) := by decide +kernel
theorem dX2_pull_9 : decode cX2_pull 9 = .ok (.getfield 18, 3) := by decide +kernel
theorem dX2_pull_12 : decode cX2_pull 12 = .ok (.if_icmp .gt 4, 3) := by decide +kernel
theorem dX2_pull_15 : decode cX2_pull 15 = .ok (.return_, 1) := by decide +kernel
theorem dX2_pull_16 : decode cX2_pull 16 = .ok (.iload_n 2, 1) := by decide +kernel
theorem dX2_pull_17 : decode cX2_pull 17 = .ok (.aload_n 0, 1) := by decide +kernel
theorem dX2_pull_18 : decode cX2_pull 18 = .ok (.getfield 31, 3) := by decide +kernel
theorem dX2_pull_21 : decode cX2_pull 21 = .ok (.if_icmp .lt 24, 3) := by decide +kernel
theorem dX2_pull_24 : decode cX2_pull 24 = .ok (.aload_n 0, 1) := by decide +kernel
theorem dX2_pull_25 : decode cX2_pull 25 = .ok (.iload_n 3, 1) := by decide +kernel
theorem dX2_pull_26 : decode cX2_pull 26 = .ok (.putfield 18, 3) := by decide +kernel
theorem dX2_pull_29 : decode cX2_pull 29 = .ok (.aload_n 0, 1) := by decide +kernel
theorem dX2_pull_30 : decode cX2_pull 30 = .ok (.getfield 15, 3) := by decide +kernel
theorem dX2_pull_33 : decode cX2_pull 33 = .ok (.iconst 0, 1) := by decide +kernel
theorem dX2_pull_34 : decode cX2_pull 34 = .ok (.aload_n 0, 1) := by decide +kernel
theorem dX2_pull_35 : decode cX2_pull 35 = .ok (.getfield 9, 3) := by decide +kernel
theorem dX2_pull_38 : decode cX2_pull 38 = .ok (.iconst 0, 1) := by decide +kernel
theorem dX2_pull_39 : decode cX2_pull 39 = .ok (.bipush 6, 2) := by decide +kernel
theorem dX2_pull_41 : decode cX2_pull 41 = .ok (.invokestatic 38, 3) := by decide +kernel
theorem dX2_pull_44 : decode cX2_pull 44 = .ok (.return_, 1) := by decide +kernel
theorem dX2_pull_45 : decode cX2_pull 45 = .ok (.aload_n 1, 1) := by decide +kernel
theorem dX2_pull_46 : decode cX2_pull 46 = .ok (.getfield 44, 3) := by decide +kernel
theorem dX2_pull_49 : decode cX2_pull 49 = .ok (.istore 4, 2) := by decide +kernel
theorem dX2_pull_51 : decode cX2_pull 51 = .ok (.aload_n 1, 1) := by decide +kernel
theorem dX2_pull_52 : decode cX2_pull 52 = .ok (.getfield 49, 3) := by decide +kernel
theorem dX2_pull_55 : decode cX2_pull 55 = .ok (.istore 5, 2) := by decide +kernel
theorem dX2_pull_57 : decode cX2_pull 57 = .ok (.iconst 0, 1) := by decide +kernel
theorem dX2_pull_58 : decode cX2_pull 58 = .ok (.istore 6, 2) := by decide +kernel
theorem dX2_pull_60 : decode cX2_pull 60 = .ok (.iload 6, 2) := by decide +kernel
theorem dX2_pull_62 : decode cX2_pull 62 = .ok (.iconst 3, 1) := by decide +kernel
theorem dX2_pull_63 : decode cX2_pull 63 = .ok (.if_icmp .gt 106, 3) := by decide +kernel
theorem dX2_pull_66 : decode cX2_pull 66 = .ok (.aload_n 0, 1) := by decide +kernel
theorem dX2_pull_67 : decode cX2_pull 67 = .ok (.getfield 15, 3) := by decide +kernel
theorem dX2_pull_70 : decode cX2_pull 70 = .ok (.iload_n 2, 1) := by decide +kernel
theorem dX2_pull_71 : decode cX2_pull 71 = .ok (.iload 6, 2) := by decide +kernel
theorem dX2_pull_73 : decode cX2_pull 73 = .ok (.iastore, 1) := by decide +kernel
theorem dX2_pull_74 : decode cX2_pull 74 = .ok (.aload_n 1, 1) := by decide +kernel
theorem dX2_pull_75 : decode cX2_pull 75 = .ok (.iload 6, 2) := by decide +kernel
theorem dX2_pull_77 : decode cX2_pull 77 = .ok (.putfield 52, 3) := by decide +kernel
theorem dX2_pull_80 : decode cX2_pull 80 = .ok (.aload_n 1, 1) := by decide +kernel
theorem dX2_pull_81 : decode cX2_pull 81 = .ok (.invokevirtual 55, 3) := by decide +kernel
theorem dX2_pull_84 : decode cX2_pull 84 = .ok (.aload_n 1, 1) := by decide +kernel
theorem dX2_pull_85 : decode cX2_pull 85 = .ok (.invokevirtual 58, 3) := by decide +kernel
theorem dX2_pull_88 : decode cX2_pull 88 = .ok (.istore 7, 2) := by decide +kernel
theorem dX2_pull_90 : decode cX2_pull 90 = .ok (.iload 7, 2) := by decide +kernel
theorem dX2_pull_92 : decode cX2_pull 92 = .ok (.iconst (-1), 1) := by decide +kernel
theorem dX2_pull_93 : decode cX2_pull 93 = .ok (.if_icmp .ne 15, 3) := by decide +kernel
theorem dX2_pull_96 : decode cX2_pull 96 = .ok (.aload_n 0, 1) := by decide +kernel
theorem dX2_pull_97 : decode cX2_pull 97 = .ok (.aload_n 1, 1) := by decide +kernel
theorem dX2_pull_98 : decode cX2_pull 98 = .ok (.iload_n 2, 1) := by decide +kernel
theorem dX2_pull_99 : decode cX2_pull 99 = .ok (.iconst 1, 1) := by decide +kernel
theorem dX2_pull_100 : decode cX2_pull 100 = .ok (.iadd, 1) := by decide +kernel
theorem dX2_pull_101 : decode cX2_pull 101 = .ok (.iload_n 3, 1) := by decide +kernel
theorem dX2_pull_102 : decode cX2_pull 102 = .ok (.invokestatic 34, 3) := by decide +kernel
theorem dX2_pull_105 : decode cX2_pull 105 = .ok (.goto 52, 3) := by decide +kernel
theorem dX2_pull_108 : decode cX2_pull 108 = .ok (.aload_n 1, 1) := by decide +kernel
theorem dX2_pull_109 : decode cX2_pull 109 = .ok (.getfield 62, 3) := by decide +kernel
theorem dX2_pull_112 : decode cX2_pull 112 = .ok (.iload 7, 2) := by decide +kernel
theorem dX2_pull_114 : decode cX2_pull 114 = .ok (.iaload, 1) := by decide +kernel
theorem dX2_pull_115 : decode cX2_pull 115 = .ok (.istore 8, 2) := by decide +kernel
theorem dX2_pull_117 : decode cX2_pull 117 = .ok (.aload_n 1, 1) := by decide +kernel
theorem dX2_pull_118 : decode cX2_pull 118 = .ok (.iload 7, 2) := by decide +kernel
theorem dX2_pull_120 : decode cX2_pull 120 = .ok (.invokevirtual 65, 3) := by decide +kernel
theorem dX2_pull_123 : decode cX2_pull 123 = .ok (.aload_n 0, 1) := by decide +kernel
theorem dX2_pull_124 : decode cX2_pull 124 = .ok (.aload_n 1, 1) := by decide +kernel
theorem dX2_pull_125 : decode cX2_pull 125 = .ok (.iload_n 2, 1) := by decide +kernel
theorem dX2_pull_126 : decode cX2_pull 126 = .ok (.iconst 1, 1) := by decide +kernel
theorem dX2_pull_127 : decode cX2_pull 127 = .ok (.iadd, 1) := by decide +kernel
theorem dX2_pull_128 : decode cX2_pull 128 = .ok (.iload 7, 2) := by decide +kernel
theorem dX2_pull_130 : decode cX2_pull 130 = .ok (.aload_n 0, 1) := by decide +kernel
theorem dX2_pull_131 : decode cX2_pull 131 = .ok (.getfield 22, 3) := by decide +kernel
theorem dX2_pull_134 : decode cX2_pull 134 = .ok (.if_icmp .ne 9, 3) := by decide +kernel
theorem dX2_pull_137 : decode cX2_pull 137 = .ok (.iload_n 3, 1) := by decide +kernel
theorem dX2_pull_138 : decode cX2_pull 138 = .ok (.iconst 1, 1) := by decide +kernel
theorem dX2_pull_139 : decode cX2_pull 139 = .ok (.iadd, 1) := by decide +kernel
theorem dX2_pull_140 : decode cX2_pull 140 = .ok (.goto 4, 3) := by decide +kernel
theorem dX2_pull_143 : decode cX2_pull 143 = .ok (.iload_n 3, 1) := by decide +kernel
theorem dX2_pull_144 : decode cX2_pull 144 = .ok (.invokestatic 34, 3) := by decide +kernel
theorem dX2_pull_147 : decode cX2_pull 147 = .ok (.aload_n 1, 1) := by decide +kernel
theorem dX2_pull_148 : decode cX2_pull 148 = .ok (.iload 7, 2) := by decide +kernel
theorem dX2_pull_150 : decode cX2_pull 150 = .ok (.iload 8, 2) := by decide +kernel
theorem dX2_pull_152 : decode cX2_pull 152 = .ok (.iload 5, 2) := by decide +kernel
theorem dX2_pull_154 : decode cX2_pull 154 = .ok (.invokevirtual 69, 3) := by decide +kernel
theorem dX2_pull_157 : decode cX2_pull 157 = .ok (.aload_n 1, 1) := by decide +kernel
theorem dX2_pull_158 : decode cX2_pull 158 = .ok (.iload 4, 2) := by decide +kernel
theorem dX2_pull_160 : decode cX2_pull 160 = .ok (.invokevirtual 73, 3) := by decide +kernel
theorem dX2_pull_163 : decode cX2_pull 163 = .ok (.iinc 6 1, 3) := by decide +kernel
theorem dX2_pull_166 : decode cX2_pull 166 = .ok (.goto (-106), 3) := by decide +kernel
theorem dX2_pull_169 : decode cX2_pull 169 = .ok (.return_, 1) := by decide +kernel
theorem dX3_init_0 : decode cX3_init 0 = .ok (.aload_n 0, 1) := by decide +kernel
theorem dX3_init_1 : decode cX3_init 1 = .ok (.invokespecial 3, 3) := by decide +kernel
theorem dX3_init_4 : decode cX3_init 4 = .ok (.aload_n 0, 1) := by decide +kernel
theorem dX3_init_5 : decode cX3_init 5 = .ok (.sipush 128, 3) := by decide +kernel
theorem dX3_init_8 : decode cX3_init 8 = .ok (.newarray .int, 2) := by decide +kernel
theorem dX3_init_10 : decode cX3_init 10 = .ok (.putfield 11, 3) := by decide +kernel
theorem dX3_init_13 : decode cX3_init 13 = .ok (.return_, 1) := by decide +kernel
theorem dX3_copyOf_0 : decode cX3_copyOf 0 = .ok (.aload_n 0, 1) := by decide +kernel
theorem dX3_copyOf_1 : decode cX3_copyOf 1 = .ok (.aload_n 1, 1) := by decide +kernel
theorem dX3_copyOf_2 : decode cX3_copyOf 2 = .ok (.getfield 15, 3) := by decide +kernel
theorem dX3_copyOf_5 : decode cX3_copyOf 5 = .ok (.putfield 15, 3) := by decide +kernel
theorem dX3_copyOf_8 : decode cX3_copyOf 8 = .ok (.aload_n 1, 1) := by decide +kernel
theorem dX3_copyOf_9 : decode cX3_copyOf 9 = .ok (.getfield 11, 3) := by decide +kernel
theorem dX3_copyOf_12 : decode cX3_copyOf 12 = .ok (.iconst 0, 1) := by decide +kernel
theorem dX3_copyOf_13 : decode cX3_copyOf 13 = .ok (.aload_n 0, 1) := by decide +kernel
theorem dX3_copyOf_14 : decode cX3_copyOf 14 = .ok (.getfield 11, 3) := by decide +kernel
theorem dX3_copyOf_17 : decode cX3_copyOf 17 = .ok (.iconst 0, 1) := by decide +kernel
theorem dX3_copyOf_18 : decode cX3_copyOf 18 = .ok (.sipush 128, 3) := by decide +kernel
theorem dX3_copyOf_21 : decode cX3_copyOf 21 = .ok (.invokestatic 19, 3) := by decide +kernel
theorem dX3_copyOf_24 : decode cX3_copyOf 24 = .ok (.return_, 1) := by decide +kernel
theorem dX3_keep_0 : decode cX3_keep 0 = .ok (.aload_n 0, 1) := by decide +kernel
theorem dX3_keep_1 : decode cX3_keep 1 = .ok (.getfield 15, 3) := by decide +kernel
theorem dX3_keep_4 : decode cX3_keep 4 = .ok (.bipush 8, 2) := by decide +kernel
theorem dX3_keep_6 : decode cX3_keep 6 = .ok (.if_icmp .lt 25, 3) := by decide +kernel
theorem dX3_keep_9 : decode cX3_keep 9 = .ok (.aload_n 0, 1) := by decide +kernel
theorem dX3_keep_10 : decode cX3_keep 10 = .ok (.getfield 11, 3) := by decide +kernel
theorem dX3_keep_13 : decode cX3_keep 13 = .ok (.bipush 16, 2) := by decide +kernel
theorem dX3_keep_15 : decode cX3_keep 15 = .ok (.aload_n 0, 1) := by decide +kernel
theorem dX3_keep_16 : decode cX3_keep 16 = .ok (.getfield 11, 3) := by decide +kernel
theorem dX3_keep_19 : decode cX3_keep 19 = .ok (.iconst 0, 1) := by decide +kernel
theorem dX3_keep_20 : decode cX3_keep 20 = .ok (.bipush 112, 2) := by decide +kernel
theorem dX3_keep_22 : decode cX3_keep 22 = .ok (.invokestatic 19, 3) := by decide +kernel
theorem dX3_keep_25 : decode cX3_keep 25 = .ok (.aload_n 0, 1) := by decide +kernel
theorem dX3_keep_26 : decode cX3_keep 26 = .ok (.bipush 7, 2) := by decide +kernel
theorem dX3_keep_28 : decode cX3_keep 28 = .ok (.putfield 15, 3) := by decide +kernel
theorem dX3_keep_31 : decode cX3_keep 31 = .ok (.aload_n 0, 1) := by decide +kernel
theorem dX3_keep_32 : decode cX3_keep 32 = .ok (.getfield 15, 3) := by decide +kernel
theorem dX3_keep_35 : decode cX3_keep 35 = .ok (.bipush 16, 2) := by decide +kernel
theorem dX3_keep_37 : decode cX3_keep 37 = .ok (.imul, 1) := by decide +kernel
theorem dX3_keep_38 : decode cX3_keep 38 = .ok (.istore_n 2, 1) := by decide +kernel
theorem dX3_keep_39 : decode cX3_keep 39 = .ok (.aload_n 0, 1) := by decide +kernel
theorem dX3_keep_40 : decode cX3_keep 40 = .ok (.getfield 11, 3) := by decide +kernel
theorem dX3_keep_43 : decode cX3_keep 43 = .ok (.iload_n 2, 1) := by decide +kernel
theorem dX3_keep_44 : decode cX3_keep 44 = .ok (.aload_n 1, 1) := by decide +kernel
theorem dX3_keep_45 : decode cX3_keep 45 = .ok (.getfield 25, 3) := by decide +kernel
theorem dX3_keep_48 : decode cX3_keep 48 = .ok (.iastore, 1) := by decide +kernel
theorem dX3_keep_49 : decode cX3_keep 49 = .ok (.aload_n 0, 1) := by decide +kernel
theorem dX3_keep_50 : decode cX3_keep 50 = .ok (.getfield 11, 3) := by decide +kernel
theorem dX3_keep_53 : decode cX3_keep 53 = .ok (.iload_n 2, 1) := by decide +kernel
theorem dX3_keep_54 : decode cX3_keep 54 = .ok (.iconst 1, 1) := by decide +kernel
theorem dX3_keep_55 : decode cX3_keep 55 = .ok (.iadd, 1) := by decide +kernel
theorem dX3_keep_56 : decode cX3_keep 56 = .ok (.aload_n 1, 1) := by decide +kernel
theorem dX3_keep_57 : decode cX3_keep 57 = .ok (.getfield 30, 3) := by decide +kernel
theorem dX3_keep_60 : decode cX3_keep 60 = .ok (.iastore, 1) := by decide +kernel
theorem dX3_keep_61 : decode cX3_keep 61 = .ok (.aload_n 0, 1) := by decide +kernel
theorem dX3_keep_62 : decode cX3_keep 62 = .ok (.getfield 11, 3) := by decide +kernel
theorem dX3_keep_65 : decode cX3_keep 65 = .ok (.iload_n 2, 1) := by decide +kernel
theorem dX3_keep_66 : decode cX3_keep 66 = .ok (.iconst 2, 1) := by decide +kernel
theorem dX3_keep_67 : decode cX3_keep 67 = .ok (.iadd, 1) := by decide +kernel
theorem dX3_keep_68 : decode cX3_keep 68 = .ok (.aload_n 1, 1) := by decide +kernel
theorem dX3_keep_69 : decode cX3_keep 69 = .ok (.getfield 33, 3) := by decide +kernel
theorem dX3_keep_72 : decode cX3_keep 72 = .ok (.iastore, 1) := by decide +kernel
theorem dX3_keep_73 : decode cX3_keep 73 = .ok (.aload_n 0, 1) := by decide +kernel
theorem dX3_keep_74 : decode cX3_keep 74 = .ok (.getfield 11, 3) := by decide +kernel
theorem dX3_keep_77 : decode cX3_keep 77 = .ok (.iload_n 2, 1) := by decide +kernel
theorem dX3_keep_78 : decode cX3_keep 78 = .ok (.iconst 3, 1) := by decide +kernel
theorem dX3_keep_79 : decode cX3_keep 79 = .ok (.iadd, 1) := by decide +kernel
theorem dX3_keep_80 : decode cX3_keep 80 = .ok (.aload_n 1, 1) := by decide +kernel
theorem dX3_keep_81 : decode cX3_keep 81 = .ok (.getfield 36, 3) := by decide +kernel
theorem dX3_keep_84 : decode cX3_keep 84 = .ok (.iastore, 1) := by decide +kernel
theorem dX3_keep_85 : decode cX3_keep 85 = .ok (.aload_n 1, 1) := by decide +kernel
theorem dX3_keep_86 : decode cX3_keep 86 = .ok (.getfield 39, 3) := by decide +kernel
theorem dX3_keep_89 : decode cX3_keep 89 = .ok (.iconst 0, 1) := by decide +kernel
theorem dX3_keep_90 : decode cX3_keep 90 = .ok (.aload_n 0, 1) := by decide +kernel
theorem dX3_keep_91 : decode cX3_keep 91 = .ok (.getfield 11, 3) := by decide +kernel
theorem dX3_keep_94 : decode cX3_keep 94 = .ok (.iload_n 2, 1) := by decide +kernel
theorem dX3_keep_95 : decode cX3_keep 95 = .ok (.iconst 4, 1) := by decide +kernel
theorem dX3_keep_96 : decode cX3_keep 96 = .ok (.iadd, 1) := by decide +kernel
theorem dX3_keep_97 : decode cX3_keep 97 = .ok (.bipush 6, 2) := by decide +kernel
theorem dX3_keep_99 : decode cX3_keep 99 = .ok (.invokestatic 19, 3) := by decide +kernel
theorem dX3_keep_102 : decode cX3_keep 102 = .ok (.aload_n 1, 1) := by decide +kernel
theorem dX3_keep_103 : decode cX3_keep 103 = .ok (.getfield 42, 3) := by decide +kernel
theorem dX3_keep_106 : decode cX3_keep 106 = .ok (.iconst 0, 1) := by decide +kernel
theorem dX3_keep_107 : decode cX3_keep 107 = .ok (.aload_n 0, 1) := by decide +kernel
theorem dX3_keep_108 : decode cX3_keep 108 = .ok (.getfield 11, 3) := by decide +kernel
theorem dX3_keep_111 : decode cX3_keep 111 = .ok (.iload_n 2, 1) := by decide +kernel
theorem dX3_keep_112 : decode cX3_keep 112 = .ok (.iconst 4, 1) := by decide +kernel
theorem dX3_keep_113 : decode cX3_keep 113 = .ok (.iadd, 1) := by decide +kernel
theorem dX3_keep_114 : decode cX3_keep 114 = .ok (.bipush 6, 2) := by decide +kernel
theorem dX3_keep_116 : decode cX3_keep 116 = .ok (.iadd, 1) := by decide +kernel
theorem dX3_keep_117 : decode cX3_keep 117 = .ok (.bipush 6, 2) := by decide +kernel
theorem dX3_keep_119 : decode cX3_keep 119 = .ok (.invokestatic 19, 3) := by decide +kernel
theorem dX3_keep_122 : decode cX3_keep 122 = .ok (.aload_n 0, 1) := by decide +kernel
theorem dX3_keep_123 : decode cX3_keep 123 = .ok (.dup, 1) := by decide +kernel
theorem dX3_keep_124 : decode cX3_keep 124 = .ok (.getfield 15, 3) := by decide +kernel
theorem dX3_keep_127 : decode cX3_keep 127 = .ok (.iconst 1, 1) := by decide +kernel
theorem dX3_keep_128 : decode cX3_keep 128 = .ok (.iadd, 1) := by decide +kernel
theorem dX3_keep_129 : decode cX3_keep 129 = .ok (.putfield 15, 3) := by decide +kernel
theorem dX3_keep_132 : decode cX3_keep 132 = .ok (.return_, 1) := by decide +kernel
theorem dX3_giveBack_0 : decode cX3_giveBack 0 = .ok (.aload_n 0, 1) := by decide +kernel
theorem dX3_giveBack_1 : decode cX3_giveBack 1 = .ok (.getfield 15, 3) := by decide +kernel
theorem dX3_giveBack_4 : decode cX3_giveBack 4 = .ok (.ifCond .gt 4, 3) := by decide +kernel
theorem dX3_giveBack_7 : decode cX3_giveBack 7 = .ok (.return_, 1) := by decide +kernel
theorem dX3_giveBack_8 : decode cX3_giveBack 8 = .ok (.aload_n 0, 1) := by decide +kernel
theorem dX3_giveBack_9 : decode cX3_giveBack 9 = .ok (.dup, 1) := by decide +kernel
theorem dX3_giveBack_10 : decode cX3_giveBack 10 = .ok (.getfield 15, 3) := by decide +kernel
theorem dX3_giveBack_13 : decode cX3_giveBack 13 = .ok (.iconst 1, 1) := by decide +kernel
theorem dX3_giveBack_14 : decode cX3_giveBack 14 = .ok (.isub, 1) := by decide +kernel
theorem dX3_giveBack_15 : decode cX3_giveBack 15 = .ok (.putfield 15, 3) := by decide +kernel
theorem dX3_giveBack_18 : decode cX3_giveBack 18 = .ok (.aload_n 0, 1) := by decide +kernel
theorem dX3_giveBack_19 : decode cX3_giveBack 19 = .ok (.getfield 15, 3) := by decide +kernel
theorem dX3_giveBack_22 : decode cX3_giveBack 22 = .ok (.bipush 16, 2) := by decide +kernel
theorem dX3_giveBack_24 : decode cX3_giveBack 24 = .ok (.imul, 1) := by decide +kernel
theorem dX3_giveBack_25 : decode cX3_giveBack 25 = .ok (.istore_n 2, 1) := by decide +kernel
theorem dX3_giveBack_26 : decode cX3_giveBack 26 = .ok (.aload_n 1, 1) := by decide +kernel
theorem dX3_giveBack_27 : decode cX3_giveBack 27 = .ok (.aload_n 0, 1) := by decide +kernel
theorem dX3_giveBack_28 : decode cX3_giveBack 28 = .ok (.getfield 11, 3) := by decide +kernel
theorem dX3_giveBack_31 : decode cX3_giveBack 31 = .ok (.iload_n 2, 1) := by decide +kernel
theorem dX3_giveBack_32 : decode cX3_giveBack 32 = .ok (.iaload, 1) := by decide +kernel
theorem dX3_giveBack_33 : decode cX3_giveBack 33 = .ok (.putfield 25, 3) := by decide +kernel
theorem dX3_giveBack_36 : decode cX3_giveBack 36 = .ok (.aload_n 1, 1) := by decide +kernel
theorem dX3_giveBack_37 : decode cX3_giveBack 37 = .ok (.aload_n 0, 1) := by decide +kernel
theorem dX3_giveBack_38 : decode cX3_giveBack 38 = .ok (.getfield 11, 3) := by decide +kernel
theorem dX3_giveBack_41 : decode cX3_giveBack 41 = .ok (.iload_n 2, 1) := by decide +kernel
theorem dX3_giveBack_42 : decode cX3_giveBack 42 = .ok (.iconst 1, 1) := by decide +kernel
theorem dX3_giveBack_43 : decode cX3_giveBack 43 = .ok (.iadd, 1) := by decide +kernel
theorem dX3_giveBack_44 : decode cX3_giveBack 44 = .ok (.iaload, 1) := by decide +kernel
theorem dX3_giveBack_45 : decode cX3_giveBack 45 = .ok (.putfield 30, 3) := by decide +kernel
theorem dX3_giveBack_48 : decode cX3_giveBack 48 = .ok (.aload_n 1, 1) := by decide +kernel
theorem dX3_giveBack_49 : decode cX3_giveBack 49 = .ok (.aload_n 0, 1) := by decide +kernel
theorem dX3_giveBack_50 : decode cX3_giveBack 50 = .ok (.getfield 11, 3) := by decide +kernel
theorem dX3_giveBack_53 : decode cX3_giveBack 53 = .ok (.iload_n 2, 1) := by decide +kernel
theorem dX3_giveBack_54 : decode cX3_giveBack 54 = .ok (.iconst 2, 1) := by decide +kernel
theorem dX3_giveBack_55 : decode cX3_giveBack 55 = .ok (.iadd, 1) := by decide +kernel
theorem dX3_giveBack_56 : decode cX3_giveBack 56 = .ok (.iaload, 1) := by decide +kernel
theorem dX3_giveBack_57 : decode cX3_giveBack 57 = .ok (.putfield 33, 3) := by decide +kernel
theorem dX3_giveBack_60 : decode cX3_giveBack 60 = .ok (.aload_n 1, 1) := by decide +kernel
theorem dX3_giveBack_61 : decode cX3_giveBack 61 = .ok (.aload_n 0, 1) := by decide +kernel
theorem dX3_giveBack_62 : decode cX3_giveBack 62 = .ok (.getfield 11, 3) := by decide +kernel
theorem dX3_giveBack_65 : decode cX3_giveBack 65 = .ok (.iload_n 2, 1) := by decide +kernel
theorem dX3_giveBack_66 : decode cX3_giveBack 66 = .ok (.iconst 3, 1) := by decide +kernel
theorem dX3_giveBack_67 : decode cX3_giveBack 67 = .ok (.iadd, 1) := by decide +kernel
theorem dX3_giveBack_68 : decode cX3_giveBack 68 = .ok (.iaload, 1) := by decide +kernel
theorem dX3_giveBack_69 : decode cX3_giveBack 69 = .ok (.putfield 36, 3) := by decide +kernel
theorem dX3_giveBack_72 : decode cX3_giveBack 72 = .ok (.aload_n 0, 1) := by decide +kernel
theorem dX3_giveBack_73 : decode cX3_giveBack 73 = .ok (.getfield 11, 3) := by decide +kernel
theorem dX3_giveBack_76 : decode cX3_giveBack 76 = .ok (.iload_n 2, 1) := by decide +kernel
theorem dX3_giveBack_77 : decode cX3_giveBack 77 = .ok (.iconst 4, 1) := by decide +kernel
theorem dX3_giveBack_78 : decode cX3_giveBack 78 = .ok (.iadd, 1) := by decide +kernel
theorem dX3_giveBack_79 : decode cX3_giveBack 79 = .ok (.aload_n 1, 1) := by decide +kernel
theorem dX3_giveBack_80 : decode cX3_giveBack 80 = .ok (.getfield 39, 3) := by decide +kernel
theorem dX3_giveBack_83 : decode cX3_giveBack 83 = .ok (.iconst 0, 1) := by decide +kernel
theorem dX3_giveBack_84 : decode cX3_giveBack 84 = .ok (.bipush 6, 2) := by decide +kernel
theorem dX3_giveBack_86 : decode cX3_giveBack 86 = .ok (.invokestatic 19, 3) := by decide +kernel
theorem dX3_giveBack_89 : decode cX3_giveBack 89 = .ok (.aload_n 0, 1) := by decide +kernel
theorem dX3_giveBack_90 : decode cX3_giveBack 90 = .ok (.getfield 11, 3) := by decide +kernel
theorem dX3_giveBack_93 : decode cX3_giveBack 93 = .ok (.iload_n 2, 1) := by decide +kernel
theorem dX3_giveBack_94 : decode cX3_giveBack 94 = .ok (.iconst 4, 1) := by decide +kernel
theorem dX3_giveBack_95 : decode cX3_giveBack 95 = .ok (.iadd, 1) := by decide +kernel
theorem dX3_giveBack_96 : decode cX3_giveBack 96 = .ok (.bipush 6, 2) := by decide +kernel
theorem dX3_giveBack_98 : decode cX3_giveBack 98 = .ok (.iadd, 1) := by decide +kernel
theorem dX3_giveBack_99 : decode cX3_giveBack 99 = .ok (.aload_n 1, 1) := by decide +kernel
theorem dX3_giveBack_100 : decode cX3_giveBack 100 = .ok (.getfield 42, 3) := by decide +kernel
theorem dX3_giveBack_103 : decode cX3_giveBack 103 = .ok (.iconst 0, 1) := by decide +kernel
theorem dX3_giveBack_104 : decode cX3_giveBack 104 = .ok (.bipush 6, 2) := by decide +kernel
theorem dX3_giveBack_106 : decode cX3_giveBack 106 = .ok (.invokestatic 19, 3) := by decide +kernel
theorem dX3_giveBack_109 : decode cX3_giveBack 109 = .ok (.return_, 1) := by decide +kernel
theorem dX4_init_0 : decode cX4_init 0 = .ok (.aload_n 0, 1) := by decide +kernel
theorem dX4_init_1 : decode cX4_init 1 = .ok (.invokespecial 3, 3) := by decide +kernel
theorem dX4_init_4 : decode cX4_init 4 = .ok (.aload_n 0, 1) := by decide +kernel
theorem dX4_init_5 : decode cX4_init 5 = .ok (.bipush 12, 2) := by decide +kernel
theorem dX4_init_7 : decode cX4_init 7 = .ok (.newarray .int, 2) := by decide +kernel
theorem dX4_init_9 : decode cX4_init 9 = .ok (.putfield 9, 3) := by decide +kernel
theorem dX4_init_12 : decode cX4_init 12 = .ok (.aload_n 0, 1) := by decide +kernel
theorem dX4_init_13 : decode cX4_init 13 = .ok (.bipush 12, 2) := by decide +kernel
theorem dX4_init_15 : decode cX4_init 15 = .ok (.newarray .int, 2) := by decide +kernel
theorem dX4_init_17 : decode cX4_init 17 = .ok (.putfield 15, 3) := by decide +kernel
theorem dX4_init_20 : decode cX4_init 20 = .ok (.aload_n 0, 1) := by decide +kernel
theorem dX4_init_21 : decode cX4_init 21 = .ok (.bipush 6, 2) := by decide +kernel
theorem dX4_init_23 : decode cX4_init 23 = .ok (.newarray .int, 2) := by decide +kernel
theorem dX4_init_25 : decode cX4_init 25 = .ok (.putfield 18, 3) := by decide +kernel
theorem dX4_init_28 : decode cX4_init 28 = .ok (.aload_n 0, 1) := by decide +kernel
theorem dX4_init_29 : decode cX4_init 29 = .ok (.bipush 6, 2) := by decide +kernel
theorem dX4_init_31 : decode cX4_init 31 = .ok (.newarray .int, 2) := by decide +kernel
theorem dX4_init_33 : decode cX4_init 33 = .ok (.putfield 21, 3) := by decide +kernel
theorem dX4_init_36 : decode cX4_init 36 = .ok (.aload_n 0, 1) := by decide +kernel
theorem dX4_init_37 : decode cX4_init 37 = .ok (.bipush 6, 2) := by decide +kernel
theorem dX4_init_39 : decode cX4_init 39 = .ok (.newarray .int, 2) := by decide +kernel
theorem dX4_init_41 : decode cX4_init 41 = .ok (.putfield 24, 3) := by decide +kernel
theorem dX4_init_44 : decode cX4_init 44 = .ok (.aload_n 0, 1) := by decide +kernel
theorem dX4_init_45 : decode cX4_init 45 = .ok (.bipush 6, 2) := by decide +kernel
theorem dX4_init_47 : decode cX4_init 47 = .ok (.newarray .int, 2) := by decide +kernel
theorem dX4_init_49 : decode cX4_init 49 = .ok (.putfield 27, 3) := by decide +kernel
theorem dX4_init_52 : decode cX4_init 52 = .ok (.aload_n 0, 1) := by decide +kernel
theorem dX4_init_53 : decode cX4_init 53 = .ok (.iconst 4, 1) := by decide +kernel
theorem dX4_init_54 : decode cX4_init 54 = .ok (.iconst 1, 1) := by decide +kernel
theorem dX4_init_55 : decode cX4_init 55 = .ok (.invokevirtual 30, 3) := by decide +kernel
theorem dX4_init_58 : decode cX4_init 58 = .ok (.return_, 1) := by decide +kernel
theorem dX4_start_0 : decode cX4_start 0 = .ok (.aload_n 0, 1) := by decide +kernel
theorem dX4_start_1 : decode cX4_start 1 = .ok (.iload_n 1, 1) := by decide +kernel
theorem dX4_start_2 : decode cX4_start 2 = .ok (.putfield 34, 3) := by decide +kernel
theorem dX4_start_5 : decode cX4_start 5 = .ok (.aload_n 0, 1) := by decide +kernel
theorem dX4_start_6 : decode cX4_start 6 = .ok (.iconst 0, 1) := by decide +kernel
theorem dX4_start_7 : decode cX4_start 7 = .ok (.putfield 38, 3) := by decide +kernel
theorem dX4_start_10 : decode cX4_start 10 = .ok (.aload_n 0, 1) := by decide +kernel
theorem dX4_start_11 : decode cX4_start 11 = .ok (.iload_n 2, 1) := by decide +kernel
theorem dX4_start_12 : decode cX4_start 12 = .ok (.putfield 41, 3) := by decide +kernel
theorem dX4_start_15 : decode cX4_start 15 = .ok (.aload_n 0, 1) := by decide +kernel
theorem dX4_start_16 : decode cX4_start 16 = .ok (.bipush 8, 2) := by decide +kernel
theorem dX4_start_18 : decode cX4_start 18 = .ok (.putfield 44, 3) := by decide +kernel
theorem dX4_start_21 : decode cX4_start 21 = .ok (.aload_n 0, 1) := by decide +kernel
theorem dX4_start_22 : decode cX4_start 22 = .ok (.iconst 0, 1) := by decide +kernel
theorem dX4_start_23 : decode cX4_start 23 = .ok (.putfield 47, 3) := by decide +kernel
theorem dX4_start_26 : decode cX4_start 26 = .ok (.aload_n 0, 1) := by decide +kernel
theorem dX4_start_27 : decode cX4_start 27 = .ok (.iconst 0, 1) := by decide +kernel
theorem dX4_start_28 : decode cX4_start 28 = .ok (.putfield 50, 3) := by decide +kernel
theorem dX4_start_31 : decode cX4_start 31 = .ok (.iconst 0, 1) := by decide +kernel
theorem dX4_start_32 : decode cX4_start 32 = .ok (.istore_n 3, 1) := by decide +kernel
theorem dX4_start_33 : decode cX4_start 33 = .ok (.iload_n 3, 1) := by decide +kernel
theorem dX4_start_34 : decode cX4_start 34 = .ok (.bipush 12, 2) := by decide +kernel
theorem dX4_start_36 : decode cX4_start 36 = .ok (.if_icmp .ge 16, 3) := by decide +kernel
theorem dX4_start_39 : decode cX4_start 39 = .ok (.aload_n 0, 1) := by decide +kernel
theorem dX4_start_40 : decode cX4_start 40 = .ok (.iload_n 3, 1) := by decide +kernel
theorem dX4_start_41 : decode cX4_start 41 = .ok (.iconst 0, 1) := by decide +kernel
theorem dX4_start_42 : decode cX4_start 42 = .ok (.iconst 0, 1) := by decide +kernel
theorem dX4_start_43 : decode cX4_start 43 = .ok (.invokevirtual 53, 3) := by decide +kernel
theorem dX4_start_46 : decode cX4_start 46 = .ok (.iinc 3 1, 3) := by decide +kernel
theorem dX4_start_49 : decode cX4_start 49 = .ok (.goto (-16), 3) := by decide +kernel
theorem dX4_start_52 : decode cX4_start 52 = .ok (.return_, 1) := by decide +kernel
theorem dX4_copyOf_0 : decode cX4_copyOf 0 = .ok (.aload_n 0, 1) := by decide +kernel
theorem dX4_copyOf_1 : decode cX4_copyOf 1 = .ok (.aload_n 1, 1) := by decide +kernel
theorem dX4_copyOf_2 : decode cX4_copyOf 2 = .ok (.getfield 34, 3) := by decide +kernel
theorem dX4_copyOf_5 : decode cX4_copyOf 5 = .ok (.putfield 34, 3) := by decide +kernel
theorem dX4_copyOf_8 : decode cX4_copyOf 8 = .ok (.aload_n 0, 1) := by decide +kernel
theorem dX4_copyOf_9 : decode cX4_copyOf 9 = .ok (.aload_n 1, 1) := by decide +kernel
theorem dX4_copyOf_10 : decode cX4_copyOf 10 = .ok (.getfield 38, 3) := by decide +kernel
theorem dX4_copyOf_13 : decode cX4_copyOf 13 = .ok (.putfield 38, 3) := by decide +kernel
theorem dX4_copyOf_16 : decode cX4_copyOf 16 = .ok (.aload_n 0, 1) := by decide +kernel
theorem dX4_copyOf_17 : decode cX4_copyOf 17 = .ok (.aload_n 1, 1) := by decide +kernel
theorem dX4_copyOf_18 : decode cX4_copyOf 18 = .ok (.getfield 41, 3) := by decide +kernel
theorem dX4_copyOf_21 : decode cX4_copyOf 21 = .ok (.putfield 41, 3) := by decide +kernel
theorem dX4_copyOf_24 : decode cX4_copyOf 24 = .ok (.aload_n 0, 1) := by decide +kernel
theorem dX4_copyOf_25 : decode cX4_copyOf 25 = .ok (.aload_n 1, 1) := by decide +kernel
theorem dX4_copyOf_26 : decode cX4_copyOf 26 = .ok (.getfield 44, 3) := by decide +kernel
theorem dX4_copyOf_29 : decode cX4_copyOf 29 = .ok (.putfield 44, 3) := by decide +kernel
theorem dX4_copyOf_32 : decode cX4_copyOf 32 = .ok (.aload_n 0, 1) := by decide +kernel
theorem dX4_copyOf_33 : decode cX4_copyOf 33 = .ok (.aload_n 1, 1) := by decide +kernel
theorem dX4_copyOf_34 : decode cX4_copyOf 34 = .ok (.getfield 47, 3) := by decide +kernel
theorem dX4_copyOf_37 : decode cX4_copyOf 37 = .ok (.putfield 47, 3) := by decide +kernel
theorem dX4_copyOf_40 : decode cX4_copyOf 40 = .ok (.aload_n 0, 1) := by decide +kernel
theorem dX4_copyOf_41 : decode cX4_copyOf 41 = .ok (.aload_n 1, 1) := by decide +kernel
theorem dX4_copyOf_42 : decode cX4_copyOf 42 = .ok (.getfield 50, 3) := by decide +kernel
theorem dX4_copyOf_45 : decode cX4_copyOf 45 = .ok (.putfield 50, 3) := by decide +kernel
theorem dX4_copyOf_48 : decode cX4_copyOf 48 = .ok (.aload_n 1, 1) := by decide +kernel
theorem dX4_copyOf_49 : decode cX4_copyOf 49 = .ok (.getfield 9, 3) := by decide +kernel
theorem dX4_copyOf_52 : decode cX4_copyOf 52 = .ok (.iconst 0, 1) := by decide +kernel
theorem dX4_copyOf_53 : decode cX4_copyOf 53 = .ok (.aload_n 0, 1) := by decide +kernel
theorem dX4_copyOf_54 : decode cX4_copyOf 54 = .ok (.getfield 9, 3) := by decide +kernel
theorem dX4_copyOf_57 : decode cX4_copyOf 57 = .ok (.iconst 0, 1) := by decide +kernel
theorem dX4_copyOf_58 : decode cX4_copyOf 58 = .ok (.bipush 12, 2) := by decide +kernel
theorem dX4_copyOf_60 : decode cX4_copyOf 60 = .ok (.invokestatic 57, 3) := by decide +kernel
theorem dX4_copyOf_63 : decode cX4_copyOf 63 = .ok (.aload_n 1, 1) := by decide +kernel
theorem dX4_copyOf_64 : decode cX4_copyOf 64 = .ok (.getfield 15, 3) := by decide +kernel
theorem dX4_copyOf_67 : decode cX4_copyOf 67 = .ok (.iconst 0, 1) := by decide +kernel
theorem dX4_copyOf_68 : decode cX4_copyOf 68 = .ok (.aload_n 0, 1) := by decide +kernel
theorem dX4_copyOf_69 : decode cX4_copyOf 69 = .ok (.getfield 15, 3) := by decide +kernel
theorem dX4_copyOf_72 : decode cX4_copyOf 72 = .ok (.iconst 0, 1) := by decide +kernel
theorem dX4_copyOf_73 : decode cX4_copyOf 73 = .ok (.bipush 12, 2) := by decide +kernel
theorem dX4_copyOf_75 : decode cX4_copyOf 75 = .ok (.invokestatic 57, 3) := by decide +kernel
theorem dX4_copyOf_78 : decode cX4_copyOf 78 = .ok (.aload_n 1, 1) := by decide +kernel
theorem dX4_copyOf_79 : decode cX4_copyOf 79 = .ok (.getfield 18, 3) := by decide +kernel
theorem dX4_copyOf_82 : decode cX4_copyOf 82 = .ok (.iconst 0, 1) := by decide +kernel
theorem dX4_copyOf_83 : decode cX4_copyOf 83 = .ok (.aload_n 0, 1) := by decide +kernel
theorem dX4_copyOf_84 : decode cX4_copyOf 84 = .ok (.getfield 18, 3) := by decide +kernel
theorem dX4_copyOf_87 : decode cX4_copyOf 87 = .ok (.iconst 0, 1) := by decide +kernel
theorem dX4_copyOf_88 : decode cX4_copyOf 88 = .ok (.bipush 6, 2) := by decide +kernel
theorem dX4_copyOf_90 : decode cX4_copyOf 90 = .ok (.invokestatic 57, 3) := by decide +kernel
theorem dX4_copyOf_93 : decode cX4_copyOf 93 = .ok (.aload_n 1, 1) := by decide +kernel
theorem dX4_copyOf_94 : decode cX4_copyOf 94 = .ok (.getfield 21, 3) := by decide +kernel
theorem dX4_copyOf_97 : decode cX4_copyOf 97 = .ok (.iconst 0, 1) := by decide +kernel
theorem dX4_copyOf_98 : decode cX4_copyOf 98 = .ok (.aload_n 0, 1) := by decide +kernel
theorem dX4_copyOf_99 : decode cX4_copyOf 99 = .ok (.getfield 21, 3) := by decide +kernel
theorem dX4_copyOf_102 : decode cX4_copyOf 102 = .ok (.iconst 0, 1) := by decide +kernel
theorem dX4_copyOf_103 : decode cX4_copyOf 103 = .ok (.bipush 6, 2) := by decide +kernel
theorem dX4_copyOf_105 : decode cX4_copyOf 105 = .ok (.invokestatic 57, 3) := by decide +kernel
theorem dX4_copyOf_108 : decode cX4_copyOf 108 = .ok (.aload_n 1, 1) := by decide +kernel
theorem dX4_copyOf_109 : decode cX4_copyOf 109 = .ok (.getfield 24, 3) := by decide +kernel
theorem dX4_copyOf_112 : decode cX4_copyOf 112 = .ok (.iconst 0, 1) := by decide +kernel
theorem dX4_copyOf_113 : decode cX4_copyOf 113 = .ok (.aload_n 0, 1) := by decide +kernel
theorem dX4_copyOf_114 : decode cX4_copyOf 114 = .ok (.getfield 24, 3) := by decide +kernel
theorem dX4_copyOf_117 : decode cX4_copyOf 117 = .ok (.iconst 0, 1) := by decide +kernel
theorem dX4_copyOf_118 : decode cX4_copyOf 118 = .ok (.bipush 6, 2) := by decide +kernel
theorem dX4_copyOf_120 : decode cX4_copyOf 120 = .ok (.invokestatic 57, 3) := by decide +kernel
theorem dX4_copyOf_123 : decode cX4_copyOf 123 = .ok (.aload_n 1, 1) := by decide +kernel
theorem dX4_copyOf_124 : decode cX4_copyOf 124 = .ok (.getfield 27, 3) := by decide +kernel
theorem dX4_copyOf_127 : decode cX4_copyOf 127 = .ok (.iconst 0, 1) := by decide +kernel
theorem dX4_copyOf_128 : decode cX4_copyOf 128 = .ok (.aload_n 0, 1) := by decide +kernel
theorem dX4_copyOf_129 : decode cX4_copyOf 129 = .ok (.getfield 27, 3) := by decide +kernel
theorem dX4_copyOf_132 : decode cX4_copyOf 132 = .ok (.iconst 0, 1) := by decide +kernel
theorem dX4_copyOf_133 : decode cX4_copyOf 133 = .ok (.bipush 6, 2) := by decide +kernel
theorem dX4_copyOf_135 : decode cX4_copyOf 135 = .ok (.invokestatic 57, 3) := by decide +kernel
theorem dX4_copyOf_138 : decode cX4_copyOf 138 = .ok (.return_, 1) := by decide +kernel
theorem dX4_putHorse_0 : decode cX4_putHorse 0 = .ok (.aload_n 0, 1) := by decide +kernel
theorem dX4_putHorse_1 : decode cX4_putHorse 1 = .ok (.getfield 9, 3) := by decide +kernel
theorem dX4_putHorse_4 : decode cX4_putHorse 4 = .ok (.iload_n 1, 1) := by decide +kernel
theorem dX4_putHorse_5 : decode cX4_putHorse 5 = .ok (.iload_n 2, 1) := by decide +kernel
theorem dX4_putHorse_6 : decode cX4_putHorse 6 = .ok (.iastore, 1) := by decide +kernel
theorem dX4_putHorse_7 : decode cX4_putHorse 7 = .ok (.aload_n 0, 1) := by decide +kernel
theorem dX4_putHorse_8 : decode cX4_putHorse 8 = .ok (.getfield 15, 3) := by decide +kernel
theorem dX4_putHorse_11 : decode cX4_putHorse 11 = .ok (.iload_n 1, 1) := by decide +kernel
theorem dX4_putHorse_12 : decode cX4_putHorse 12 = .ok (.iload_n 3, 1) := by decide +kernel
theorem dX4_putHorse_13 : decode cX4_putHorse 13 = .ok (.iastore, 1) := by decide +kernel
theorem dX4_putHorse_14 : decode cX4_putHorse 14 = .ok (.return_, 1) := by decide +kernel
theorem dX4_putRider_0 : decode cX4_putRider 0 = .ok (.aload_n 0, 1) := by decide +kernel
theorem dX4_putRider_1 : decode cX4_putRider 1 = .ok (.getfield 50, 3) := by decide +kernel
theorem dX4_putRider_4 : decode cX4_putRider 4 = .ok (.bipush 6, 2) := by decide +kernel
theorem dX4_putRider_6 : decode cX4_putRider 6 = .ok (.if_icmp .ge 53, 3) := by decide +kernel
theorem dX4_putRider_9 : decode cX4_putRider 9 = .ok (.aload_n 0, 1) := by decide +kernel
theorem dX4_putRider_10 : decode cX4_putRider 10 = .ok (.getfield 18, 3) := by decide +kernel
theorem dX4_putRider_13 : decode cX4_putRider 13 = .ok (.aload_n 0, 1) := by decide +kernel
theorem dX4_putRider_14 : decode cX4_putRider 14 = .ok (.getfield 50, 3) := by decide +kernel
theorem dX4_putRider_17 : decode cX4_putRider 17 = .ok (.iload_n 1, 1) := by decide +kernel
theorem dX4_putRider_18 : decode cX4_putRider 18 = .ok (.iastore, 1) := by decide +kernel
theorem dX4_putRider_19 : decode cX4_putRider 19 = .ok (.aload_n 0, 1) := by decide +kernel
theorem dX4_putRider_20 : decode cX4_putRider 20 = .ok (.getfield 21, 3) := by decide +kernel
theorem dX4_putRider_23 : decode cX4_putRider 23 = .ok (.aload_n 0, 1) := by decide +kernel
theorem dX4_putRider_24 : decode cX4_putRider 24 = .ok (.getfield 50, 3) := by decide +kernel
theorem dX4_putRider_27 : decode cX4_putRider 27 = .ok (.iload_n 2, 1) := by decide +kernel
theorem dX4_putRider_28 : decode cX4_putRider 28 = .ok (.iastore, 1) := by decide +kernel
theorem dX4_putRider_29 : decode cX4_putRider 29 = .ok (.aload_n 0, 1) := by decide +kernel
theorem dX4_putRider_30 : decode cX4_putRider 30 = .ok (.getfield 24, 3) := by decide +kernel
theorem dX4_putRider_33 : decode cX4_putRider 33 = .ok (.aload_n 0, 1) := by decide +kernel
theorem dX4_putRider_34 : decode cX4_putRider 34 = .ok (.getfield 50, 3) := by decide +kernel
theorem dX4_putRider_37 : decode cX4_putRider 37 = .ok (.iload_n 3, 1) := by decide +kernel
theorem dX4_putRider_38 : decode cX4_putRider 38 = .ok (.iastore, 1) := by decide +kernel
theorem dX4_putRider_39 : decode cX4_putRider 39 = .ok (.aload_n 0, 1) := by decide +kernel
theorem dX4_putRider_40 : decode cX4_putRider 40 = .ok (.getfield 27, 3) := by decide +kernel
theorem dX4_putRider_43 : decode cX4_putRider 43 = .ok (.aload_n 0, 1) := by decide +kernel
theorem dX4_putRider_44 : decode cX4_putRider 44 = .ok (.getfield 50, 3) := by decide +kernel
theorem dX4_putRider_47 : decode cX4_putRider 47 = .ok (.iconst 0, 1) := by decide +kernel
theorem dX4_putRider_48 : decode cX4_putRider 48 = .ok (.iastore, 1) := by decide +kernel
theorem dX4_putRider_49 : decode cX4_putRider 49 = .ok (.aload_n 0, 1) := by decide +kernel
theorem dX4_putRider_50 : decode cX4_putRider 50 = .ok (.dup, 1) := by decide +kernel
theorem dX4_putRider_51 : decode cX4_putRider 51 = .ok (.getfield 50, 3) := by decide +kernel
theorem dX4_putRider_54 : decode cX4_putRider 54 = .ok (.iconst 1, 1) := by decide +kernel
theorem dX4_putRider_55 : decode cX4_putRider 55 = .ok (.iadd, 1) := by decide +kernel
theorem dX4_putRider_56 : decode cX4_putRider 56 = .ok (.putfield 50, 3) := by decide +kernel
theorem dX4_putRider_59 : decode cX4_putRider 59 = .ok (.return_, 1) := by decide +kernel
theorem dX4_whoIsOn_0 : decode cX4_whoIsOn 0 = .ok (.iconst 0, 1) := by decide +kernel
theorem dX4_whoIsOn_1 : decode cX4_whoIsOn 1 = .ok (.istore_n 2, 1) := by decide +kernel
theorem dX4_whoIsOn_2 : decode cX4_whoIsOn 2 = .ok (.iload_n 2, 1) := by decide +kernel
theorem dX4_whoIsOn_3 : decode cX4_whoIsOn 3 = .ok (.aload_n 0, 1) := by decide +kernel
theorem dX4_whoIsOn_4 : decode cX4_whoIsOn 4 = .ok (.getfield 50, 3) := by decide +kernel
theorem dX4_whoIsOn_7 : decode cX4_whoIsOn 7 = .ok (.if_icmp .ge 21, 3) := by decide +kernel
theorem dX4_whoIsOn_10 : decode cX4_whoIsOn 10 = .ok (.aload_n 0, 1) := by decide +kernel
theorem dX4_whoIsOn_11 : decode cX4_whoIsOn 11 = .ok (.getfield 24, 3) := by decide +kernel
theorem dX4_whoIsOn_14 : decode cX4_whoIsOn 14 = .ok (.iload_n 2, 1) := by decide +kernel
theorem dX4_whoIsOn_15 : decode cX4_whoIsOn 15 = .ok (.iaload, 1) := by decide +kernel
theorem dX4_whoIsOn_16 : decode cX4_whoIsOn 16 = .ok (.iload_n 1, 1) := by decide +kernel
theorem dX4_whoIsOn_17 : decode cX4_whoIsOn 17 = .ok (.if_icmp .ne 5, 3) := by decide +kernel
theorem dX4_whoIsOn_20 : decode cX4_whoIsOn 20 = .ok (.iload_n 2, 1) := by decide +kernel
theorem dX4_whoIsOn_21 : decode cX4_whoIsOn 21 = .ok (.ireturn, 1) := by decide +kernel
theorem dX4_whoIsOn_22 : decode cX4_whoIsOn 22 = .ok (.iinc 2 1, 3) := by decide +kernel
theorem dX4_whoIsOn_25 : decode cX4_whoIsOn 25 = .ok (.goto (-23), 3) := by decide +kernel
theorem dX4_whoIsOn_28 : decode cX4_whoIsOn 28 = .ok (.iconst (-1), 1) := by decide +kernel
theorem dX4_whoIsOn_29 : decode cX4_whoIsOn 29 = .ok (.ireturn, 1) := by decide +kernel
theorem dX4_around_0 : decode cX4_around 0 = .ok (.aload_n 0, 1) := by decide +kernel
theorem dX4_around_1 : decode cX4_around 1 = .ok (.getfield 34, 3) := by decide +kernel
theorem dX4_around_4 : decode cX4_around 4 = .ok (.ifCond .le 12, 3) := by decide +kernel
theorem dX4_around_7 : decode cX4_around 7 = .ok (.iload_n 1, 1) := by decide +kernel
theorem dX4_around_8 : decode cX4_around 8 = .ok (.aload_n 0, 1) := by decide +kernel
theorem dX4_around_9 : decode cX4_around 9 = .ok (.getfield 34, 3) := by decide +kernel
theorem dX4_around_12 : decode cX4_around 12 = .ok (.irem, 1) := by decide +kernel
theorem dX4_around_13 : decode cX4_around 13 = .ok (.goto 4, 3) := by decide +kernel
theorem dX4_around_16 : decode cX4_around 16 = .ok (.iconst 0, 1) := by decide +kernel
theorem dX4_around_17 : decode cX4_around 17 = .ok (.ireturn, 1) := by decide +kernel
theorem dX4_placeOf_0 : decode cX4_placeOf 0 = .ok (.aload_n 0, 1) := by decide +kernel
theorem dX4_placeOf_1 : decode cX4_placeOf 1 = .ok (.aload_n 0, 1) := by decide +kernel
theorem dX4_placeOf_2 : decode cX4_placeOf 2 = .ok (.getfield 24, 3) := by decide +kernel
theorem dX4_placeOf_5 : decode cX4_placeOf 5 = .ok (.iload_n 1, 1) := by decide +kernel
theorem dX4_placeOf_6 : decode cX4_placeOf 6 = .ok (.iaload, 1) := by decide +kernel
theorem dX4_placeOf_7 : decode cX4_placeOf 7 = .ok (.aload_n 0, 1) := by decide +kernel
theorem dX4_placeOf_8 : decode cX4_placeOf 8 = .ok (.getfield 38, 3) := by decide +kernel
theorem dX4_placeOf_11 : decode cX4_placeOf 11 = .ok (.iadd, 1) := by decide +kernel
theorem dX4_placeOf_12 : decode cX4_placeOf 12 = .ok (.aload_n 0, 1) := by decide +kernel
theorem dX4_placeOf_13 : decode cX4_placeOf 13 = .ok (.getfield 41, 3) := by decide +kernel
theorem dX4_placeOf_16 : decode cX4_placeOf 16 = .ok (.iload_n 2, 1) := by decide +kernel
theorem dX4_placeOf_17 : decode cX4_placeOf 17 = .ok (.imul, 1) := by decide +kernel
theorem dX4_placeOf_18 : decode cX4_placeOf 18 = .ok (.iadd, 1) := by decide +kernel
theorem dX4_placeOf_19 : decode cX4_placeOf 19 = .ok (.invokevirtual 63, 3) := by decide +kernel
theorem dX4_placeOf_22 : decode cX4_placeOf 22 = .ok (.ireturn, 1) := by decide +kernel
theorem dX4_highOn_0 : decode cX4_highOn 0 = .ok (.aload_n 0, 1) := by decide +kernel
theorem dX4_highOn_1 : decode cX4_highOn 1 = .ok (.getfield 9, 3) := by decide +kernel
theorem dX4_highOn_4 : decode cX4_highOn 4 = .ok (.iload_n 1, 1) := by decide +kernel
theorem dX4_highOn_5 : decode cX4_highOn 5 = .ok (.iaload, 1) := by decide +kernel
theorem dX4_highOn_6 : decode cX4_highOn 6 = .ok (.aload_n 0, 1) := by decide +kernel
theorem dX4_highOn_7 : decode cX4_highOn 7 = .ok (.getfield 47, 3) := by decide +kernel
theorem dX4_highOn_10 : decode cX4_highOn 10 = .ok (.iload_n 2, 1) := by decide +kernel
theorem dX4_highOn_11 : decode cX4_highOn 11 = .ok (.iadd, 1) := by decide +kernel
theorem dX4_highOn_12 : decode cX4_highOn 12 = .ok (.aload_n 0, 1) := by decide +kernel
theorem dX4_highOn_13 : decode cX4_highOn 13 = .ok (.getfield 15, 3) := by decide +kernel
theorem dX4_highOn_16 : decode cX4_highOn 16 = .ok (.iload_n 1, 1) := by decide +kernel
theorem dX4_highOn_17 : decode cX4_highOn 17 = .ok (.iaload, 1) := by decide +kernel
theorem dX4_highOn_18 : decode cX4_highOn 18 = .ok (.aload_n 0, 1) := by decide +kernel
theorem dX4_highOn_19 : decode cX4_highOn 19 = .ok (.getfield 41, 3) := by decide +kernel
theorem dX4_highOn_22 : decode cX4_highOn 22 = .ok (.invokestatic 67, 3) := by decide +kernel
theorem dX4_highOn_25 : decode cX4_highOn 25 = .ok (.ireturn, 1) := by decide +kernel
theorem dX4_reachOf_0 : decode cX4_reachOf 0 = .ok (.aload_n 0, 1) := by decide +kernel
theorem dX4_reachOf_1 : decode cX4_reachOf 1 = .ok (.getfield 24, 3) := by decide +kernel
theorem dX4_reachOf_4 : decode cX4_reachOf 4 = .ok (.iload_n 1, 1) := by decide +kernel
theorem dX4_reachOf_5 : decode cX4_reachOf 5 = .ok (.iaload, 1) := by decide +kernel
theorem dX4_reachOf_6 : decode cX4_reachOf 6 = .ok (.istore_n 2, 1) := by decide +kernel
theorem dX4_reachOf_7 : decode cX4_reachOf 7 = .ok (.aload_n 0, 1) := by decide +kernel
theorem dX4_reachOf_8 : decode cX4_reachOf 8 = .ok (.getfield 18, 3) := by decide +kernel
theorem dX4_reachOf_11 : decode cX4_reachOf 11 = .ok (.iload_n 1, 1) := by decide +kernel
theorem dX4_reachOf_12 : decode cX4_reachOf 12 = .ok (.iaload, 1) := by decide +kernel
theorem dX4_reachOf_13 : decode cX4_reachOf 13 = .ok (.aload_n 0, 1) := by decide +kernel
theorem dX4_reachOf_14 : decode cX4_reachOf 14 = .ok (.getfield 21, 3) := by decide +kernel
theorem dX4_reachOf_17 : decode cX4_reachOf 17 = .ok (.iload_n 1, 1) := by decide +kernel
theorem dX4_reachOf_18 : decode cX4_reachOf 18 = .ok (.iaload, 1) := by decide +kernel
theorem dX4_reachOf_19 : decode cX4_reachOf 19 = .ok (.aload_n 0, 1) := by decide +kernel
theorem dX4_reachOf_20 : decode cX4_reachOf 20 = .ok (.getfield 9, 3) := by decide +kernel
theorem dX4_reachOf_23 : decode cX4_reachOf 23 = .ok (.iload_n 2, 1) := by decide +kernel
theorem dX4_reachOf_24 : decode cX4_reachOf 24 = .ok (.iaload, 1) := by decide +kernel
theorem dX4_reachOf_25 : decode cX4_reachOf 25 = .ok (.aload_n 0, 1) := by decide +kernel
theorem dX4_reachOf_26 : decode cX4_reachOf 26 = .ok (.getfield 47, 3) := by decide +kernel
theorem dX4_reachOf_29 : decode cX4_reachOf 29 = .ok (.aload_n 0, 1) := by decide +kernel
theorem dX4_reachOf_30 : decode cX4_reachOf 30 = .ok (.getfield 15, 3) := by decide +kernel
theorem dX4_reachOf_33 : decode cX4_reachOf 33 = .ok (.iload_n 2, 1) := by decide +kernel
theorem dX4_reachOf_34 : decode cX4_reachOf 34 = .ok (.iaload, 1) := by decide +kernel
theorem dX4_reachOf_35 : decode cX4_reachOf 35 = .ok (.aload_n 0, 1) := by decide +kernel
theorem dX4_reachOf_36 : decode cX4_reachOf 36 = .ok (.getfield 41, 3) := by decide +kernel
theorem dX4_reachOf_39 : decode cX4_reachOf 39 = .ok (.invokestatic 67, 3) := by decide +kernel
theorem dX4_reachOf_42 : decode cX4_reachOf 42 = .ok (.aload_n 0, 1) := by decide +kernel
theorem dX4_reachOf_43 : decode cX4_reachOf 43 = .ok (.getfield 27, 3) := by decide +kernel
theorem dX4_reachOf_46 : decode cX4_reachOf 46 = .ok (.iload_n 1, 1) := by decide +kernel
theorem dX4_reachOf_47 : decode cX4_reachOf 47 = .ok (.iaload, 1) := by decide +kernel
theorem dX4_reachOf_48 : decode cX4_reachOf 48 = .ok (.invokestatic 73, 3) := by decide +kernel
theorem dX4_reachOf_51 : decode cX4_reachOf 51 = .ok (.ireturn, 1) := by decide +kernel
theorem dX4_allRings_0 : decode cX4_allRings 0 = .ok (.iconst 0, 1) := by decide +kernel
theorem dX4_allRings_1 : decode cX4_allRings 1 = .ok (.istore_n 1, 1) := by decide +kernel
theorem dX4_allRings_2 : decode cX4_allRings 2 = .ok (.iconst 0, 1) := by decide +kernel
theorem dX4_allRings_3 : decode cX4_allRings 3 = .ok (.istore_n 2, 1) := by decide +kernel
theorem dX4_allRings_4 : decode cX4_allRings 4 = .ok (.iload_n 2, 1) := by decide +kernel
theorem dX4_allRings_5 : decode cX4_allRings 5 = .ok (.aload_n 0, 1) := by decide +kernel
theorem dX4_allRings_6 : decode cX4_allRings 6 = .ok (.getfield 50, 3) := by decide +kernel
theorem dX4_allRings_9 : decode cX4_allRings 9 = .ok (.if_icmp .ge 18, 3) := by decide +kernel
theorem dX4_allRings_12 : decode cX4_allRings 12 = .ok (.iload_n 1, 1) := by decide +kernel
theorem dX4_allRings_13 : decode cX4_allRings 13 = .ok (.aload_n 0, 1) := by decide +kernel
theorem dX4_allRings_14 : decode cX4_allRings 14 = .ok (.getfield 27, 3) := by decide +kernel
theorem dX4_allRings_17 : decode cX4_allRings 17 = .ok (.iload_n 2, 1) := by decide +kernel
theorem dX4_allRings_18 : decode cX4_allRings 18 = .ok (.iaload, 1) := by decide +kernel
theorem dX4_allRings_19 : decode cX4_allRings 19 = .ok (.iadd, 1) := by decide +kernel
theorem dX4_allRings_20 : decode cX4_allRings 20 = .ok (.istore_n 1, 1) := by decide +kernel
theorem dX4_allRings_21 : decode cX4_allRings 21 = .ok (.iinc 2 1, 3) := by decide +kernel
theorem dX4_allRings_24 : decode cX4_allRings 24 = .ok (.goto (-20), 3) := by decide +kernel
theorem dX4_allRings_27 : decode cX4_allRings 27 = .ok (.iload_n 1, 1) := by decide +kernel
theorem dX4_allRings_28 : decode cX4_allRings 28 = .ok (.ireturn, 1) := by decide +kernel
theorem dX4_step_0 : decode cX4_step 0 = .ok (.aload_n 0, 1) := by decide +kernel
theorem dX4_step_1 : decode cX4_step 1 = .ok (.invokevirtual 78, 3) := by decide +kernel
theorem dX4_step_4 : decode cX4_step 4 = .ok (.aload_n 0, 1) := by decide +kernel
theorem dX4_step_5 : decode cX4_step 5 = .ok (.invokevirtual 81, 3) := by decide +kernel
theorem dX4_step_8 : decode cX4_step 8 = .ok (.istore_n 1, 1) := by decide +kernel
theorem dX4_step_9 : decode cX4_step 9 = .ok (.iload_n 1, 1) := by decide +kernel
theorem dX4_step_10 : decode cX4_step 10 = .ok (.iconst (-1), 1) := by decide +kernel
theorem dX4_step_11 : decode cX4_step 11 = .ok (.if_icmp .eq 8, 3) := by decide +kernel
theorem dX4_step_14 : decode cX4_step 14 = .ok (.aload_n 0, 1) := by decide +kernel
theorem dX4_step_15 : decode cX4_step 15 = .ok (.iload_n 1, 1) := by decide +kernel
theorem dX4_step_16 : decode cX4_step 16 = .ok (.invokevirtual 85, 3) := by decide +kernel
theorem dX4_step_19 : decode cX4_step 19 = .ok (.iload_n 1, 1) := by decide +kernel
theorem dX4_step_20 : decode cX4_step 20 = .ok (.ireturn, 1) := by decide +kernel
theorem dX4_turn_0 : decode cX4_turn 0 = .ok (.aload_n 0, 1) := by decide +kernel
theorem dX4_turn_1 : decode cX4_turn 1 = .ok (.dup, 1) := by decide +kernel
theorem dX4_turn_2 : decode cX4_turn 2 = .ok (.getfield 47, 3) := by decide +kernel
theorem dX4_turn_5 : decode cX4_turn 5 = .ok (.iconst 1, 1) := by decide +kernel
theorem dX4_turn_6 : decode cX4_turn 6 = .ok (.iadd, 1) := by decide +kernel
theorem dX4_turn_7 : decode cX4_turn 7 = .ok (.putfield 47, 3) := by decide +kernel
theorem dX4_turn_10 : decode cX4_turn 10 = .ok (.aload_n 0, 1) := by decide +kernel
theorem dX4_turn_11 : decode cX4_turn 11 = .ok (.aload_n 0, 1) := by decide +kernel
theorem dX4_turn_12 : decode cX4_turn 12 = .ok (.aload_n 0, 1) := by decide +kernel
theorem dX4_turn_13 : decode cX4_turn 13 = .ok (.getfield 38, 3) := by decide +kernel
theorem dX4_turn_16 : decode cX4_turn 16 = .ok (.aload_n 0, 1) := by decide +kernel
theorem dX4_turn_17 : decode cX4_turn 17 = .ok (.getfield 41, 3) := by decide +kernel
theorem dX4_turn_20 : decode cX4_turn 20 = .ok (.iadd, 1) := by decide +kernel
theorem dX4_turn_21 : decode cX4_turn 21 = .ok (.invokevirtual 63, 3) := by decide +kernel
theorem dX4_turn_24 : decode cX4_turn 24 = .ok (.putfield 38, 3) := by decide +kernel
theorem dX4_turn_27 : decode cX4_turn 27 = .ok (.return_, 1) := by decide +kernel
theorem dX4_turnBack_0 : decode cX4_turnBack 0 = .ok (.aload_n 0, 1) := by decide +kernel
theorem dX4_turnBack_1 : decode cX4_turnBack 1 = .ok (.dup, 1) := by decide +kernel
theorem dX4_turnBack_2 : decode cX4_turnBack 2 = .ok (.getfield 47, 3) := by decide +kernel
theorem dX4_turnBack_5 : decode cX4_turnBack 5 = .ok (.iconst 1, 1) := by decide +kernel
theorem dX4_turnBack_6 : decode cX4_turnBack 6 = .ok (.isub, 1) := by decide +kernel
theorem dX4_turnBack_7 : decode cX4_turnBack 7 = .ok (.putfield 47, 3) := by decide +kernel
theorem dX4_turnBack_10 : decode cX4_turnBack 10 = .ok (.aload_n 0, 1) := by decide +kernel
theorem dX4_turnBack_11 : decode cX4_turnBack 11 = .ok (.iload_n 1, 1) := by decide +kernel
theorem dX4_turnBack_12 : decode cX4_turnBack 12 = .ok (.putfield 38, 3) := by decide +kernel
theorem dX4_turnBack_15 : decode cX4_turnBack 15 = .ok (.return_, 1) := by decide +kernel
theorem dX4_whoReaches_0 : decode cX4_whoReaches 0 = .ok (.aload_n 0, 1) := by decide +kernel
theorem dX4_whoReaches_1 : decode cX4_whoReaches 1 = .ok (.aload_n 0, 1) := by decide +kernel
theorem dX4_whoReaches_2 : decode cX4_whoReaches 2 = .ok (.aload_n 0, 1) := by decide +kernel
theorem dX4_whoReaches_3 : decode cX4_whoReaches 3 = .ok (.getfield 34, 3) := by decide +kernel
theorem dX4_whoReaches_6 : decode cX4_whoReaches 6 = .ok (.aload_n 0, 1) := by decide +kernel
theorem dX4_whoReaches_7 : decode cX4_whoReaches 7 = .ok (.getfield 38, 3) := by decide +kernel
theorem dX4_whoReaches_10 : decode cX4_whoReaches 10 = .ok (.isub, 1) := by decide +kernel
theorem dX4_whoReaches_11 : decode cX4_whoReaches 11 = .ok (.invokevirtual 63, 3) := by decide +kernel
theorem dX4_whoReaches_14 : decode cX4_whoReaches 14 = .ok (.invokevirtual 89, 3) := by decide +kernel
theorem dX4_whoReaches_17 : decode cX4_whoReaches 17 = .ok (.istore_n 1, 1) := by decide +kernel
theorem dX4_whoReaches_18 : decode cX4_whoReaches 18 = .ok (.iload_n 1, 1) := by decide +kernel
theorem dX4_whoReaches_19 : decode cX4_whoReaches 19 = .ok (.iconst (-1), 1) := by decide +kernel
theorem dX4_whoReaches_20 : decode cX4_whoReaches 20 = .ok (.if_icmp .eq 19, 3) := by decide +kernel
theorem dX4_whoReaches_23 : decode cX4_whoReaches 23 = .ok (.aload_n 0, 1) := by decide +kernel
theorem dX4_whoReaches_24 : decode cX4_whoReaches 24 = .ok (.iload_n 1, 1) := by decide +kernel
theorem dX4_whoReaches_25 : decode cX4_whoReaches 25 = .ok (.invokevirtual 92, 3) := by decide +kernel
theorem dX4_whoReaches_28 : decode cX4_whoReaches 28 = .ok (.aload_n 0, 1) := by decide +kernel
theorem dX4_whoReaches_29 : decode cX4_whoReaches 29 = .ok (.getfield 44, 3) := by decide +kernel
theorem dX4_whoReaches_32 : decode cX4_whoReaches 32 = .ok (.if_icmp .lt 7, 3) := by decide +kernel
theorem dX4_whoReaches_35 : decode cX4_whoReaches 35 = .ok (.iload_n 1, 1) := by decide +kernel
theorem dX4_whoReaches_36 : decode cX4_whoReaches 36 = .ok (.goto 4, 3) := by decide +kernel
theorem dX4_whoReaches_39 : decode cX4_whoReaches 39 = .ok (.iconst (-1), 1) := by decide +kernel
theorem dX4_whoReaches_40 : decode cX4_whoReaches 40 = .ok (.ireturn, 1) := by decide +kernel
theorem dX4_take_0 : decode cX4_take 0 = .ok (.aload_n 0, 1) := by decide +kernel
theorem dX4_take_1 : decode cX4_take 1 = .ok (.getfield 27, 3) := by decide +kernel
theorem dX4_take_4 : decode cX4_take 4 = .ok (.iload_n 1, 1) := by decide +kernel
theorem dX4_take_5 : decode cX4_take 5 = .ok (.aload_n 0, 1) := by decide +kernel
theorem dX4_take_6 : decode cX4_take 6 = .ok (.getfield 27, 3) := by decide +kernel
theorem dX4_take_9 : decode cX4_take 9 = .ok (.iload_n 1, 1) := by decide +kernel
theorem dX4_take_10 : decode cX4_take 10 = .ok (.iaload, 1) := by decide +kernel
theorem dX4_take_11 : decode cX4_take 11 = .ok (.iconst 1, 1) := by decide +kernel
theorem dX4_take_12 : decode cX4_take 12 = .ok (.iadd, 1) := by decide +kernel
theorem dX4_take_13 : decode cX4_take 13 = .ok (.bipush 99, 2) := by decide +kernel
theorem dX4_take_15 : decode cX4_take 15 = .ok (.invokestatic 95, 3) := by decide +kernel
theorem dX4_take_18 : decode cX4_take 18 = .ok (.iastore, 1) := by decide +kernel
theorem dX4_take_19 : decode cX4_take 19 = .ok (.aload_n 0, 1) := by decide +kernel
theorem dX4_take_20 : decode cX4_take 20 = .ok (.aload_n 0, 1) := by decide +kernel
theorem dX4_take_21 : decode cX4_take 21 = .ok (.getfield 44, 3) := by decide +kernel
theorem dX4_take_24 : decode cX4_take 24 = .ok (.iconst 1, 1) := by decide +kernel
theorem dX4_take_25 : decode cX4_take 25 = .ok (.iadd, 1) := by decide +kernel
theorem dX4_take_26 : decode cX4_take 26 = .ok (.bipush 20, 2) := by decide +kernel
theorem dX4_take_28 : decode cX4_take 28 = .ok (.invokestatic 95, 3) := by decide +kernel
theorem dX4_take_31 : decode cX4_take 31 = .ok (.putfield 44, 3) := by decide +kernel
theorem dX4_take_34 : decode cX4_take 34 = .ok (.return_, 1) := by decide +kernel
theorem dX4_giveBack_0 : decode cX4_giveBack 0 = .ok (.aload_n 0, 1) := by decide +kernel
theorem dX4_giveBack_1 : decode cX4_giveBack 1 = .ok (.getfield 27, 3) := by decide +kernel
theorem dX4_giveBack_4 : decode cX4_giveBack 4 = .ok (.iload_n 1, 1) := by decide +kernel
theorem dX4_giveBack_5 : decode cX4_giveBack 5 = .ok (.iload_n 2, 1) := by decide +kernel
theorem dX4_giveBack_6 : decode cX4_giveBack 6 = .ok (.iastore, 1) := by decide +kernel
theorem dX4_giveBack_7 : decode cX4_giveBack 7 = .ok (.aload_n 0, 1) := by decide +kernel
theorem dX4_giveBack_8 : decode cX4_giveBack 8 = .ok (.iload_n 3, 1) := by decide +kernel
theorem dX4_giveBack_9 : decode cX4_giveBack 9 = .ok (.putfield 44, 3) := by decide +kernel
theorem dX4_giveBack_12 : decode cX4_giveBack 12 = .ok (.return_, 1) := by decide +kernel
theorem dX4_looksLike_0 : decode cX4_looksLike 0 = .ok (.aload_n 0, 1) := by decide +kernel
theorem dX4_looksLike_1 : decode cX4_looksLike 1 = .ok (.getfield 38, 3) := by decide +kernel
theorem dX4_looksLike_4 : decode cX4_looksLike 4 = .ok (.aload_n 1, 1) := by decide +kernel
theorem dX4_looksLike_5 : decode cX4_looksLike 5 = .ok (.getfield 38, 3) := by decide +kernel
theorem dX4_looksLike_8 : decode cX4_looksLike 8 = .ok (.if_icmp .ne 20, 3) := by decide +kernel
theorem dX4_looksLike_11 : decode cX4_looksLike 11 = .ok (.aload_n 0, 1) := by decide +kernel
theorem dX4_looksLike_12 : decode cX4_looksLike 12 = .ok (.getfield 47, 3) := by decide +kernel
theorem dX4_looksLike_15 : decode cX4_looksLike 15 = .ok (.bipush 8, 2) := by decide +kernel
theorem dX4_looksLike_17 : decode cX4_looksLike 17 = .ok (.irem, 1) := by decide +kernel
theorem dX4_looksLike_18 : decode cX4_looksLike 18 = .ok (.aload_n 1, 1) := by decide +kernel
theorem dX4_looksLike_19 : decode cX4_looksLike 19 = .ok (.getfield 47, 3) := by decide +kernel
theorem dX4_looksLike_22 : decode cX4_looksLike 22 = .ok (.bipush 8, 2) := by decide +kernel
theorem dX4_looksLike_24 : decode cX4_looksLike 24 = .ok (.irem, 1) := by decide +kernel
theorem dX4_looksLike_25 : decode cX4_looksLike 25 = .ok (.if_icmp .eq 5, 3) := by decide +kernel
theorem dX4_looksLike_28 : decode cX4_looksLike 28 = .ok (.iconst 0, 1) := by decide +kernel
theorem dX4_looksLike_29 : decode cX4_looksLike 29 = .ok (.ireturn, 1) := by decide +kernel
theorem dX4_looksLike_30 : decode cX4_looksLike 30 = .ok (.iconst 0, 1) := by decide +kernel
theorem dX4_looksLike_31 : decode cX4_looksLike 31 = .ok (.istore_n 2, 1) := by decide +kernel
theorem dX4_looksLike_32 : decode cX4_looksLike 32 = .ok (.iload_n 2, 1) := by decide +kernel
theorem dX4_looksLike_33 : decode cX4_looksLike 33 = .ok (.aload_n 0, 1) := by decide +kernel
theorem dX4_looksLike_34 : decode cX4_looksLike 34 = .ok (.getfield 50, 3) := by decide +kernel
theorem dX4_looksLike_37 : decode cX4_looksLike 37 = .ok (.if_icmp .ge 26, 3) := by decide +kernel
theorem dX4_looksLike_40 : decode cX4_looksLike 40 = .ok (.aload_n 0, 1) := by decide +kernel
theorem dX4_looksLike_41 : decode cX4_looksLike 41 = .ok (.getfield 27, 3) := by decide +kernel
theorem dX4_looksLike_44 : decode cX4_looksLike 44 = .ok (.iload_n 2, 1) := by decide +kernel
theorem dX4_looksLike_45 : decode cX4_looksLike 45 = .ok (.iaload, 1) := by decide +kernel
theorem dX4_looksLike_46 : decode cX4_looksLike 46 = .ok (.aload_n 1, 1) := by decide +kernel
theorem dX4_looksLike_47 : decode cX4_looksLike 47 = .ok (.getfield 27, 3) := by decide +kernel
theorem dX4_looksLike_50 : decode cX4_looksLike 50 = .ok (.iload_n 2, 1) := by decide +kernel
theorem dX4_looksLike_51 : decode cX4_looksLike 51 = .ok (.iaload, 1) := by decide +kernel
theorem dX4_looksLike_52 : decode cX4_looksLike 52 = .ok (.if_icmp .eq 5, 3) := by decide +kernel
theorem dX4_looksLike_55 : decode cX4_looksLike 55 = .ok (.iconst 0, 1) := by decide +kernel
theorem dX4_looksLike_56 : decode cX4_looksLike 56 = .ok (.ireturn, 1) := by decide +kernel
theorem dX4_looksLike_57 : decode cX4_looksLike 57 = .ok (.iinc 2 1, 3) := by decide +kernel
theorem dX4_looksLike_60 : decode cX4_looksLike 60 = .ok (.goto (-28), 3) := by decide +kernel
theorem dX4_looksLike_63 : decode cX4_looksLike 63 = .ok (.iconst 1, 1) := by decide +kernel
theorem dX4_looksLike_64 : decode cX4_looksLike 64 = .ok (.ireturn, 1) := by decide +kernel
theorem dX4_mixInto_0 : decode cX4_mixInto 0 = .ok (.lload_n 1, 1) := by decide +kernel
theorem dX4_mixInto_1 : decode cX4_mixInto 1 = .ok (.lstore_n 3, 1) := by decide +kernel
theorem dX4_mixInto_2 : decode cX4_mixInto 2 = .ok (.iconst 0, 1) := by decide +kernel
theorem dX4_mixInto_3 : decode cX4_mixInto 3 = .ok (.istore 5, 2) := by decide +kernel
theorem dX4_mixInto_5 : decode cX4_mixInto 5 = .ok (.iload 5, 2) := by decide +kernel
theorem dX4_mixInto_7 : decode cX4_mixInto 7 = .ok (.aload_n 0, 1) := by decide +kernel
theorem dX4_mixInto_8 : decode cX4_mixInto 8 = .ok (.getfield 34, 3) := by decide +kernel
theorem dX4_mixInto_11 : decode cX4_mixInto 11 = .ok (.if_icmp .ge 39, 3) := by decide +kernel
theorem dX4_mixInto_14 : decode cX4_mixInto 14 = .ok (.ldc2_w 101, 3) := by decide +kernel
theorem dX4_mixInto_17 : decode cX4_mixInto 17 = .ok (.lload_n 3, 1) := by decide +kernel
theorem dX4_mixInto_18 : decode cX4_mixInto 18 = .ok (.lmul, 1) := by decide +kernel
theorem dX4_mixInto_19 : decode cX4_mixInto 19 = .ok (.aload_n 0, 1) := by decide +kernel
theorem dX4_mixInto_20 : decode cX4_mixInto 20 = .ok (.getfield 9, 3) := by decide +kernel
theorem dX4_mixInto_23 : decode cX4_mixInto 23 = .ok (.iload 5, 2) := by decide +kernel
theorem dX4_mixInto_25 : decode cX4_mixInto 25 = .ok (.iaload, 1) := by decide +kernel
theorem dX4_mixInto_26 : decode cX4_mixInto 26 = .ok (.i2l, 1) := by decide +kernel
theorem dX4_mixInto_27 : decode cX4_mixInto 27 = .ok (.ladd, 1) := by decide +kernel
theorem dX4_mixInto_28 : decode cX4_mixInto 28 = .ok (.lstore_n 3, 1) := by decide +kernel
theorem dX4_mixInto_29 : decode cX4_mixInto 29 = .ok (.ldc2_w 101, 3) := by decide +kernel
theorem dX4_mixInto_32 : decode cX4_mixInto 32 = .ok (.lload_n 3, 1) := by decide +kernel
theorem dX4_mixInto_33 : decode cX4_mixInto 33 = .ok (.lmul, 1) := by decide +kernel
theorem dX4_mixInto_34 : decode cX4_mixInto 34 = .ok (.aload_n 0, 1) := by decide +kernel
theorem dX4_mixInto_35 : decode cX4_mixInto 35 = .ok (.getfield 15, 3) := by decide +kernel
theorem dX4_mixInto_38 : decode cX4_mixInto 38 = .ok (.iload 5, 2) := by decide +kernel
theorem dX4_mixInto_40 : decode cX4_mixInto 40 = .ok (.iaload, 1) := by decide +kernel
theorem dX4_mixInto_41 : decode cX4_mixInto 41 = .ok (.i2l, 1) := by decide +kernel
theorem dX4_mixInto_42 : decode cX4_mixInto 42 = .ok (.ladd, 1) := by decide +kernel
theorem dX4_mixInto_43 : decode cX4_mixInto 43 = .ok (.lstore_n 3, 1) := by decide +kernel
theorem dX4_mixInto_44 : decode cX4_mixInto 44 = .ok (.iinc 5 1, 3) := by decide +kernel
theorem dX4_mixInto_47 : decode cX4_mixInto 47 = .ok (.goto (-42), 3) := by decide +kernel
theorem dX4_mixInto_50 : decode cX4_mixInto 50 = .ok (.iconst 0, 1) := by decide +kernel
theorem dX4_mixInto_51 : decode cX4_mixInto 51 = .ok (.istore 5, 2) := by decide +kernel
theorem dX4_mixInto_53 : decode cX4_mixInto 53 = .ok (.iload 5, 2) := by decide +kernel
theorem dX4_mixInto_55 : decode cX4_mixInto 55 = .ok (.aload_n 0, 1) := by decide +kernel
theorem dX4_mixInto_56 : decode cX4_mixInto 56 = .ok (.getfield 50, 3) := by decide +kernel
theorem dX4_mixInto_59 : decode cX4_mixInto 59 = .ok (.if_icmp .ge 69, 3) := by decide +kernel
theorem dX4_mixInto_62 : decode cX4_mixInto 62 = .ok (.ldc2_w 101, 3) := by decide +kernel
theorem dX4_mixInto_65 : decode cX4_mixInto 65 = .ok (.lload_n 3, 1) := by decide +kernel
theorem dX4_mixInto_66 : decode cX4_mixInto 66 = .ok (.lmul, 1) := by decide +kernel
theorem dX4_mixInto_67 : decode cX4_mixInto 67 = .ok (.aload_n 0, 1) := by decide +kernel
theorem dX4_mixInto_68 : decode cX4_mixInto 68 = .ok (.getfield 18, 3) := by decide +kernel
theorem dX4_mixInto_71 : decode cX4_mixInto 71 = .ok (.iload 5, 2) := by decide +kernel
theorem dX4_mixInto_73 : decode cX4_mixInto 73 = .ok (.iaload, 1) := by decide +kernel
theorem dX4_mixInto_74 : decode cX4_mixInto 74 = .ok (.i2l, 1) := by decide +kernel
theorem dX4_mixInto_75 : decode cX4_mixInto 75 = .ok (.ladd, 1) := by decide +kernel
theorem dX4_mixInto_76 : decode cX4_mixInto 76 = .ok (.lstore_n 3, 1) := by decide +kernel
theorem dX4_mixInto_77 : decode cX4_mixInto 77 = .ok (.ldc2_w 101, 3) := by decide +kernel
theorem dX4_mixInto_80 : decode cX4_mixInto 80 = .ok (.lload_n 3, 1) := by decide +kernel
theorem dX4_mixInto_81 : decode cX4_mixInto 81 = .ok (.lmul, 1) := by decide +kernel
theorem dX4_mixInto_82 : decode cX4_mixInto 82 = .ok (.aload_n 0, 1) := by decide +kernel
theorem dX4_mixInto_83 : decode cX4_mixInto 83 = .ok (.getfield 21, 3) := by decide +kernel
theorem dX4_mixInto_86 : decode cX4_mixInto 86 = .ok (.iload 5, 2) := by decide +kernel
theorem dX4_mixInto_88 : decode cX4_mixInto 88 = .ok (.iaload, 1) := by decide +kernel
theorem dX4_mixInto_89 : decode cX4_mixInto 89 = .ok (.i2l, 1) := by decide +kernel
theorem dX4_mixInto_90 : decode cX4_mixInto 90 = .ok (.ladd, 1) := by decide +kernel
theorem dX4_mixInto_91 : decode cX4_mixInto 91 = .ok (.lstore_n 3, 1) := by decide +kernel
theorem dX4_mixInto_92 : decode cX4_mixInto 92 = .ok (.ldc2_w 101, 3) := by decide +kernel
theorem dX4_mixInto_95 : decode cX4_mixInto 95 = .ok (.lload_n 3, 1) := by decide +kernel
theorem dX4_mixInto_96 : decode cX4_mixInto 96 = .ok (.lmul, 1) := by decide +kernel
theorem dX4_mixInto_97 : decode cX4_mixInto 97 = .ok (.aload_n 0, 1) := by decide +kernel
theorem dX4_mixInto_98 : decode cX4_mixInto 98 = .ok (.getfield 24, 3) := by decide +kernel
theorem dX4_mixInto_101 : decode cX4_mixInto 101 = .ok (.iload 5, 2) := by decide +kernel
theorem dX4_mixInto_103 : decode cX4_mixInto 103 = .ok (.iaload, 1) := by decide +kernel
theorem dX4_mixInto_104 : decode cX4_mixInto 104 = .ok (.i2l, 1) := by decide +kernel
theorem dX4_mixInto_105 : decode cX4_mixInto 105 = .ok (.ladd, 1) := by decide +kernel
theorem dX4_mixInto_106 : decode cX4_mixInto 106 = .ok (.lstore_n 3, 1) := by decide +kernel
theorem dX4_mixInto_107 : decode cX4_mixInto 107 = .ok (.ldc2_w 101, 3) := by decide +kernel
theorem dX4_mixInto_110 : decode cX4_mixInto 110 = .ok (.lload_n 3, 1) := by decide +kernel
theorem dX4_mixInto_111 : decode cX4_mixInto 111 = .ok (.lmul, 1) := by decide +kernel
theorem dX4_mixInto_112 : decode cX4_mixInto 112 = .ok (.aload_n 0, 1) := by decide +kernel
theorem dX4_mixInto_113 : decode cX4_mixInto 113 = .ok (.getfield 27, 3) := by decide +kernel
theorem dX4_mixInto_116 : decode cX4_mixInto 116 = .ok (.iload 5, 2) := by decide +kernel
theorem dX4_mixInto_118 : decode cX4_mixInto 118 = .ok (.iaload, 1) := by decide +kernel
theorem dX4_mixInto_119 : decode cX4_mixInto 119 = .ok (.i2l, 1) := by decide +kernel
theorem dX4_mixInto_120 : decode cX4_mixInto 120 = .ok (.ladd, 1) := by decide +kernel
theorem dX4_mixInto_121 : decode cX4_mixInto 121 = .ok (.lstore_n 3, 1) := by decide +kernel
theorem dX4_mixInto_122 : decode cX4_mixInto 122 = .ok (.iinc 5 1, 3) := by decide +kernel
theorem dX4_mixInto_125 : decode cX4_mixInto 125 = .ok (.goto (-72), 3) := by decide +kernel
theorem dX4_mixInto_128 : decode cX4_mixInto 128 = .ok (.lload_n 3, 1) := by decide +kernel
theorem dX4_mixInto_129 : decode cX4_mixInto 129 = .ok (.lreturn, 1) := by decide +kernel
theorem dX5_init_0 : decode cX5_init 0 = .ok (.aload_n 0, 1) := by decide +kernel
theorem dX5_init_1 : decode cX5_init 1 = .ok (.invokespecial 3, 3) := by decide +kernel
theorem dX5_init_4 : decode cX5_init 4 = .ok (.aload_n 0, 1) := by decide +kernel
theorem dX5_init_5 : decode cX5_init 5 = .ok (.iload_n 1, 1) := by decide +kernel
theorem dX5_init_6 : decode cX5_init 6 = .ok (.putfield 9, 3) := by decide +kernel
theorem dX5_init_9 : decode cX5_init 9 = .ok (.aload_n 0, 1) := by decide +kernel
theorem dX5_init_10 : decode cX5_init 10 = .ok (.iload_n 2, 1) := by decide +kernel
theorem dX5_init_11 : decode cX5_init 11 = .ok (.putfield 15, 3) := by decide +kernel
theorem dX5_init_14 : decode cX5_init 14 = .ok (.aload_n 0, 1) := by decide +kernel
theorem dX5_init_15 : decode cX5_init 15 = .ok (.bipush 30, 2) := by decide +kernel
theorem dX5_init_17 : decode cX5_init 17 = .ok (.newarray .int, 2) := by decide +kernel
theorem dX5_init_19 : decode cX5_init 19 = .ok (.putfield 18, 3) := by decide +kernel
theorem dX5_init_22 : decode cX5_init 22 = .ok (.return_, 1) := by decide +kernel
theorem dX5_isFull_0 : decode cX5_isFull 0 = .ok (.aload_n 0, 1) := by decide +kernel
theorem dX5_isFull_1 : decode cX5_isFull 1 = .ok (.getfield 22, 3) := by decide +kernel
theorem dX5_isFull_4 : decode cX5_isFull 4 = .ok (.aload_n 0, 1) := by decide +kernel
theorem dX5_isFull_5 : decode cX5_isFull 5 = .ok (.getfield 15, 3) := by decide +kernel
theorem dX5_isFull_8 : decode cX5_isFull 8 = .ok (.if_icmp .lt 7, 3) := by decide +kernel
theorem dX5_isFull_11 : decode cX5_isFull 11 = .ok (.iconst 1, 1) := by decide +kernel
theorem dX5_isFull_12 : decode cX5_isFull 12 = .ok (.goto 4, 3) := by decide +kernel
theorem dX5_isFull_15 : decode cX5_isFull 15 = .ok (.iconst 0, 1) := by decide +kernel
theorem dX5_isFull_16 : decode cX5_isFull 16 = .ok (.ireturn, 1) := by decide +kernel
theorem dX5_add_0 : decode cX5_add 0 = .ok (.aload_n 0, 1) := by decide +kernel
theorem dX5_add_1 : decode cX5_add 1 = .ok (.getfield 22, 3) := by decide +kernel
theorem dX5_add_4 : decode cX5_add 4 = .ok (.aload_n 0, 1) := by decide +kernel
theorem dX5_add_5 : decode cX5_add 5 = .ok (.getfield 15, 3) := by decide +kernel
theorem dX5_add_8 : decode cX5_add 8 = .ok (.if_icmp .ge 71, 3) := by decide +kernel
theorem dX5_add_11 : decode cX5_add 11 = .ok (.aload_n 0, 1) := by decide +kernel
theorem dX5_add_12 : decode cX5_add 12 = .ok (.getfield 22, 3) := by decide +kernel
theorem dX5_add_15 : decode cX5_add 15 = .ok (.iconst 5, 1) := by decide +kernel
theorem dX5_add_16 : decode cX5_add 16 = .ok (.imul, 1) := by decide +kernel
theorem dX5_add_17 : decode cX5_add 17 = .ok (.istore 6, 2) := by decide +kernel
theorem dX5_add_19 : decode cX5_add 19 = .ok (.aload_n 0, 1) := by decide +kernel
theorem dX5_add_20 : decode cX5_add 20 = .ok (.getfield 18, 3) := by decide +kernel
theorem dX5_add_23 : decode cX5_add 23 = .ok (.iload 6, 2) := by decide +kernel
theorem dX5_add_25 : decode cX5_add 25 = .ok (.iload_n 1, 1) := by decide +kernel
theorem dX5_add_26 : decode cX5_add 26 = .ok (.iastore, 1) := by decide +kernel
theorem dX5_add_27 : decode cX5_add 27 = .ok (.aload_n 0, 1) := by decide +kernel
theorem dX5_add_28 : decode cX5_add 28 = .ok (.getfield 18, 3) := by decide +kernel
theorem dX5_add_31 : decode cX5_add 31 = .ok (.iload 6, 2) := by decide +kernel
theorem dX5_add_33 : decode cX5_add 33 = .ok (.iconst 1, 1) := by decide +kernel
theorem dX5_add_34 : decode cX5_add 34 = .ok (.iadd, 1) := by decide +kernel
theorem dX5_add_35 : decode cX5_add 35 = .ok (.iload_n 2, 1) := by decide +kernel
theorem dX5_add_36 : decode cX5_add 36 = .ok (.iastore, 1) := by decide +kernel
theorem dX5_add_37 : decode cX5_add 37 = .ok (.aload_n 0, 1) := by decide +kernel
theorem dX5_add_38 : decode cX5_add 38 = .ok (.getfield 18, 3) := by decide +kernel
theorem dX5_add_41 : decode cX5_add 41 = .ok (.iload 6, 2) := by decide +kernel
theorem dX5_add_43 : decode cX5_add 43 = .ok (.iconst 2, 1) := by decide +kernel
theorem dX5_add_44 : decode cX5_add 44 = .ok (.iadd, 1) := by decide +kernel
theorem dX5_add_45 : decode cX5_add 45 = .ok (.iload_n 3, 1) := by decide +kernel
theorem dX5_add_46 : decode cX5_add 46 = .ok (.iastore, 1) := by decide +kernel
theorem dX5_add_47 : decode cX5_add 47 = .ok (.aload_n 0, 1) := by decide +kernel
theorem dX5_add_48 : decode cX5_add 48 = .ok (.getfield 18, 3) := by decide +kernel
theorem dX5_add_51 : decode cX5_add 51 = .ok (.iload 6, 2) := by decide +kernel
theorem dX5_add_53 : decode cX5_add 53 = .ok (.iconst 3, 1) := by decide +kernel
theorem dX5_add_54 : decode cX5_add 54 = .ok (.iadd, 1) := by decide +kernel
theorem dX5_add_55 : decode cX5_add 55 = .ok (.iload 4, 2) := by decide +kernel
theorem dX5_add_57 : decode cX5_add 57 = .ok (.iastore, 1) := by decide +kernel
theorem dX5_add_58 : decode cX5_add 58 = .ok (.aload_n 0, 1) := by decide +kernel
theorem dX5_add_59 : decode cX5_add 59 = .ok (.getfield 18, 3) := by decide +kernel
theorem dX5_add_62 : decode cX5_add 62 = .ok (.iload 6, 2) := by decide +kernel
theorem dX5_add_64 : decode cX5_add 64 = .ok (.iconst 4, 1) := by decide +kernel
theorem dX5_add_65 : decode cX5_add 65 = .ok (.iadd, 1) := by decide +kernel
theorem dX5_add_66 : decode cX5_add 66 = .ok (.iload 5, 2) := by decide +kernel
theorem dX5_add_68 : decode cX5_add 68 = .ok (.iastore, 1) := by decide +kernel
theorem dX5_add_69 : decode cX5_add 69 = .ok (.aload_n 0, 1) := by decide +kernel
theorem dX5_add_70 : decode cX5_add 70 = .ok (.dup, 1) := by decide +kernel
theorem dX5_add_71 : decode cX5_add 71 = .ok (.getfield 22, 3) := by decide +kernel
theorem dX5_add_74 : decode cX5_add 74 = .ok (.iconst 1, 1) := by decide +kernel
theorem dX5_add_75 : decode cX5_add 75 = .ok (.iadd, 1) := by decide +kernel
theorem dX5_add_76 : decode cX5_add 76 = .ok (.putfield 22, 3) := by decide +kernel
theorem dX5_add_79 : decode cX5_add 79 = .ok (.return_, 1) := by decide +kernel
theorem dX5_at_0 : decode cX5_at 0 = .ok (.aload_n 0, 1) := by decide +kernel
theorem dX5_at_1 : decode cX5_at 1 = .ok (.getfield 18, 3) := by decide +kernel
theorem dX5_at_4 : decode cX5_at 4 = .ok (.iload_n 1, 1) := by decide +kernel
theorem dX5_at_5 : decode cX5_at 5 = .ok (.iconst 5, 1) := by decide +kernel
theorem dX5_at_6 : decode cX5_at 6 = .ok (.imul, 1) := by decide +kernel
theorem dX5_at_7 : decode cX5_at 7 = .ok (.iload_n 2, 1) := by decide +kernel
theorem dX5_at_8 : decode cX5_at 8 = .ok (.iadd, 1) := by decide +kernel
theorem dX5_at_9 : decode cX5_at 9 = .ok (.iaload, 1) := by decide +kernel
theorem dX5_at_10 : decode cX5_at 10 = .ok (.ireturn, 1) := by decide +kernel
theorem dX5_drop_0 : decode cX5_drop 0 = .ok (.aload_n 0, 1) := by decide +kernel
theorem dX5_drop_1 : decode cX5_drop 1 = .ok (.getfield 22, 3) := by decide +kernel
theorem dX5_drop_4 : decode cX5_drop 4 = .ok (.istore_n 1, 1) := by decide +kernel
theorem dX5_drop_5 : decode cX5_drop 5 = .ok (.aload_n 0, 1) := by decide +kernel
theorem dX5_drop_6 : decode cX5_drop 6 = .ok (.iconst 0, 1) := by decide +kernel
theorem dX5_drop_7 : decode cX5_drop 7 = .ok (.putfield 22, 3) := by decide +kernel
theorem dX5_drop_10 : decode cX5_drop 10 = .ok (.iload_n 1, 1) := by decide +kernel
theorem dX5_drop_11 : decode cX5_drop 11 = .ok (.ireturn, 1) := by decide +kernel
theorem dX5_copyOf_0 : decode cX5_copyOf 0 = .ok (.aload_n 0, 1) := by decide +kernel
theorem dX5_copyOf_1 : decode cX5_copyOf 1 = .ok (.aload_n 1, 1) := by decide +kernel
theorem dX5_copyOf_2 : decode cX5_copyOf 2 = .ok (.getfield 22, 3) := by decide +kernel
theorem dX5_copyOf_5 : decode cX5_copyOf 5 = .ok (.putfield 22, 3) := by decide +kernel
theorem dX5_copyOf_8 : decode cX5_copyOf 8 = .ok (.aload_n 1, 1) := by decide +kernel
theorem dX5_copyOf_9 : decode cX5_copyOf 9 = .ok (.getfield 18, 3) := by decide +kernel
theorem dX5_copyOf_12 : decode cX5_copyOf 12 = .ok (.iconst 0, 1) := by decide +kernel
theorem dX5_copyOf_13 : decode cX5_copyOf 13 = .ok (.aload_n 0, 1) := by decide +kernel
theorem dX5_copyOf_14 : decode cX5_copyOf 14 = .ok (.getfield 18, 3) := by decide +kernel
theorem dX5_copyOf_17 : decode cX5_copyOf 17 = .ok (.iconst 0, 1) := by decide +kernel
theorem dX5_copyOf_18 : decode cX5_copyOf 18 = .ok (.bipush 30, 2) := by decide +kernel
theorem dX5_copyOf_20 : decode cX5_copyOf 20 = .ok (.invokestatic 25, 3) := by decide +kernel
theorem dX5_copyOf_23 : decode cX5_copyOf 23 = .ok (.return_, 1) := by decide +kernel
theorem dX5_mixInto_0 : decode cX5_mixInto 0 = .ok (.lload_n 1, 1) := by decide +kernel
theorem dX5_mixInto_1 : decode cX5_mixInto 1 = .ok (.lstore_n 3, 1) := by decide +kernel
theorem dX5_mixInto_2 : decode cX5_mixInto 2 = .ok (.iconst 0, 1) := by decide +kernel
theorem dX5_mixInto_3 : decode cX5_mixInto 3 = .ok (.istore 5, 2) := by decide +kernel
theorem dX5_mixInto_5 : decode cX5_mixInto 5 = .ok (.iload 5, 2) := by decide +kernel
theorem dX5_mixInto_7 : decode cX5_mixInto 7 = .ok (.aload_n 0, 1) := by decide +kernel
theorem dX5_mixInto_8 : decode cX5_mixInto 8 = .ok (.getfield 22, 3) := by decide +kernel
theorem dX5_mixInto_11 : decode cX5_mixInto 11 = .ok (.if_icmp .ge 43, 3) := by decide +kernel
theorem dX5_mixInto_14 : decode cX5_mixInto 14 = .ok (.iconst 0, 1) := by decide +kernel
theorem dX5_mixInto_15 : decode cX5_mixInto 15 = .ok (.istore 6, 2) := by decide +kernel
theorem dX5_mixInto_17 : decode cX5_mixInto 17 = .ok (.iload 6, 2) := by decide +kernel
theorem dX5_mixInto_19 : decode cX5_mixInto 19 = .ok (.aload_n 0, 1) := by decide +kernel
theorem dX5_mixInto_20 : decode cX5_mixInto 20 = .ok (.getfield 9, 3) := by decide +kernel
theorem dX5_mixInto_23 : decode cX5_mixInto 23 = .ok (.if_icmp .ge 25, 3) := by decide +kernel
theorem dX5_mixInto_26 : decode cX5_mixInto 26 = .ok (.ldc2_w 31, 3) := by decide +kernel
theorem dX5_mixInto_29 : decode cX5_mixInto 29 = .ok (.lload_n 3, 1) := by decide +kernel
theorem dX5_mixInto_30 : decode cX5_mixInto 30 = .ok (.lmul, 1) := by decide +kernel
theorem dX5_mixInto_31 : decode cX5_mixInto 31 = .ok (.aload_n 0, 1) := by decide +kernel
theorem dX5_mixInto_32 : decode cX5_mixInto 32 = .ok (.iload 5, 2) := by decide +kernel
theorem dX5_mixInto_34 : decode cX5_mixInto 34 = .ok (.iload 6, 2) := by decide +kernel
theorem dX5_mixInto_36 : decode cX5_mixInto 36 = .ok (.invokevirtual 33, 3) := by decide +kernel
theorem dX5_mixInto_39 : decode cX5_mixInto 39 = .ok (.i2l, 1) := by decide +kernel
theorem dX5_mixInto_40 : decode cX5_mixInto 40 = .ok (.ladd, 1) := by decide +kernel
theorem dX5_mixInto_41 : decode cX5_mixInto 41 = .ok (.lstore_n 3, 1) := by decide +kernel
theorem dX5_mixInto_42 : decode cX5_mixInto 42 = .ok (.iinc 6 1, 3) := by decide +kernel
theorem dX5_mixInto_45 : decode cX5_mixInto 45 = .ok (.goto (-28), 3) := by decide +kernel
theorem dX5_mixInto_48 : decode cX5_mixInto 48 = .ok (.iinc 5 1, 3) := by decide +kernel
theorem dX5_mixInto_51 : decode cX5_mixInto 51 = .ok (.goto (-46), 3) := by decide +kernel
theorem dX5_mixInto_54 : decode cX5_mixInto 54 = .ok (.lload_n 3, 1) := by decide +kernel
theorem dX5_mixInto_55 : decode cX5_mixInto 55 = .ok (.lreturn, 1) := by decide +kernel
