theorem dX8_thoseThatFit_0 : decode cX8_thoseThatFit 0 = .ok (.iconst 0, 1) := by decide +kernel
theorem dX8_thoseThatFit_1 : decode cX8_thoseThatFit 1 = .ok (.istore_n 3, 1) := by decide +kernel
theorem dX8_thoseThatFit_2 : decode cX8_thoseThatFit 2 = .ok (.iconst 0, 1) := by decide +kernel
theorem dX8_thoseThatFit_3 : decode cX8_thoseThatFit 3 = .ok (.istore 4, 2) := by decide +kernel
theorem dX8_thoseThatFit_5 : decode cX8_thoseThatFit 5 = .ok (.iload 4, 2) := by decide +kernel
theorem dX8_thoseThatFit_7 : decode cX8_thoseThatFit 7 = .ok (.iload_n 1, 1) := by decide +kernel
theorem dX8_thoseThatFit_8 : decode cX8_thoseThatFit 8 = .ok (.invokestatic 287, 3) := by decide +kernel
theorem dX8_thoseThatFit_11 : decode cX8_thoseThatFit 11 = .ok (.if_icmp .ge 27, 3) := by decide +kernel
theorem dX8_thoseThatFit_14 : decode cX8_thoseThatFit 14 = .ok (.aload_n 0, 1) := by decide +kernel
theorem dX8_thoseThatFit_15 : decode cX8_thoseThatFit 15 = .ok (.iload_n 1, 1) := by decide +kernel
theorem dX8_thoseThatFit_16 : decode cX8_thoseThatFit 16 = .ok (.iload_n 2, 1) := by decide +kernel
theorem dX8_thoseThatFit_17 : decode cX8_thoseThatFit 17 = .ok (.iload 4, 2) := by decide +kernel
theorem dX8_thoseThatFit_19 : decode cX8_thoseThatFit 19 = .ok (.invokevirtual 290, 3) := by decide +kernel
theorem dX8_thoseThatFit_22 : decode cX8_thoseThatFit 22 = .ok (.ifCond .eq 10, 3) := by decide +kernel
theorem dX8_thoseThatFit_25 : decode cX8_thoseThatFit 25 = .ok (.iload_n 3, 1) := by decide +kernel
theorem dX8_thoseThatFit_26 : decode cX8_thoseThatFit 26 = .ok (.iconst 1, 1) := by decide +kernel
theorem dX8_thoseThatFit_27 : decode cX8_thoseThatFit 27 = .ok (.iload 4, 2) := by decide +kernel
theorem dX8_thoseThatFit_29 : decode cX8_thoseThatFit 29 = .ok (.ishl, 1) := by decide +kernel
theorem dX8_thoseThatFit_30 : decode cX8_thoseThatFit 30 = .ok (.ior, 1) := by decide +kernel
theorem dX8_thoseThatFit_31 : decode cX8_thoseThatFit 31 = .ok (.istore_n 3, 1) := by decide +kernel
theorem dX8_thoseThatFit_32 : decode cX8_thoseThatFit 32 = .ok (.iinc 4 1, 3) := by decide +kernel
theorem dX8_thoseThatFit_35 : decode cX8_thoseThatFit 35 = .ok (.goto (-30), 3) := by decide +kernel
theorem dX8_thoseThatFit_38 : decode cX8_thoseThatFit 38 = .ok (.iload_n 3, 1) := by decide +kernel
theorem dX8_thoseThatFit_39 : decode cX8_thoseThatFit 39 = .ok (.ireturn, 1) := by decide +kernel
theorem dX8_howManyGuessed_0 : decode cX8_howManyGuessed 0 = .ok (.iload_n 0, 1) := by decide +kernel
theorem dX8_howManyGuessed_1 : decode cX8_howManyGuessed 1 = .ok (.ifCond .ne 8, 3) := by decide +kernel
theorem dX8_howManyGuessed_4 : decode cX8_howManyGuessed 4 = .ok (.bipush 8, 2) := by decide +kernel
theorem dX8_howManyGuessed_6 : decode cX8_howManyGuessed 6 = .ok (.goto 5, 3) := by decide +kernel
theorem dX8_howManyGuessed_9 : decode cX8_howManyGuessed 9 = .ok (.bipush 6, 2) := by decide +kernel
theorem dX8_howManyGuessed_11 : decode cX8_howManyGuessed 11 = .ok (.ireturn, 1) := by decide +kernel
theorem dX8_allFits_0 : decode cX8_allFits 0 = .ok (.iload_n 1, 1) := by decide +kernel
theorem dX8_allFits_1 : decode cX8_allFits 1 = .ok (.ifCond .ne 13, 3) := by decide +kernel
theorem dX8_allFits_4 : decode cX8_allFits 4 = .ok (.aload_n 0, 1) := by decide +kernel
theorem dX8_allFits_5 : decode cX8_allFits 5 = .ok (.getfield 10, 3) := by decide +kernel
theorem dX8_allFits_8 : decode cX8_allFits 8 = .ok (.getfield 196, 3) := by decide +kernel
theorem dX8_allFits_11 : decode cX8_allFits 11 = .ok (.goto 25, 3) := by decide +kernel
theorem dX8_allFits_14 : decode cX8_allFits 14 = .ok (.iload_n 1, 1) := by decide +kernel
theorem dX8_allFits_15 : decode cX8_allFits 15 = .ok (.iconst 1, 1) := by decide +kernel
theorem dX8_allFits_16 : decode cX8_allFits 16 = .ok (.if_icmp .ne 13, 3) := by decide +kernel
theorem dX8_allFits_19 : decode cX8_allFits 19 = .ok (.aload_n 0, 1) := by decide +kernel
theorem dX8_allFits_20 : decode cX8_allFits 20 = .ok (.getfield 10, 3) := by decide +kernel
theorem dX8_allFits_23 : decode cX8_allFits 23 = .ok (.getfield 217, 3) := by decide +kernel
theorem dX8_allFits_26 : decode cX8_allFits 26 = .ok (.goto 10, 3) := by decide +kernel
theorem dX8_allFits_29 : decode cX8_allFits 29 = .ok (.aload_n 0, 1) := by decide +kernel
theorem dX8_allFits_30 : decode cX8_allFits 30 = .ok (.getfield 10, 3) := by decide +kernel
theorem dX8_allFits_33 : decode cX8_allFits 33 = .ok (.getfield 220, 3) := by decide +kernel
theorem dX8_allFits_36 : decode cX8_allFits 36 = .ok (.astore 4, 2) := by decide +kernel
theorem dX8_allFits_38 : decode cX8_allFits 38 = .ok (.iconst 0, 1) := by decide +kernel
theorem dX8_allFits_39 : decode cX8_allFits 39 = .ok (.istore 5, 2) := by decide +kernel
theorem dX8_allFits_41 : decode cX8_allFits 41 = .ok (.iload 5, 2) := by decide +kernel
theorem dX8_allFits_43 : decode cX8_allFits 43 = .ok (.aload 4, 2) := by decide +kernel
theorem dX8_allFits_45 : decode cX8_allFits 45 = .ok (.getfield 210, 3) := by decide +kernel
theorem dX8_allFits_48 : decode cX8_allFits 48 = .ok (.if_icmp .ge 37, 3) := by decide +kernel
theorem dX8_allFits_51 : decode cX8_allFits 51 = .ok (.aload 4, 2) := by decide +kernel
theorem dX8_allFits_53 : decode cX8_allFits 53 = .ok (.iload 5, 2) := by decide +kernel
theorem dX8_allFits_55 : decode cX8_allFits 55 = .ok (.iconst 0, 1) := by decide +kernel
theorem dX8_allFits_56 : decode cX8_allFits 56 = .ok (.invokevirtual 293, 3) := by decide +kernel
theorem dX8_allFits_59 : decode cX8_allFits 59 = .ok (.iload_n 2, 1) := by decide +kernel
theorem dX8_allFits_60 : decode cX8_allFits 60 = .ok (.if_icmp .ne 19, 3) := by decide +kernel
theorem dX8_allFits_63 : decode cX8_allFits 63 = .ok (.aload_n 0, 1) := by decide +kernel
theorem dX8_allFits_64 : decode cX8_allFits 64 = .ok (.iload_n 1, 1) := by decide +kernel
theorem dX8_allFits_65 : decode cX8_allFits 65 = .ok (.iload_n 2, 1) := by decide +kernel
theorem dX8_allFits_66 : decode cX8_allFits 66 = .ok (.aload 4, 2) := by decide +kernel
theorem dX8_allFits_68 : decode cX8_allFits 68 = .ok (.iload 5, 2) := by decide +kernel
theorem dX8_allFits_70 : decode cX8_allFits 70 = .ok (.iload_n 3, 1) := by decide +kernel
theorem dX8_allFits_71 : decode cX8_allFits 71 = .ok (.invokevirtual 296, 3) := by decide +kernel
theorem dX8_allFits_74 : decode cX8_allFits 74 = .ok (.ifCond .ne 5, 3) := by decide +kernel
theorem dX8_allFits_77 : decode cX8_allFits 77 = .ok (.iconst 0, 1) := by decide +kernel
theorem dX8_allFits_78 : decode cX8_allFits 78 = .ok (.ireturn, 1) := by decide +kernel
theorem dX8_allFits_79 : decode cX8_allFits 79 = .ok (.iinc 5 1, 3) := by decide +kernel
theorem dX8_allFits_82 : decode cX8_allFits 82 = .ok (.goto (-41), 3) := by decide +kernel
theorem dX8_allFits_85 : decode cX8_allFits 85 = .ok (.iconst 1, 1) := by decide +kernel
theorem dX8_allFits_86 : decode cX8_allFits 86 = .ok (.ireturn, 1) := by decide +kernel
theorem dX8_rowFits_0 : decode cX8_rowFits 0 = .ok (.aload_n 3, 1) := by decide +kernel
theorem dX8_rowFits_1 : decode cX8_rowFits 1 = .ok (.iload 4, 2) := by decide +kernel
theorem dX8_rowFits_3 : decode cX8_rowFits 3 = .ok (.iconst 1, 1) := by decide +kernel
theorem dX8_rowFits_4 : decode cX8_rowFits 4 = .ok (.invokevirtual 293, 3) := by decide +kernel
theorem dX8_rowFits_7 : decode cX8_rowFits 7 = .ok (.istore 6, 2) := by decide +kernel
theorem dX8_rowFits_9 : decode cX8_rowFits 9 = .ok (.aload_n 3, 1) := by decide +kernel
theorem dX8_rowFits_10 : decode cX8_rowFits 10 = .ok (.iload 4, 2) := by decide +kernel
theorem dX8_rowFits_12 : decode cX8_rowFits 12 = .ok (.iconst 2, 1) := by decide +kernel
theorem dX8_rowFits_13 : decode cX8_rowFits 13 = .ok (.invokevirtual 293, 3) := by decide +kernel
theorem dX8_rowFits_16 : decode cX8_rowFits 16 = .ok (.istore 7, 2) := by decide +kernel
theorem dX8_rowFits_18 : decode cX8_rowFits 18 = .ok (.aload_n 3, 1) := by decide +kernel
theorem dX8_rowFits_19 : decode cX8_rowFits 19 = .ok (.iload 4, 2) := by decide +kernel
theorem dX8_rowFits_21 : decode cX8_rowFits 21 = .ok (.iconst 3, 1) := by decide +kernel
theorem dX8_rowFits_22 : decode cX8_rowFits 22 = .ok (.invokevirtual 293, 3) := by decide +kernel
theorem dX8_rowFits_25 : decode cX8_rowFits 25 = .ok (.istore 8, 2) := by decide +kernel
theorem dX8_rowFits_27 : decode cX8_rowFits 27 = .ok (.iload_n 1, 1) := by decide +kernel
theorem dX8_rowFits_28 : decode cX8_rowFits 28 = .ok (.lookupswitch 87 #[(0, 28), (1, 60)], 28) := by decide +kernel
theorem dX8_rowFits_56 : decode cX8_rowFits 56 = .ok (.aload_n 0, 1) := by decide +kernel
theorem dX8_rowFits_57 : decode cX8_rowFits 57 = .ok (.getfield 10, 3) := by decide +kernel
theorem dX8_rowFits_60 : decode cX8_rowFits 60 = .ok (.getfield 66, 3) := by decide +kernel
theorem dX8_rowFits_63 : decode cX8_rowFits 63 = .ok (.getfield 84, 3) := by decide +kernel
theorem dX8_rowFits_66 : decode cX8_rowFits 66 = .ok (.iload_n 2, 1) := by decide +kernel
theorem dX8_rowFits_67 : decode cX8_rowFits 67 = .ok (.iaload, 1) := by decide +kernel
theorem dX8_rowFits_68 : decode cX8_rowFits 68 = .ok (.iload 6, 2) := by decide +kernel
theorem dX8_rowFits_70 : decode cX8_rowFits 70 = .ok (.iload 5, 2) := by decide +kernel
theorem dX8_rowFits_72 : decode cX8_rowFits 72 = .ok (.iload 7, 2) := by decide +kernel
theorem dX8_rowFits_74 : decode cX8_rowFits 74 = .ok (.invokestatic 300, 3) := by decide +kernel
theorem dX8_rowFits_77 : decode cX8_rowFits 77 = .ok (.iload 8, 2) := by decide +kernel
theorem dX8_rowFits_79 : decode cX8_rowFits 79 = .ok (.if_icmp .ne 7, 3) := by decide +kernel
theorem dX8_rowFits_82 : decode cX8_rowFits 82 = .ok (.iconst 1, 1) := by decide +kernel
theorem dX8_rowFits_83 : decode cX8_rowFits 83 = .ok (.goto 4, 3) := by decide +kernel
theorem dX8_rowFits_86 : decode cX8_rowFits 86 = .ok (.iconst 0, 1) := by decide +kernel
theorem dX8_rowFits_87 : decode cX8_rowFits 87 = .ok (.ireturn, 1) := by decide +kernel
theorem dX8_rowFits_88 : decode cX8_rowFits 88 = .ok (.iload 5, 2) := by decide +kernel
theorem dX8_rowFits_90 : decode cX8_rowFits 90 = .ok (.iload 7, 2) := by decide +kernel
theorem dX8_rowFits_92 : decode cX8_rowFits 92 = .ok (.iload 6, 2) := by decide +kernel
theorem dX8_rowFits_94 : decode cX8_rowFits 94 = .ok (.iload 8, 2) := by decide +kernel
theorem dX8_rowFits_96 : decode cX8_rowFits 96 = .ok (.invokestatic 300, 3) := by decide +kernel
theorem dX8_rowFits_99 : decode cX8_rowFits 99 = .ok (.aload_n 3, 1) := by decide +kernel
theorem dX8_rowFits_100 : decode cX8_rowFits 100 = .ok (.iload 4, 2) := by decide +kernel
theorem dX8_rowFits_102 : decode cX8_rowFits 102 = .ok (.iconst 4, 1) := by decide +kernel
theorem dX8_rowFits_103 : decode cX8_rowFits 103 = .ok (.invokevirtual 293, 3) := by decide +kernel
theorem dX8_rowFits_106 : decode cX8_rowFits 106 = .ok (.if_icmp .ne 7, 3) := by decide +kernel
theorem dX8_rowFits_109 : decode cX8_rowFits 109 = .ok (.iconst 1, 1) := by decide +kernel
theorem dX8_rowFits_110 : decode cX8_rowFits 110 = .ok (.goto 4, 3) := by decide +kernel
theorem dX8_rowFits_113 : decode cX8_rowFits 113 = .ok (.iconst 0, 1) := by decide +kernel
theorem dX8_rowFits_114 : decode cX8_rowFits 114 = .ok (.ireturn, 1) := by decide +kernel
theorem dX8_rowFits_115 : decode cX8_rowFits 115 = .ok (.iload 5, 2) := by decide +kernel
theorem dX8_rowFits_117 : decode cX8_rowFits 117 = .ok (.iload 6, 2) := by decide +kernel
theorem dX8_rowFits_119 : decode cX8_rowFits 119 = .ok (.iload 7, 2) := by decide +kernel
theorem dX8_rowFits_121 : decode cX8_rowFits 121 = .ok (.iload 8, 2) := by decide +kernel
theorem dX8_rowFits_123 : decode cX8_rowFits 123 = .ok (.invokestatic 306, 3) := by decide +kernel
theorem dX8_rowFits_126 : decode cX8_rowFits 126 = .ok (.aload_n 3, 1) := by decide +kernel
theorem dX8_rowFits_127 : decode cX8_rowFits 127 = .ok (.iload 4, 2) := by decide +kernel
theorem dX8_rowFits_129 : decode cX8_rowFits 129 = .ok (.iconst 4, 1) := by decide +kernel
theorem dX8_rowFits_130 : decode cX8_rowFits 130 = .ok (.invokevirtual 293, 3) := by decide +kernel
theorem dX8_rowFits_133 : decode cX8_rowFits 133 = .ok (.if_icmp .ne 7, 3) := by decide +kernel
theorem dX8_rowFits_136 : decode cX8_rowFits 136 = .ok (.iconst 1, 1) := by decide +kernel
theorem dX8_rowFits_137 : decode cX8_rowFits 137 = .ok (.goto 4, 3) := by decide +kernel
theorem dX8_rowFits_140 : decode cX8_rowFits 140 = .ok (.iconst 0, 1) := by decide +kernel
theorem dX8_rowFits_141 : decode cX8_rowFits 141 = .ok (.ireturn, 1) := by decide +kernel
theorem dX8_bestLook_0 : decode cX8_bestLook 0 = .ok (.aload_n 0, 1) := by decide +kernel
theorem dX8_bestLook_1 : decode cX8_bestLook 1 = .ok (.iload_n 1, 1) := by decide +kernel
theorem dX8_bestLook_2 : decode cX8_bestLook 2 = .ok (.iload_n 2, 1) := by decide +kernel
theorem dX8_bestLook_3 : decode cX8_bestLook 3 = .ok (.invokevirtual 211, 3) := by decide +kernel
theorem dX8_bestLook_6 : decode cX8_bestLook 6 = .ok (.istore_n 3, 1) := by decide +kernel
theorem dX8_bestLook_7 : decode cX8_bestLook 7 = .ok (.iload_n 3, 1) := by decide +kernel
theorem dX8_bestLook_8 : decode cX8_bestLook 8 = .ok (.ifCond .ne 5, 3) := by decide +kernel
theorem dX8_bestLook_11 : decode cX8_bestLook 11 = .ok (.iconst (-1), 1) := by decide +kernel
theorem dX8_bestLook_12 : decode cX8_bestLook 12 = .ok (.ireturn, 1) := by decide +kernel
theorem dX8_bestLook_13 : decode cX8_bestLook 13 = .ok (.iload_n 1, 1) := by decide +kernel
theorem dX8_bestLook_14 : decode cX8_bestLook 14 = .ok (.iconst 2, 1) := by decide +kernel
theorem dX8_bestLook_15 : decode cX8_bestLook 15 = .ok (.if_icmp .ne 8, 3) := by decide +kernel
theorem dX8_bestLook_18 : decode cX8_bestLook 18 = .ok (.bipush 10, 2) := by decide +kernel
theorem dX8_bestLook_20 : decode cX8_bestLook 20 = .ok (.goto 5, 3) := by decide +kernel
theorem dX8_bestLook_23 : decode cX8_bestLook 23 = .ok (.bipush 7, 2) := by decide +kernel
theorem dX8_bestLook_25 : decode cX8_bestLook 25 = .ok (.istore 4, 2) := by decide +kernel
theorem dX8_bestLook_27 : decode cX8_bestLook 27 = .ok (.iload_n 1, 1) := by decide +kernel
theorem dX8_bestLook_28 : decode cX8_bestLook 28 = .ok (.iconst 2, 1) := by decide +kernel
theorem dX8_bestLook_29 : decode cX8_bestLook 29 = .ok (.if_icmp .ne 8, 3) := by decide +kernel
theorem dX8_bestLook_32 : decode cX8_bestLook 32 = .ok (.bipush 9, 2) := by decide +kernel
theorem dX8_bestLook_34 : decode cX8_bestLook 34 = .ok (.goto 4, 3) := by decide +kernel
theorem dX8_bestLook_37 : decode cX8_bestLook 37 = .ok (.iconst 3, 1) := by decide +kernel
theorem dX8_bestLook_38 : decode cX8_bestLook 38 = .ok (.istore 5, 2) := by decide +kernel
theorem dX8_bestLook_40 : decode cX8_bestLook 40 = .ok (.bipush 9, 2) := by decide +kernel
theorem dX8_bestLook_42 : decode cX8_bestLook 42 = .ok (.istore 6, 2) := by decide +kernel
theorem dX8_bestLook_44 : decode cX8_bestLook 44 = .ok (.iconst (-1), 1) := by decide +kernel
theorem dX8_bestLook_45 : decode cX8_bestLook 45 = .ok (.istore 7, 2) := by decide +kernel
theorem dX8_bestLook_47 : decode cX8_bestLook 47 = .ok (.iconst 0, 1) := by decide +kernel
theorem dX8_bestLook_48 : decode cX8_bestLook 48 = .ok (.istore 8, 2) := by decide +kernel
theorem dX8_bestLook_50 : decode cX8_bestLook 50 = .ok (.iload 8, 2) := by decide +kernel
theorem dX8_bestLook_52 : decode cX8_bestLook 52 = .ok (.iload 4, 2) := by decide +kernel
theorem dX8_bestLook_54 : decode cX8_bestLook 54 = .ok (.if_icmp .gt 59, 3) := by decide +kernel
theorem dX8_bestLook_57 : decode cX8_bestLook 57 = .ok (.iconst 0, 1) := by decide +kernel
theorem dX8_bestLook_58 : decode cX8_bestLook 58 = .ok (.istore 9, 2) := by decide +kernel
theorem dX8_bestLook_60 : decode cX8_bestLook 60 = .ok (.iload 9, 2) := by decide +kernel
theorem dX8_bestLook_62 : decode cX8_bestLook 62 = .ok (.iload 5, 2) := by decide +kernel
theorem dX8_bestLook_64 : decode cX8_bestLook 64 = .ok (.if_icmp .gt 43, 3) := by decide +kernel
theorem dX8_bestLook_67 : decode cX8_bestLook 67 = .ok (.aload_n 0, 1) := by decide +kernel
theorem dX8_bestLook_68 : decode cX8_bestLook 68 = .ok (.iload_n 1, 1) := by decide +kernel
theorem dX8_bestLook_69 : decode cX8_bestLook 69 = .ok (.iload_n 2, 1) := by decide +kernel
theorem dX8_bestLook_70 : decode cX8_bestLook 70 = .ok (.iload_n 3, 1) := by decide +kernel
theorem dX8_bestLook_71 : decode cX8_bestLook 71 = .ok (.iload 8, 2) := by decide +kernel
theorem dX8_bestLook_73 : decode cX8_bestLook 73 = .ok (.iload 9, 2) := by decide +kernel
theorem dX8_bestLook_75 : decode cX8_bestLook 75 = .ok (.invokevirtual 311, 3) := by decide +kernel
theorem dX8_bestLook_78 : decode cX8_bestLook 78 = .ok (.istore 10, 2) := by decide +kernel
theorem dX8_bestLook_80 : decode cX8_bestLook 80 = .ok (.iload 10, 2) := by decide +kernel
theorem dX8_bestLook_82 : decode cX8_bestLook 82 = .ok (.iload 6, 2) := by decide +kernel
theorem dX8_bestLook_84 : decode cX8_bestLook 84 = .ok (.if_icmp .ge 17, 3) := by decide +kernel
theorem dX8_bestLook_87 : decode cX8_bestLook 87 = .ok (.iload 10, 2) := by decide +kernel
theorem dX8_bestLook_89 : decode cX8_bestLook 89 = .ok (.istore 6, 2) := by decide +kernel
theorem dX8_bestLook_91 : decode cX8_bestLook 91 = .ok (.bipush 10, 2) := by decide +kernel
theorem dX8_bestLook_93 : decode cX8_bestLook 93 = .ok (.iload 8, 2) := by decide +kernel
theorem dX8_bestLook_95 : decode cX8_bestLook 95 = .ok (.imul, 1) := by decide +kernel
theorem dX8_bestLook_96 : decode cX8_bestLook 96 = .ok (.iload 9, 2) := by decide +kernel
theorem dX8_bestLook_98 : decode cX8_bestLook 98 = .ok (.iadd, 1) := by decide +kernel
theorem dX8_bestLook_99 : decode cX8_bestLook 99 = .ok (.istore 7, 2) := by decide +kernel
theorem dX8_bestLook_101 : decode cX8_bestLook 101 = .ok (.iinc 9 1, 3) := by decide +kernel
theorem dX8_bestLook_104 : decode cX8_bestLook 104 = .ok (.goto (-44), 3) := by decide +kernel
theorem dX8_bestLook_107 : decode cX8_bestLook 107 = .ok (.iinc 8 1, 3) := by decide +kernel
theorem dX8_bestLook_110 : decode cX8_bestLook 110 = .ok (.goto (-60), 3) := by decide +kernel
theorem dX8_bestLook_113 : decode cX8_bestLook 113 = .ok (.iload 7, 2) := by decide +kernel
theorem dX8_bestLook_115 : decode cX8_bestLook 115 = .ok (.ireturn, 1) := by decide +kernel
theorem dX8_mostLeft_0 : decode cX8_mostLeft 0 = .ok (.iconst 0, 1) := by decide +kernel
theorem dX8_mostLeft_1 : decode cX8_mostLeft 1 = .ok (.istore 6, 2) := by decide +kernel
theorem dX8_mostLeft_3 : decode cX8_mostLeft 3 = .ok (.iconst 0, 1) := by decide +kernel
theorem dX8_mostLeft_4 : decode cX8_mostLeft 4 = .ok (.istore 7, 2) := by decide +kernel
theorem dX8_mostLeft_6 : decode cX8_mostLeft 6 = .ok (.iload 7, 2) := by decide +kernel
theorem dX8_mostLeft_8 : decode cX8_mostLeft 8 = .ok (.iload_n 1, 1) := by decide +kernel
theorem dX8_mostLeft_9 : decode cX8_mostLeft 9 = .ok (.invokestatic 287, 3) := by decide +kernel
theorem dX8_mostLeft_12 : decode cX8_mostLeft 12 = .ok (.if_icmp .ge 54, 3) := by decide +kernel
theorem dX8_mostLeft_15 : decode cX8_mostLeft 15 = .ok (.aload_n 0, 1) := by decide +kernel
theorem dX8_mostLeft_16 : decode cX8_mostLeft 16 = .ok (.getfield 48, 3) := by decide +kernel
theorem dX8_mostLeft_19 : decode cX8_mostLeft 19 = .ok (.iload 7, 2) := by decide +kernel
theorem dX8_mostLeft_21 : decode cX8_mostLeft 21 = .ok (.aload_n 0, 1) := by decide +kernel
theorem dX8_mostLeft_22 : decode cX8_mostLeft 22 = .ok (.iload_n 1, 1) := by decide +kernel
theorem dX8_mostLeft_23 : decode cX8_mostLeft 23 = .ok (.iload_n 2, 1) := by decide +kernel
theorem dX8_mostLeft_24 : decode cX8_mostLeft 24 = .ok (.iload 7, 2) := by decide +kernel
theorem dX8_mostLeft_26 : decode cX8_mostLeft 26 = .ok (.iload 4, 2) := by decide +kernel
theorem dX8_mostLeft_28 : decode cX8_mostLeft 28 = .ok (.iload 5, 2) := by decide +kernel
theorem dX8_mostLeft_30 : decode cX8_mostLeft 30 = .ok (.invokevirtual 315, 3) := by decide +kernel
theorem dX8_mostLeft_33 : decode cX8_mostLeft 33 = .ok (.iastore, 1) := by decide +kernel
theorem dX8_mostLeft_34 : decode cX8_mostLeft 34 = .ok (.iload_n 3, 1) := by decide +kernel
theorem dX8_mostLeft_35 : decode cX8_mostLeft 35 = .ok (.iload 7, 2) := by decide +kernel
theorem dX8_mostLeft_37 : decode cX8_mostLeft 37 = .ok (.ishr, 1) := by decide +kernel
theorem dX8_mostLeft_38 : decode cX8_mostLeft 38 = .ok (.iconst 1, 1) := by decide +kernel
theorem dX8_mostLeft_39 : decode cX8_mostLeft 39 = .ok (.iand, 1) := by decide +kernel
theorem dX8_mostLeft_40 : decode cX8_mostLeft 40 = .ok (.iconst 1, 1) := by decide +kernel
theorem dX8_mostLeft_41 : decode cX8_mostLeft 41 = .ok (.if_icmp .ne 19, 3) := by decide +kernel
theorem dX8_mostLeft_44 : decode cX8_mostLeft 44 = .ok (.iload 6, 2) := by decide +kernel
theorem dX8_mostLeft_46 : decode cX8_mostLeft 46 = .ok (.iconst 1, 1) := by decide +kernel
theorem dX8_mostLeft_47 : decode cX8_mostLeft 47 = .ok (.aload_n 0, 1) := by decide +kernel
theorem dX8_mostLeft_48 : decode cX8_mostLeft 48 = .ok (.iload_n 3, 1) := by decide +kernel
theorem dX8_mostLeft_49 : decode cX8_mostLeft 49 = .ok (.iload 7, 2) := by decide +kernel
theorem dX8_mostLeft_51 : decode cX8_mostLeft 51 = .ok (.invokevirtual 318, 3) := by decide +kernel
theorem dX8_mostLeft_54 : decode cX8_mostLeft 54 = .ok (.iadd, 1) := by decide +kernel
theorem dX8_mostLeft_55 : decode cX8_mostLeft 55 = .ok (.invokestatic 321, 3) := by decide +kernel
theorem dX8_mostLeft_58 : decode cX8_mostLeft 58 = .ok (.istore 6, 2) := by decide +kernel
theorem dX8_mostLeft_60 : decode cX8_mostLeft 60 = .ok (.iinc 7 1, 3) := by decide +kernel
theorem dX8_mostLeft_63 : decode cX8_mostLeft 63 = .ok (.goto (-57), 3) := by decide +kernel
theorem dX8_mostLeft_66 : decode cX8_mostLeft 66 = .ok (.iload 6, 2) := by decide +kernel
theorem dX8_mostLeft_68 : decode cX8_mostLeft 68 = .ok (.ireturn, 1) := by decide +kernel
theorem dX8_foretell_0 : decode cX8_foretell 0 = .ok (.iload_n 1, 1) := by decide +kernel
theorem dX8_foretell_1 : decode cX8_foretell 1 = .ok (.lookupswitch 69 #[(0, 27), (1, 48)], 27) := by decide +kernel
theorem dX8_foretell_28 : decode cX8_foretell 28 = .ok (.aload_n 0, 1) := by decide +kernel
theorem dX8_foretell_29 : decode cX8_foretell 29 = .ok (.getfield 10, 3) := by decide +kernel
theorem dX8_foretell_32 : decode cX8_foretell 32 = .ok (.getfield 66, 3) := by decide +kernel
theorem dX8_foretell_35 : decode cX8_foretell 35 = .ok (.getfield 84, 3) := by decide +kernel
theorem dX8_foretell_38 : decode cX8_foretell 38 = .ok (.iload_n 2, 1) := by decide +kernel
theorem dX8_foretell_39 : decode cX8_foretell 39 = .ok (.iaload, 1) := by decide +kernel
theorem dX8_foretell_40 : decode cX8_foretell 40 = .ok (.iload 4, 2) := by decide +kernel
theorem dX8_foretell_42 : decode cX8_foretell 42 = .ok (.iload_n 3, 1) := by decide +kernel
theorem dX8_foretell_43 : decode cX8_foretell 43 = .ok (.iload 5, 2) := by decide +kernel
theorem dX8_foretell_45 : decode cX8_foretell 45 = .ok (.invokestatic 300, 3) := by decide +kernel
theorem dX8_foretell_48 : decode cX8_foretell 48 = .ok (.ireturn, 1) := by decide +kernel
theorem dX8_foretell_49 : decode cX8_foretell 49 = .ok (.iload_n 3, 1) := by decide +kernel
theorem dX8_foretell_50 : decode cX8_foretell 50 = .ok (.iload 4, 2) := by decide +kernel
theorem dX8_foretell_52 : decode cX8_foretell 52 = .ok (.aload_n 0, 1) := by decide +kernel
theorem dX8_foretell_53 : decode cX8_foretell 53 = .ok (.getfield 10, 3) := by decide +kernel
theorem dX8_foretell_56 : decode cX8_foretell 56 = .ok (.getfield 66, 3) := by decide +kernel
theorem dX8_foretell_59 : decode cX8_foretell 59 = .ok (.getfield 172, 3) := by decide +kernel
theorem dX8_foretell_62 : decode cX8_foretell 62 = .ok (.iload_n 2, 1) := by decide +kernel
theorem dX8_foretell_63 : decode cX8_foretell 63 = .ok (.iaload, 1) := by decide +kernel
theorem dX8_foretell_64 : decode cX8_foretell 64 = .ok (.iload 5, 2) := by decide +kernel
theorem dX8_foretell_66 : decode cX8_foretell 66 = .ok (.invokestatic 300, 3) := by decide +kernel
theorem dX8_foretell_69 : decode cX8_foretell 69 = .ok (.ireturn, 1) := by decide +kernel
theorem dX8_foretell_70 : decode cX8_foretell 70 = .ok (.iload_n 3, 1) := by decide +kernel
theorem dX8_foretell_71 : decode cX8_foretell 71 = .ok (.aload_n 0, 1) := by decide +kernel
theorem dX8_foretell_72 : decode cX8_foretell 72 = .ok (.getfield 10, 3) := by decide +kernel
theorem dX8_foretell_75 : decode cX8_foretell 75 = .ok (.getfield 66, 3) := by decide +kernel
theorem dX8_foretell_78 : decode cX8_foretell 78 = .ok (.getfield 156, 3) := by decide +kernel
theorem dX8_foretell_81 : decode cX8_foretell 81 = .ok (.iload_n 2, 1) := by decide +kernel
theorem dX8_foretell_82 : decode cX8_foretell 82 = .ok (.iaload, 1) := by decide +kernel
theorem dX8_foretell_83 : decode cX8_foretell 83 = .ok (.iload 4, 2) := by decide +kernel
theorem dX8_foretell_85 : decode cX8_foretell 85 = .ok (.iload 5, 2) := by decide +kernel
theorem dX8_foretell_87 : decode cX8_foretell 87 = .ok (.invokestatic 306, 3) := by decide +kernel
theorem dX8_foretell_90 : decode cX8_foretell 90 = .ok (.ireturn, 1) := by decide +kernel
theorem dX8_alikeBefore_0 : decode cX8_alikeBefore 0 = .ok (.iconst 0, 1) := by decide +kernel
theorem dX8_alikeBefore_1 : decode cX8_alikeBefore 1 = .ok (.istore_n 3, 1) := by decide +kernel
theorem dX8_alikeBefore_2 : decode cX8_alikeBefore 2 = .ok (.iconst 0, 1) := by decide +kernel
theorem dX8_alikeBefore_3 : decode cX8_alikeBefore 3 = .ok (.istore 4, 2) := by decide +kernel
theorem dX8_alikeBefore_5 : decode cX8_alikeBefore 5 = .ok (.iload 4, 2) := by decide +kernel
theorem dX8_alikeBefore_7 : decode cX8_alikeBefore 7 = .ok (.iload_n 2, 1) := by decide +kernel
theorem dX8_alikeBefore_8 : decode cX8_alikeBefore 8 = .ok (.if_icmp .ge 38, 3) := by decide +kernel
theorem dX8_alikeBefore_11 : decode cX8_alikeBefore 11 = .ok (.iload_n 1, 1) := by decide +kernel
theorem dX8_alikeBefore_12 : decode cX8_alikeBefore 12 = .ok (.iload 4, 2) := by decide +kernel
theorem dX8_alikeBefore_14 : decode cX8_alikeBefore 14 = .ok (.ishr, 1) := by decide +kernel
theorem dX8_alikeBefore_15 : decode cX8_alikeBefore 15 = .ok (.iconst 1, 1) := by decide +kernel
theorem dX8_alikeBefore_16 : decode cX8_alikeBefore 16 = .ok (.iand, 1) := by decide +kernel
theorem dX8_alikeBefore_17 : decode cX8_alikeBefore 17 = .ok (.iconst 1, 1) := by decide +kernel
theorem dX8_alikeBefore_18 : decode cX8_alikeBefore 18 = .ok (.if_icmp .ne 22, 3) := by decide +kernel
theorem dX8_alikeBefore_21 : decode cX8_alikeBefore 21 = .ok (.aload_n 0, 1) := by decide +kernel
theorem dX8_alikeBefore_22 : decode cX8_alikeBefore 22 = .ok (.getfield 48, 3) := by decide +kernel
theorem dX8_alikeBefore_25 : decode cX8_alikeBefore 25 = .ok (.iload 4, 2) := by decide +kernel
theorem dX8_alikeBefore_27 : decode cX8_alikeBefore 27 = .ok (.iaload, 1) := by decide +kernel
theorem dX8_alikeBefore_28 : decode cX8_alikeBefore 28 = .ok (.aload_n 0, 1) := by decide +kernel
theorem dX8_alikeBefore_29 : decode cX8_alikeBefore 29 = .ok (.getfield 48, 3) := by decide +kernel
theorem dX8_alikeBefore_32 : decode cX8_alikeBefore 32 = .ok (.iload_n 2, 1) := by decide +kernel
theorem dX8_alikeBefore_33 : decode cX8_alikeBefore 33 = .ok (.iaload, 1) := by decide +kernel
theorem dX8_alikeBefore_34 : decode cX8_alikeBefore 34 = .ok (.if_icmp .ne 6, 3) := by decide +kernel
theorem dX8_alikeBefore_37 : decode cX8_alikeBefore 37 = .ok (.iinc 3 1, 3) := by decide +kernel
theorem dX8_alikeBefore_40 : decode cX8_alikeBefore 40 = .ok (.iinc 4 1, 3) := by decide +kernel
theorem dX8_alikeBefore_43 : decode cX8_alikeBefore 43 = .ok (.goto (-38), 3) := by decide +kernel
theorem dX8_alikeBefore_46 : decode cX8_alikeBefore 46 = .ok (.iload_n 3, 1) := by decide +kernel
theorem dX8_alikeBefore_47 : decode cX8_alikeBefore 47 = .ok (.ireturn, 1) := by decide +kernel
theorem dX8_runHands_0 : decode cX8_runHands 0 = .ok (.iconst 0, 1) := by decide +kernel
theorem dX8_runHands_1 : decode cX8_runHands 1 = .ok (.istore_n 3, 1) := by decide +kernel
theorem dX8_runHands_2 : decode cX8_runHands 2 = .ok (.iload_n 3, 1) := by decide +kernel
theorem dX8_runHands_3 : decode cX8_runHands 3 = .ok (.iconst 4, 1) := by decide +kernel
theorem dX8_runHands_4 : decode cX8_runHands 4 = .ok (.if_icmp .ge 105, 3) := by decide +kernel
theorem dX8_runHands_7 : decode cX8_runHands 7 = .ok (.aload_n 0, 1) := by decide +kernel
theorem dX8_runHands_8 : decode cX8_runHands 8 = .ok (.getfield 37, 3) := by decide +kernel
theorem dX8_runHands_11 : decode cX8_runHands 11 = .ok (.aload_n 0, 1) := by decide +kernel
theorem dX8_runHands_12 : decode cX8_runHands 12 = .ok (.getfield 10, 3) := by decide +kernel
theorem dX8_runHands_15 : decode cX8_runHands 15 = .ok (.getfield 66, 3) := by decide +kernel
theorem dX8_runHands_18 : decode cX8_runHands 18 = .ok (.invokevirtual 122, 3) := by decide +kernel
theorem dX8_runHands_21 : decode cX8_runHands 21 = .ok (.aload_n 0, 1) := by decide +kernel
theorem dX8_runHands_22 : decode cX8_runHands 22 = .ok (.getfield 37, 3) := by decide +kernel
theorem dX8_runHands_25 : decode cX8_runHands 25 = .ok (.iload_n 3, 1) := by decide +kernel
theorem dX8_runHands_26 : decode cX8_runHands 26 = .ok (.putfield 138, 3) := by decide +kernel
theorem dX8_runHands_29 : decode cX8_runHands 29 = .ok (.aload_n 0, 1) := by decide +kernel
theorem dX8_runHands_30 : decode cX8_runHands 30 = .ok (.getfield 52, 3) := by decide +kernel
theorem dX8_runHands_33 : decode cX8_runHands 33 = .ok (.iload_n 3, 1) := by decide +kernel
theorem dX8_runHands_34 : decode cX8_runHands 34 = .ok (.iconst 0, 1) := by decide +kernel
theorem dX8_runHands_35 : decode cX8_runHands 35 = .ok (.iastore, 1) := by decide +kernel
theorem dX8_runHands_36 : decode cX8_runHands 36 = .ok (.aload_n 0, 1) := by decide +kernel
theorem dX8_runHands_37 : decode cX8_runHands 37 = .ok (.getfield 55, 3) := by decide +kernel
theorem dX8_runHands_40 : decode cX8_runHands 40 = .ok (.iload_n 3, 1) := by decide +kernel
theorem dX8_runHands_41 : decode cX8_runHands 41 = .ok (.iconst 0, 1) := by decide +kernel
theorem dX8_runHands_42 : decode cX8_runHands 42 = .ok (.iastore, 1) := by decide +kernel
theorem dX8_runHands_43 : decode cX8_runHands 43 = .ok (.iconst 0, 1) := by decide +kernel
theorem dX8_runHands_44 : decode cX8_runHands 44 = .ok (.istore 4, 2) := by decide +kernel
theorem dX8_runHands_46 : decode cX8_runHands 46 = .ok (.iload 4, 2) := by decide +kernel
theorem dX8_runHands_48 : decode cX8_runHands 48 = .ok (.bipush 8, 2) := by decide +kernel
theorem dX8_runHands_50 : decode cX8_runHands 50 = .ok (.if_icmp .ge 53, 3) := by decide +kernel
theorem dX8_runHands_53 : decode cX8_runHands 53 = .ok (.aload_n 0, 1) := by decide +kernel
theorem dX8_runHands_54 : decode cX8_runHands 54 = .ok (.getfield 37, 3) := by decide +kernel
theorem dX8_runHands_57 : decode cX8_runHands 57 = .ok (.invokevirtual 132, 3) := by decide +kernel
theorem dX8_runHands_60 : decode cX8_runHands 60 = .ok (.istore 5, 2) := by decide +kernel
theorem dX8_runHands_62 : decode cX8_runHands 62 = .ok (.iload 5, 2) := by decide +kernel
theorem dX8_runHands_64 : decode cX8_runHands 64 = .ok (.iload_n 1, 1) := by decide +kernel
theorem dX8_runHands_65 : decode cX8_runHands 65 = .ok (.if_icmp .ne 16, 3) := by decide +kernel
theorem dX8_runHands_68 : decode cX8_runHands 68 = .ok (.aload_n 0, 1) := by decide +kernel
theorem dX8_runHands_69 : decode cX8_runHands 69 = .ok (.getfield 52, 3) := by decide +kernel
theorem dX8_runHands_72 : decode cX8_runHands 72 = .ok (.iload_n 3, 1) := by decide +kernel
theorem dX8_runHands_73 : decode cX8_runHands 73 = .ok (.dup2, 1) := by decide +kernel
theorem dX8_runHands_74 : decode cX8_runHands 74 = .ok (.iaload, 1) := by decide +kernel
theorem dX8_runHands_75 : decode cX8_runHands 75 = .ok (.iconst 1, 1) := by decide +kernel
theorem dX8_runHands_76 : decode cX8_runHands 76 = .ok (.iadd, 1) := by decide +kernel
theorem dX8_runHands_77 : decode cX8_runHands 77 = .ok (.iastore, 1) := by decide +kernel
theorem dX8_runHands_78 : decode cX8_runHands 78 = .ok (.goto 19, 3) := by decide +kernel
theorem dX8_runHands_81 : decode cX8_runHands 81 = .ok (.iload 5, 2) := by decide +kernel
theorem dX8_runHands_83 : decode cX8_runHands 83 = .ok (.iload_n 2, 1) := by decide +kernel
theorem dX8_runHands_84 : decode cX8_runHands 84 = .ok (.if_icmp .ne 13, 3) := by decide +kernel
theorem dX8_runHands_87 : decode cX8_runHands 87 = .ok (.aload_n 0, 1) := by decide +kernel
theorem dX8_runHands_88 : decode cX8_runHands 88 = .ok (.getfield 55, 3) := by decide +kernel
theorem dX8_runHands_91 : decode cX8_runHands 91 = .ok (.iload_n 3, 1) := by decide +kernel
theorem dX8_runHands_92 : decode cX8_runHands 92 = .ok (.dup2, 1) := by decide +kernel
theorem dX8_runHands_93 : decode cX8_runHands 93 = .ok (.iaload, 1) := by decide +kernel
theorem dX8_runHands_94 : decode cX8_runHands 94 = .ok (.iconst 1, 1) := by decide +kernel
theorem dX8_runHands_95 : decode cX8_runHands 95 = .ok (.iadd, 1) := by decide +kernel
theorem dX8_runHands_96 : decode cX8_runHands 96 = .ok (.iastore, 1) := by decide +kernel
theorem dX8_runHands_97 : decode cX8_runHands 97 = .ok (.iinc 4 1, 3) := by decide +kernel
theorem dX8_runHands_100 : decode cX8_runHands 100 = .ok (.goto (-54), 3) := by decide +kernel
theorem dX8_runHands_103 : decode cX8_runHands 103 = .ok (.iinc 3 1, 3) := by decide +kernel
theorem dX8_runHands_106 : decode cX8_runHands 106 = .ok (.goto (-104), 3) := by decide +kernel
theorem dX8_runHands_109 : decode cX8_runHands 109 = .ok (.return_, 1) := by decide +kernel
theorem dX8_pairRests_0 : decode cX8_pairRests 0 = .ok (.iconst 2, 1) := by decide +kernel
theorem dX8_pairRests_1 : decode cX8_pairRests 1 = .ok (.aload_n 0, 1) := by decide +kernel
theorem dX8_pairRests_2 : decode cX8_pairRests 2 = .ok (.getfield 52, 3) := by decide +kernel
theorem dX8_pairRests_5 : decode cX8_pairRests 5 = .ok (.iload_n 1, 1) := by decide +kernel
theorem dX8_pairRests_6 : decode cX8_pairRests 6 = .ok (.iload_n 2, 1) := by decide +kernel
theorem dX8_pairRests_7 : decode cX8_pairRests 7 = .ok (.iadd, 1) := by decide +kernel
theorem dX8_pairRests_8 : decode cX8_pairRests 8 = .ok (.iconst 2, 1) := by decide +kernel
theorem dX8_pairRests_9 : decode cX8_pairRests 9 = .ok (.idiv, 1) := by decide +kernel
theorem dX8_pairRests_10 : decode cX8_pairRests 10 = .ok (.iaload, 1) := by decide +kernel
theorem dX8_pairRests_11 : decode cX8_pairRests 11 = .ok (.imul, 1) := by decide +kernel
theorem dX8_pairRests_12 : decode cX8_pairRests 12 = .ok (.iload_n 1, 1) := by decide +kernel
theorem dX8_pairRests_13 : decode cX8_pairRests 13 = .ok (.isub, 1) := by decide +kernel
theorem dX8_pairRests_14 : decode cX8_pairRests 14 = .ok (.istore_n 3, 1) := by decide +kernel
theorem dX8_pairRests_15 : decode cX8_pairRests 15 = .ok (.iconst 2, 1) := by decide +kernel
theorem dX8_pairRests_16 : decode cX8_pairRests 16 = .ok (.aload_n 0, 1) := by decide +kernel
theorem dX8_pairRests_17 : decode cX8_pairRests 17 = .ok (.getfield 55, 3) := by decide +kernel
theorem dX8_pairRests_20 : decode cX8_pairRests 20 = .ok (.iload_n 1, 1) := by decide +kernel
theorem dX8_pairRests_21 : decode cX8_pairRests 21 = .ok (.iload_n 2, 1) := by decide +kernel
theorem dX8_pairRests_22 : decode cX8_pairRests 22 = .ok (.iadd, 1) := by decide +kernel
theorem dX8_pairRests_23 : decode cX8_pairRests 23 = .ok (.iconst 2, 1) := by decide +kernel
theorem dX8_pairRests_24 : decode cX8_pairRests 24 = .ok (.idiv, 1) := by decide +kernel
theorem dX8_pairRests_25 : decode cX8_pairRests 25 = .ok (.iaload, 1) := by decide +kernel
theorem dX8_pairRests_26 : decode cX8_pairRests 26 = .ok (.imul, 1) := by decide +kernel
theorem dX8_pairRests_27 : decode cX8_pairRests 27 = .ok (.iload_n 2, 1) := by decide +kernel
theorem dX8_pairRests_28 : decode cX8_pairRests 28 = .ok (.isub, 1) := by decide +kernel
theorem dX8_pairRests_29 : decode cX8_pairRests 29 = .ok (.istore 4, 2) := by decide +kernel
theorem dX8_pairRests_31 : decode cX8_pairRests 31 = .ok (.iconst 0, 1) := by decide +kernel
theorem dX8_pairRests_32 : decode cX8_pairRests 32 = .ok (.istore 5, 2) := by decide +kernel
theorem dX8_pairRests_34 : decode cX8_pairRests 34 = .ok (.iload 5, 2) := by decide +kernel
theorem dX8_pairRests_36 : decode cX8_pairRests 36 = .ok (.iconst 3, 1) := by decide +kernel
theorem dX8_pairRests_37 : decode cX8_pairRests 37 = .ok (.if_icmp .gt 52, 3) := by decide +kernel
theorem dX8_pairRests_40 : decode cX8_pairRests 40 = .ok (.iconst 2, 1) := by decide +kernel
theorem dX8_pairRests_41 : decode cX8_pairRests 41 = .ok (.aload_n 0, 1) := by decide +kernel
theorem dX8_pairRests_42 : decode cX8_pairRests 42 = .ok (.getfield 52, 3) := by decide +kernel
theorem dX8_pairRests_45 : decode cX8_pairRests 45 = .ok (.iload 5, 2) := by decide +kernel
theorem dX8_pairRests_47 : decode cX8_pairRests 47 = .ok (.iload_n 2, 1) := by decide +kernel
theorem dX8_pairRests_48 : decode cX8_pairRests 48 = .ok (.iadd, 1) := by decide +kernel
theorem dX8_pairRests_49 : decode cX8_pairRests 49 = .ok (.iconst 2, 1) := by decide +kernel
theorem dX8_pairRests_50 : decode cX8_pairRests 50 = .ok (.idiv, 1) := by decide +kernel
theorem dX8_pairRests_51 : decode cX8_pairRests 51 = .ok (.iaload, 1) := by decide +kernel
theorem dX8_pairRests_52 : decode cX8_pairRests 52 = .ok (.imul, 1) := by decide +kernel
theorem dX8_pairRests_53 : decode cX8_pairRests 53 = .ok (.iload 5, 2) := by decide +kernel
theorem dX8_pairRests_55 : decode cX8_pairRests 55 = .ok (.isub, 1) := by decide +kernel
theorem dX8_pairRests_56 : decode cX8_pairRests 56 = .ok (.iload_n 3, 1) := by decide +kernel
theorem dX8_pairRests_57 : decode cX8_pairRests 57 = .ok (.if_icmp .gt 24, 3) := by decide +kernel
theorem dX8_pairRests_60 : decode cX8_pairRests 60 = .ok (.iconst 2, 1) := by decide +kernel
theorem dX8_pairRests_61 : decode cX8_pairRests 61 = .ok (.aload_n 0, 1) := by decide +kernel
theorem dX8_pairRests_62 : decode cX8_pairRests 62 = .ok (.getfield 55, 3) := by decide +kernel
theorem dX8_pairRests_65 : decode cX8_pairRests 65 = .ok (.iload_n 1, 1) := by decide +kernel
theorem dX8_pairRests_66 : decode cX8_pairRests 66 = .ok (.iload 5, 2) := by decide +kernel
theorem dX8_pairRests_68 : decode cX8_pairRests 68 = .ok (.iadd, 1) := by decide +kernel
theorem dX8_pairRests_69 : decode cX8_pairRests 69 = .ok (.iconst 2, 1) := by decide +kernel
theorem dX8_pairRests_70 : decode cX8_pairRests 70 = .ok (.idiv, 1) := by decide +kernel
theorem dX8_pairRests_71 : decode cX8_pairRests 71 = .ok (.iaload, 1) := by decide +kernel
theorem dX8_pairRests_72 : decode cX8_pairRests 72 = .ok (.imul, 1) := by decide +kernel
theorem dX8_pairRests_73 : decode cX8_pairRests 73 = .ok (.iload 5, 2) := by decide +kernel
theorem dX8_pairRests_75 : decode cX8_pairRests 75 = .ok (.isub, 1) := by decide +kernel
theorem dX8_pairRests_76 : decode cX8_pairRests 76 = .ok (.iload 4, 2) := by decide +kernel
theorem dX8_pairRests_78 : decode cX8_pairRests 78 = .ok (.if_icmp .le 5, 3) := by decide +kernel
theorem dX8_pairRests_81 : decode cX8_pairRests 81 = .ok (.iconst 0, 1) := by decide +kernel
theorem dX8_pairRests_82 : decode cX8_pairRests 82 = .ok (.ireturn, 1) := by decide +kernel
theorem dX8_pairRests_83 : decode cX8_pairRests 83 = .ok (.iinc 5 1, 3) := by decide +kernel
theorem dX8_pairRests_86 : decode cX8_pairRests 86 = .ok (.goto (-52), 3) := by decide +kernel
theorem dX8_pairRests_89 : decode cX8_pairRests 89 = .ok (.iconst 1, 1) := by decide +kernel
theorem dX8_pairRests_90 : decode cX8_pairRests 90 = .ok (.ireturn, 1) := by decide +kernel
theorem dX8_chance_0 : decode cX8_chance 0 = .ok (.iload 4, 2) := by decide +kernel
theorem dX8_chance_2 : decode cX8_chance 2 = .ok (.ifCond .gt 19, 3) := by decide +kernel
theorem dX8_chance_5 : decode cX8_chance 5 = .ok (.aload_n 0, 1) := by decide +kernel
theorem dX8_chance_6 : decode cX8_chance 6 = .ok (.getfield 159, 3) := by decide +kernel
theorem dX8_chance_9 : decode cX8_chance 9 = .ok (.iload_n 1, 1) := by decide +kernel
theorem dX8_chance_10 : decode cX8_chance 10 = .ok (.iaload, 1) := by decide +kernel
theorem dX8_chance_11 : decode cX8_chance 11 = .ok (.iload_n 2, 1) := by decide +kernel
theorem dX8_chance_12 : decode cX8_chance 12 = .ok (.if_icmp .lt 7, 3) := by decide +kernel
theorem dX8_chance_15 : decode cX8_chance 15 = .ok (.lconst 1, 1) := by decide +kernel
theorem dX8_chance_16 : decode cX8_chance 16 = .ok (.goto 4, 3) := by decide +kernel
theorem dX8_chance_19 : decode cX8_chance 19 = .ok (.lconst 0, 1) := by decide +kernel
theorem dX8_chance_20 : decode cX8_chance 20 = .ok (.lreturn, 1) := by decide +kernel
theorem dX8_chance_21 : decode cX8_chance 21 = .ok (.aload_n 0, 1) := by decide +kernel
theorem dX8_chance_22 : decode cX8_chance 22 = .ok (.getfield 135, 3) := by decide +kernel
theorem dX8_chance_25 : decode cX8_chance 25 = .ok (.istore 5, 2) := by decide +kernel
theorem dX8_chance_27 : decode cX8_chance 27 = .ok (.aload_n 0, 1) := by decide +kernel
theorem dX8_chance_28 : decode cX8_chance 28 = .ok (.getfield 147, 3) := by decide +kernel
theorem dX8_chance_31 : decode cX8_chance 31 = .ok (.istore 6, 2) := by decide +kernel
theorem dX8_chance_33 : decode cX8_chance 33 = .ok (.aload_n 0, 1) := by decide +kernel
theorem dX8_chance_34 : decode cX8_chance 34 = .ok (.invokevirtual 326, 3) := by decide +kernel
theorem dX8_chance_37 : decode cX8_chance 37 = .ok (.aload_n 0, 1) := by decide +kernel
theorem dX8_chance_38 : decode cX8_chance 38 = .ok (.invokevirtual 329, 3) := by decide +kernel
theorem dX8_chance_41 : decode cX8_chance 41 = .ok (.istore 7, 2) := by decide +kernel
theorem dX8_chance_43 : decode cX8_chance 43 = .ok (.aload_n 0, 1) := by decide +kernel
theorem dX8_chance_44 : decode cX8_chance 44 = .ok (.iload_n 1, 1) := by decide +kernel
theorem dX8_chance_45 : decode cX8_chance 45 = .ok (.iload_n 2, 1) := by decide +kernel
theorem dX8_chance_46 : decode cX8_chance 46 = .ok (.iload_n 3, 1) := by decide +kernel
theorem dX8_chance_47 : decode cX8_chance 47 = .ok (.iload 4, 2) := by decide +kernel
theorem dX8_chance_49 : decode cX8_chance 49 = .ok (.iconst 1, 1) := by decide +kernel
theorem dX8_chance_50 : decode cX8_chance 50 = .ok (.isub, 1) := by decide +kernel
theorem dX8_chance_51 : decode cX8_chance 51 = .ok (.invokestatic 235, 3) := by decide +kernel
theorem dX8_chance_54 : decode cX8_chance 54 = .ok (.lstore 8, 2) := by decide +kernel
theorem dX8_chance_56 : decode cX8_chance 56 = .ok (.iload 7, 2) := by decide +kernel
theorem dX8_chance_58 : decode cX8_chance 58 = .ok (.iconst (-1), 1) := by decide +kernel
theorem dX8_chance_59 : decode cX8_chance 59 = .ok (.if_icmp .ne 14, 3) := by decide +kernel
theorem dX8_chance_62 : decode cX8_chance 62 = .ok (.lload 8, 2) := by decide +kernel
theorem dX8_chance_64 : decode cX8_chance 64 = .ok (.ldc2_w 233, 3) := by decide +kernel
theorem dX8_chance_67 : decode cX8_chance 67 = .ok (.lmul, 1) := by decide +kernel
theorem dX8_chance_68 : decode cX8_chance 68 = .ok (.lstore 8, 2) := by decide +kernel
theorem dX8_chance_70 : decode cX8_chance 70 = .ok (.goto 53, 3) := by decide +kernel
theorem dX8_chance_73 : decode cX8_chance 73 = .ok (.aload_n 0, 1) := by decide +kernel
theorem dX8_chance_74 : decode cX8_chance 74 = .ok (.getfield 159, 3) := by decide +kernel
theorem dX8_chance_77 : decode cX8_chance 77 = .ok (.iload 7, 2) := by decide +kernel
theorem dX8_chance_79 : decode cX8_chance 79 = .ok (.iaload, 1) := by decide +kernel
theorem dX8_chance_80 : decode cX8_chance 80 = .ok (.istore 10, 2) := by decide +kernel
theorem dX8_chance_82 : decode cX8_chance 82 = .ok (.aload_n 0, 1) := by decide +kernel
theorem dX8_chance_83 : decode cX8_chance 83 = .ok (.iload 7, 2) := by decide +kernel
theorem dX8_chance_85 : decode cX8_chance 85 = .ok (.invokevirtual 332, 3) := by decide +kernel
theorem dX8_chance_88 : decode cX8_chance 88 = .ok (.iload_n 3, 1) := by decide +kernel
theorem dX8_chance_89 : decode cX8_chance 89 = .ok (.i2l, 1) := by decide +kernel
theorem dX8_chance_90 : decode cX8_chance 90 = .ok (.lload 8, 2) := by decide +kernel
theorem dX8_chance_92 : decode cX8_chance 92 = .ok (.lmul, 1) := by decide +kernel
theorem dX8_chance_93 : decode cX8_chance 93 = .ok (.bipush 10, 2) := by decide +kernel
theorem dX8_chance_95 : decode cX8_chance 95 = .ok (.iload_n 3, 1) := by decide +kernel
theorem dX8_chance_96 : decode cX8_chance 96 = .ok (.isub, 1) := by decide +kernel
theorem dX8_chance_97 : decode cX8_chance 97 = .ok (.i2l, 1) := by decide +kernel
theorem dX8_chance_98 : decode cX8_chance 98 = .ok (.aload_n 0, 1) := by decide +kernel
theorem dX8_chance_99 : decode cX8_chance 99 = .ok (.iload_n 1, 1) := by decide +kernel
theorem dX8_chance_100 : decode cX8_chance 100 = .ok (.iload_n 2, 1) := by decide +kernel
theorem dX8_chance_101 : decode cX8_chance 101 = .ok (.iload_n 3, 1) := by decide +kernel
theorem dX8_chance_102 : decode cX8_chance 102 = .ok (.iload 4, 2) := by decide +kernel
theorem dX8_chance_104 : decode cX8_chance 104 = .ok (.iconst 1, 1) := by decide +kernel
theorem dX8_chance_105 : decode cX8_chance 105 = .ok (.isub, 1) := by decide +kernel
theorem dX8_chance_106 : decode cX8_chance 106 = .ok (.invokestatic 235, 3) := by decide +kernel
theorem dX8_chance_109 : decode cX8_chance 109 = .ok (.lmul, 1) := by decide +kernel
theorem dX8_chance_110 : decode cX8_chance 110 = .ok (.ladd, 1) := by decide +kernel
theorem dX8_chance_111 : decode cX8_chance 111 = .ok (.lstore 8, 2) := by decide +kernel
theorem dX8_chance_113 : decode cX8_chance 113 = .ok (.aload_n 0, 1) := by decide +kernel
theorem dX8_chance_114 : decode cX8_chance 114 = .ok (.iload 7, 2) := by decide +kernel
theorem dX8_chance_116 : decode cX8_chance 116 = .ok (.iload 10, 2) := by decide +kernel
theorem dX8_chance_118 : decode cX8_chance 118 = .ok (.iload 6, 2) := by decide +kernel
theorem dX8_chance_120 : decode cX8_chance 120 = .ok (.invokevirtual 335, 3) := by decide +kernel
theorem dX8_chance_123 : decode cX8_chance 123 = .ok (.aload_n 0, 1) := by decide +kernel
theorem dX8_chance_124 : decode cX8_chance 124 = .ok (.iload 5, 2) := by decide +kernel
theorem dX8_chance_126 : decode cX8_chance 126 = .ok (.invokevirtual 337, 3) := by decide +kernel
theorem dX8_chance_129 : decode cX8_chance 129 = .ok (.lload 8, 2) := by decide +kernel
theorem dX8_chance_131 : decode cX8_chance 131 = .ok (.lreturn, 1) := by decide +kernel
theorem dX8_keepFraction_0 : decode cX8_keepFraction 0 = .ok (.lload_n 1, 1) := by decide +kernel
theorem dX8_keepFraction_1 : decode cX8_keepFraction 1 = .ok (.lstore 5, 2) := by decide +kernel
theorem dX8_keepFraction_3 : decode cX8_keepFraction 3 = .ok (.lload_n 3, 1) := by decide +kernel
theorem dX8_keepFraction_4 : decode cX8_keepFraction 4 = .ok (.lstore 7, 2) := by decide +kernel
theorem dX8_keepFraction_6 : decode cX8_keepFraction 6 = .ok (.iconst 0, 1) := by decide +kernel
theorem dX8_keepFraction_7 : decode cX8_keepFraction 7 = .ok (.istore 9, 2) := by decide +kernel
theorem dX8_keepFraction_9 : decode cX8_keepFraction 9 = .ok (.iload 9, 2) := by decide +kernel
theorem dX8_keepFraction_11 : decode cX8_keepFraction 11 = .ok (.bipush 100, 2) := by decide +kernel
theorem dX8_keepFraction_13 : decode cX8_keepFraction 13 = .ok (.if_icmp .ge 31, 3) := by decide +kernel
theorem dX8_keepFraction_16 : decode cX8_keepFraction 16 = .ok (.lload 7, 2) := by decide +kernel
theorem dX8_keepFraction_18 : decode cX8_keepFraction 18 = .ok (.lconst 0, 1) := by decide +kernel
theorem dX8_keepFraction_19 : decode cX8_keepFraction 19 = .ok (.lcmp, 1) := by decide +kernel
theorem dX8_keepFraction_20 : decode cX8_keepFraction 20 = .ok (.ifCond .le 24, 3) := by decide +kernel
theorem dX8_keepFraction_23 : decode cX8_keepFraction 23 = .ok (.lload 5, 2) := by decide +kernel
theorem dX8_keepFraction_25 : decode cX8_keepFraction 25 = .ok (.lload 7, 2) := by decide +kernel
theorem dX8_keepFraction_27 : decode cX8_keepFraction 27 = .ok (.lrem, 1) := by decide +kernel
theorem dX8_keepFraction_28 : decode cX8_keepFraction 28 = .ok (.lstore 10, 2) := by decide +kernel
theorem dX8_keepFraction_30 : decode cX8_keepFraction 30 = .ok (.lload 7, 2) := by decide +kernel
theorem dX8_keepFraction_32 : decode cX8_keepFraction 32 = .ok (.lstore 5, 2) := by decide +kernel
theorem dX8_keepFraction_34 : decode cX8_keepFraction 34 = .ok (.lload 10, 2) := by decide +kernel
theorem dX8_keepFraction_36 : decode cX8_keepFraction 36 = .ok (.lstore 7, 2) := by decide +kernel
theorem dX8_keepFraction_38 : decode cX8_keepFraction 38 = .ok (.iinc 9 1, 3) := by decide +kernel
theorem dX8_keepFraction_41 : decode cX8_keepFraction 41 = .ok (.goto (-32), 3) := by decide +kernel
theorem dX8_keepFraction_44 : decode cX8_keepFraction 44 = .ok (.lload 5, 2) := by decide +kernel
theorem dX8_keepFraction_46 : decode cX8_keepFraction 46 = .ok (.lconst 0, 1) := by decide +kernel
theorem dX8_keepFraction_47 : decode cX8_keepFraction 47 = .ok (.lcmp, 1) := by decide +kernel
theorem dX8_keepFraction_48 : decode cX8_keepFraction 48 = .ok (.ifCond .le 19, 3) := by decide +kernel
theorem dX8_keepFraction_51 : decode cX8_keepFraction 51 = .ok (.aload_n 0, 1) := by decide +kernel
theorem dX8_keepFraction_52 : decode cX8_keepFraction 52 = .ok (.lload_n 1, 1) := by decide +kernel
theorem dX8_keepFraction_53 : decode cX8_keepFraction 53 = .ok (.lload 5, 2) := by decide +kernel
theorem dX8_keepFraction_55 : decode cX8_keepFraction 55 = .ok (.ldiv, 1) := by decide +kernel
theorem dX8_keepFraction_56 : decode cX8_keepFraction 56 = .ok (.putfield 27, 3) := by decide +kernel
theorem dX8_keepFraction_59 : decode cX8_keepFraction 59 = .ok (.aload_n 0, 1) := by decide +kernel
theorem dX8_keepFraction_60 : decode cX8_keepFraction 60 = .ok (.lload_n 3, 1) := by decide +kernel
theorem dX8_keepFraction_61 : decode cX8_keepFraction 61 = .ok (.lload 5, 2) := by decide +kernel
theorem dX8_keepFraction_63 : decode cX8_keepFraction 63 = .ok (.ldiv, 1) := by decide +kernel
theorem dX8_keepFraction_64 : decode cX8_keepFraction 64 = .ok (.putfield 31, 3) := by decide +kernel
theorem dX8_keepFraction_67 : decode cX8_keepFraction 67 = .ok (.return_, 1) := by decide +kernel
theorem dX9_init_0 : decode cX9_init 0 = .ok (.aload_n 0, 1) := by decide +kernel
theorem dX9_init_1 : decode cX9_init 1 = .ok (.invokespecial 1, 3) := by decide +kernel
theorem dX9_init_4 : decode cX9_init 4 = .ok (.aload_n 0, 1) := by decide +kernel
theorem dX9_init_5 : decode cX9_init 5 = .ok (.sipush 266, 3) := by decide +kernel
theorem dX9_init_8 : decode cX9_init 8 = .ok (.newarray .int, 2) := by decide +kernel
theorem dX9_init_10 : decode cX9_init 10 = .ok (.putfield 7, 3) := by decide +kernel
theorem dX9_init_13 : decode cX9_init 13 = .ok (.aload_n 0, 1) := by decide +kernel
theorem dX9_init_14 : decode cX9_init 14 = .ok (.sipush 532, 3) := by decide +kernel
theorem dX9_init_17 : decode cX9_init 17 = .ok (.newarray .int, 2) := by decide +kernel
theorem dX9_init_19 : decode cX9_init 19 = .ok (.putfield 13, 3) := by decide +kernel
theorem dX9_init_22 : decode cX9_init 22 = .ok (.aload_n 0, 1) := by decide +kernel
theorem dX9_init_23 : decode cX9_init 23 = .ok (.iconst 2, 1) := by decide +kernel
theorem dX9_init_24 : decode cX9_init 24 = .ok (.newarray .boolean, 2) := by decide +kernel
theorem dX9_init_26 : decode cX9_init 26 = .ok (.putfield 16, 3) := by decide +kernel
theorem dX9_init_29 : decode cX9_init 29 = .ok (.aload_n 0, 1) := by decide +kernel
theorem dX9_init_30 : decode cX9_init 30 = .ok (.iconst 3, 1) := by decide +kernel
theorem dX9_init_31 : decode cX9_init 31 = .ok (.newarray .int, 2) := by decide +kernel
theorem dX9_init_33 : decode cX9_init 33 = .ok (.putfield 20, 3) := by decide +kernel
theorem dX9_init_36 : decode cX9_init 36 = .ok (.aload_n 0, 1) := by decide +kernel
theorem dX9_init_37 : decode cX9_init 37 = .ok (.lconst 1, 1) := by decide +kernel
theorem dX9_init_38 : decode cX9_init 38 = .ok (.putfield 23, 3) := by decide +kernel
theorem dX9_init_41 : decode cX9_init 41 = .ok (.aload_n 0, 1) := by decide +kernel
theorem dX9_init_42 : decode cX9_init 42 = .ok (.bipush 58, 2) := by decide +kernel
theorem dX9_init_44 : decode cX9_init 44 = .ok (.newarray .int, 2) := by decide +kernel
theorem dX9_init_46 : decode cX9_init 46 = .ok (.putfield 27, 3) := by decide +kernel
theorem dX9_init_49 : decode cX9_init 49 = .ok (.aload_n 0, 1) := by decide +kernel
theorem dX9_init_50 : decode cX9_init 50 = .ok (.bipush 8, 2) := by decide +kernel
theorem dX9_init_52 : decode cX9_init 52 = .ok (.newarray .int, 2) := by decide +kernel
theorem dX9_init_54 : decode cX9_init 54 = .ok (.putfield 30, 3) := by decide +kernel
theorem dX9_init_57 : decode cX9_init 57 = .ok (.aload_n 0, 1) := by decide +kernel
theorem dX9_init_58 : decode cX9_init 58 = .ok (.bipush 8, 2) := by decide +kernel
theorem dX9_init_60 : decode cX9_init 60 = .ok (.newarray .int, 2) := by decide +kernel
theorem dX9_init_62 : decode cX9_init 62 = .ok (.putfield 33, 3) := by decide +kernel
theorem dX9_init_65 : decode cX9_init 65 = .ok (.aload_n 0, 1) := by decide +kernel
theorem dX9_init_66 : decode cX9_init 66 = .ok (.sipush 150, 3) := by decide +kernel
theorem dX9_init_69 : decode cX9_init 69 = .ok (.newarray .int, 2) := by decide +kernel
theorem dX9_init_71 : decode cX9_init 71 = .ok (.putfield 36, 3) := by decide +kernel
theorem dX9_init_74 : decode cX9_init 74 = .ok (.aload_n 0, 1) := by decide +kernel
theorem dX9_init_75 : decode cX9_init 75 = .ok (.sipush 138, 3) := by decide +kernel
theorem dX9_init_78 : decode cX9_init 78 = .ok (.newarray .int, 2) := by decide +kernel
theorem dX9_init_80 : decode cX9_init 80 = .ok (.putfield 39, 3) := by decide +kernel
theorem dX9_init_83 : decode cX9_init 83 = .ok (.aload_n 0, 1) := by decide +kernel
theorem dX9_init_84 : decode cX9_init 84 = .ok (.iconst 3, 1) := by decide +kernel
theorem dX9_init_85 : decode cX9_init 85 = .ok (.newarray .int, 2) := by decide +kernel
theorem dX9_init_87 : decode cX9_init 87 = .ok (.putfield 42, 3) := by decide +kernel
theorem dX9_init_90 : decode cX9_init 90 = .ok (.aload_n 0, 1) := by decide +kernel
theorem dX9_init_91 : decode cX9_init 91 = .ok (.getfield 7, 3) := by decide +kernel
theorem dX9_init_94 : decode cX9_init 94 = .ok (.iconst 4, 1) := by decide +kernel
theorem dX9_init_95 : decode cX9_init 95 = .ok (.iconst 1, 1) := by decide +kernel
theorem dX9_init_96 : decode cX9_init 96 = .ok (.invokestatic 45, 3) := by decide +kernel
theorem dX9_init_99 : decode cX9_init 99 = .ok (.return_, 1) := by decide +kernel
theorem dX9_in_0 : decode cX9_in 0 = .ok (.lload_n 0, 1) := by decide +kernel
theorem dX9_in_1 : decode cX9_in 1 = .ok (.lload_n 2, 1) := by decide +kernel
theorem dX9_in_2 : decode cX9_in 2 = .ok (.lcmp, 1) := by decide +kernel
theorem dX9_in_3 : decode cX9_in 3 = .ok (.ifCond .lt 14, 3) := by decide +kernel
theorem dX9_in_6 : decode cX9_in 6 = .ok (.lload_n 0, 1) := by decide +kernel
theorem dX9_in_7 : decode cX9_in 7 = .ok (.lload 4, 2) := by decide +kernel
theorem dX9_in_9 : decode cX9_in 9 = .ok (.lcmp, 1) := by decide +kernel
theorem dX9_in_10 : decode cX9_in 10 = .ok (.ifCond .gt 7, 3) := by decide +kernel
theorem dX9_in_13 : decode cX9_in 13 = .ok (.iconst 1, 1) := by decide +kernel
theorem dX9_in_14 : decode cX9_in 14 = .ok (.goto 4, 3) := by decide +kernel
theorem dX9_in_17 : decode cX9_in 17 = .ok (.iconst 0, 1) := by decide +kernel
theorem dX9_in_18 : decode cX9_in 18 = .ok (.ireturn, 1) := by decide +kernel
theorem dX9_bad_0 : decode cX9_bad 0 = .ok (.aload_n 0, 1) := by decide +kernel
theorem dX9_bad_1 : decode cX9_bad 1 = .ok (.getfield 20, 3) := by decide +kernel
theorem dX9_bad_4 : decode cX9_bad 4 = .ok (.iconst 0, 1) := by decide +kernel
theorem dX9_bad_5 : decode cX9_bad 5 = .ok (.dup2, 1) := by decide +kernel
theorem dX9_bad_6 : decode cX9_bad 6 = .ok (.iaload, 1) := by decide +kernel
theorem dX9_bad_7 : decode cX9_bad 7 = .ok (.iconst 1, 1) := by decide +kernel
theorem dX9_bad_8 : decode cX9_bad 8 = .ok (.iadd, 1) := by decide +kernel
theorem dX9_bad_9 : decode cX9_bad 9 = .ok (.iastore, 1) := by decide +kernel
theorem dX9_bad_10 : decode cX9_bad 10 = .ok (.iload_n 1, 1) := by decide +kernel
theorem dX9_bad_11 : decode cX9_bad 11 = .ok (.ireturn, 1) := by decide +kernel
theorem dX9_no_0 : decode cX9_no 0 = .ok (.aload_n 0, 1) := by decide +kernel
theorem dX9_no_1 : decode cX9_no 1 = .ok (.getfield 20, 3) := by decide +kernel
theorem dX9_no_4 : decode cX9_no 4 = .ok (.iconst 1, 1) := by decide +kernel
theorem dX9_no_5 : decode cX9_no 5 = .ok (.dup2, 1) := by decide +kernel
theorem dX9_no_6 : decode cX9_no 6 = .ok (.iaload, 1) := by decide +kernel
theorem dX9_no_7 : decode cX9_no 7 = .ok (.iconst 1, 1) := by decide +kernel
theorem dX9_no_8 : decode cX9_no 8 = .ok (.iadd, 1) := by decide +kernel
theorem dX9_no_9 : decode cX9_no 9 = .ok (.iastore, 1) := by decide +kernel
theorem dX9_no_10 : decode cX9_no 10 = .ok (.bipush (-3), 2) := by decide +kernel
theorem dX9_no_12 : decode cX9_no 12 = .ok (.ireturn, 1) := by decide +kernel
theorem dX9_full_0 : decode cX9_full 0 = .ok (.aload_n 0, 1) := by decide +kernel
theorem dX9_full_1 : decode cX9_full 1 = .ok (.getfield 20, 3) := by decide +kernel
theorem dX9_full_4 : decode cX9_full 4 = .ok (.iconst 2, 1) := by decide +kernel
theorem dX9_full_5 : decode cX9_full 5 = .ok (.dup2, 1) := by decide +kernel
theorem dX9_full_6 : decode cX9_full 6 = .ok (.iaload, 1) := by decide +kernel
theorem dX9_full_7 : decode cX9_full 7 = .ok (.iconst 1, 1) := by decide +kernel
theorem dX9_full_8 : decode cX9_full 8 = .ok (.iadd, 1) := by decide +kernel
theorem dX9_full_9 : decode cX9_full 9 = .ok (.iastore, 1) := by decide +kernel
theorem dX9_full_10 : decode cX9_full 10 = .ok (.bipush (-4), 2) := by decide +kernel
theorem dX9_full_12 : decode cX9_full 12 = .ok (.ireturn, 1) := by decide +kernel
theorem dX9_has_0 : decode cX9_has 0 = .ok (.iload_n 0, 1) := by decide +kernel
theorem dX9_has_1 : decode cX9_has 1 = .ok (.iload_n 1, 1) := by decide +kernel
theorem dX9_has_2 : decode cX9_has 2 = .ok (.ishr, 1) := by decide +kernel
theorem dX9_has_3 : decode cX9_has 3 = .ok (.iconst 1, 1) := by decide +kernel
theorem dX9_has_4 : decode cX9_has 4 = .ok (.iand, 1) := by decide +kernel
theorem dX9_has_5 : decode cX9_has 5 = .ok (.iconst 1, 1) := by decide +kernel
theorem dX9_has_6 : decode cX9_has 6 = .ok (.if_icmp .ne 7, 3) := by decide +kernel
theorem dX9_has_9 : decode cX9_has 9 = .ok (.iconst 1, 1) := by decide +kernel
theorem dX9_has_10 : decode cX9_has 10 = .ok (.goto 4, 3) := by decide +kernel
theorem dX9_has_13 : decode cX9_has 13 = .ok (.iconst 0, 1) := by decide +kernel
theorem dX9_has_14 : decode cX9_has 14 = .ok (.ireturn, 1) := by decide +kernel
theorem dX9_begin_0 : decode cX9_begin 0 = .ok (.iconst 0, 1) := by decide +kernel
theorem dX9_begin_1 : decode cX9_begin 1 = .ok (.istore_n 3, 1) := by decide +kernel
theorem dX9_begin_2 : decode cX9_begin 2 = .ok (.iload_n 3, 1) := by decide +kernel
theorem dX9_begin_3 : decode cX9_begin 3 = .ok (.sipush 138, 3) := by decide +kernel
theorem dX9_begin_6 : decode cX9_begin 6 = .ok (.if_icmp .ge 13, 3) := by decide +kernel
theorem dX9_begin_9 : decode cX9_begin 9 = .ok (.aload_n 0, 1) := by decide +kernel
theorem dX9_begin_10 : decode cX9_begin 10 = .ok (.iload_n 3, 1) := by decide +kernel
theorem dX9_begin_11 : decode cX9_begin 11 = .ok (.iconst 0, 1) := by decide +kernel
theorem dX9_begin_12 : decode cX9_begin 12 = .ok (.iastore, 1) := by decide +kernel
theorem dX9_begin_13 : decode cX9_begin 13 = .ok (.iinc 3 1, 3) := by decide +kernel
theorem dX9_begin_16 : decode cX9_begin 16 = .ok (.goto (-14), 3) := by decide +kernel
theorem dX9_begin_19 : decode cX9_begin 19 = .ok (.aload_n 0, 1) := by decide +kernel
theorem dX9_begin_20 : decode cX9_begin 20 = .ok (.bipush 21, 2) := by decide +kernel
theorem dX9_begin_22 : decode cX9_begin 22 = .ok (.iload_n 1, 1) := by decide +kernel
theorem dX9_begin_23 : decode cX9_begin 23 = .ok (.iastore, 1) := by decide +kernel
theorem dX9_begin_24 : decode cX9_begin 24 = .ok (.aload_n 0, 1) := by decide +kernel
theorem dX9_begin_25 : decode cX9_begin 25 = .ok (.bipush 6, 2) := by decide +kernel
theorem dX9_begin_27 : decode cX9_begin 27 = .ok (.iload_n 2, 1) := by decide +kernel
theorem dX9_begin_28 : decode cX9_begin 28 = .ok (.iastore, 1) := by decide +kernel
theorem dX9_begin_29 : decode cX9_begin 29 = .ok (.aload_n 0, 1) := by decide +kernel
theorem dX9_begin_30 : decode cX9_begin 30 = .ok (.bipush 7, 2) := by decide +kernel
theorem dX9_begin_32 : decode cX9_begin 32 = .ok (.bipush 8, 2) := by decide +kernel
theorem dX9_begin_34 : decode cX9_begin 34 = .ok (.iastore, 1) := by decide +kernel
theorem dX9_begin_35 : decode cX9_begin 35 = .ok (.return_, 1) := by decide +kernel
theorem dX9_many_0 : decode cX9_many 0 = .ok (.aload_n 0, 1) := by decide +kernel
theorem dX9_many_1 : decode cX9_many 1 = .ok (.getfield 7, 3) := by decide +kernel
theorem dX9_many_4 : decode cX9_many 4 = .ok (.iconst 0, 1) := by decide +kernel
theorem dX9_many_5 : decode cX9_many 5 = .ok (.iaload, 1) := by decide +kernel
theorem dX9_many_6 : decode cX9_many 6 = .ok (.ireturn, 1) := by decide +kernel
theorem dX9_isRider_0 : decode cX9_isRider 0 = .ok (.iload_n 1, 1) := by decide +kernel
theorem dX9_isRider_1 : decode cX9_isRider 1 = .ok (.i2l, 1) := by decide +kernel
theorem dX9_isRider_2 : decode cX9_isRider 2 = .ok (.lconst 0, 1) := by decide +kernel
theorem dX9_isRider_3 : decode cX9_isRider 3 = .ok (.aload_n 0, 1) := by decide +kernel
theorem dX9_isRider_4 : decode cX9_isRider 4 = .ok (.invokevirtual 49, 3) := by decide +kernel
theorem dX9_isRider_7 : decode cX9_isRider 7 = .ok (.iconst 1, 1) := by decide +kernel
theorem dX9_isRider_8 : decode cX9_isRider 8 = .ok (.isub, 1) := by decide +kernel
theorem dX9_isRider_9 : decode cX9_isRider 9 = .ok (.i2l, 1) := by decide +kernel
theorem dX9_isRider_10 : decode cX9_isRider 10 = .ok (.invokestatic 53, 3) := by decide +kernel
theorem dX9_isRider_13 : decode cX9_isRider 13 = .ok (.ireturn, 1) := by decide +kernel
theorem dX9_isSeat_0 : decode cX9_isSeat 0 = .ok (.iload_n 1, 1) := by decide +kernel
theorem dX9_isSeat_1 : decode cX9_isSeat 1 = .ok (.i2l, 1) := by decide +kernel
theorem dX9_isSeat_2 : decode cX9_isSeat 2 = .ok (.lconst 0, 1) := by decide +kernel
theorem dX9_isSeat_3 : decode cX9_isSeat 3 = .ok (.aload_n 0, 1) := by decide +kernel
theorem dX9_isSeat_4 : decode cX9_isSeat 4 = .ok (.getfield 7, 3) := by decide +kernel
theorem dX9_isSeat_7 : decode cX9_isSeat 7 = .ok (.bipush 21, 2) := by decide +kernel
theorem dX9_isSeat_9 : decode cX9_isSeat 9 = .ok (.iaload, 1) := by decide +kernel
theorem dX9_isSeat_10 : decode cX9_isSeat 10 = .ok (.iconst 1, 1) := by decide +kernel
theorem dX9_isSeat_11 : decode cX9_isSeat 11 = .ok (.isub, 1) := by decide +kernel
theorem dX9_isSeat_12 : decode cX9_isSeat 12 = .ok (.i2l, 1) := by decide +kernel
theorem dX9_isSeat_13 : decode cX9_isSeat 13 = .ok (.invokestatic 53, 3) := by decide +kernel
theorem dX9_isSeat_16 : decode cX9_isSeat 16 = .ok (.ireturn, 1) := by decide +kernel
theorem dX9_isKind_0 : decode cX9_isKind 0 = .ok (.iload_n 0, 1) := by decide +kernel
theorem dX9_isKind_1 : decode cX9_isKind 1 = .ok (.i2l, 1) := by decide +kernel
theorem dX9_isKind_2 : decode cX9_isKind 2 = .ok (.lconst 0, 1) := by decide +kernel
theorem dX9_isKind_3 : decode cX9_isKind 3 = .ok (.ldc2_w 57, 3) := by decide +kernel
theorem dX9_isKind_6 : decode cX9_isKind 6 = .ok (.invokestatic 53, 3) := by decide +kernel
theorem dX9_isKind_9 : decode cX9_isKind 9 = .ok (.ireturn, 1) := by decide +kernel
theorem dX9_isSpeed_0 : decode cX9_isSpeed 0 = .ok (.iload_n 0, 1) := by decide +kernel
theorem dX9_isSpeed_1 : decode cX9_isSpeed 1 = .ok (.i2l, 1) := by decide +kernel
theorem dX9_isSpeed_2 : decode cX9_isSpeed 2 = .ok (.lconst 0, 1) := by decide +kernel
theorem dX9_isSpeed_3 : decode cX9_isSpeed 3 = .ok (.ldc2_w 59, 3) := by decide +kernel
theorem dX9_isSpeed_6 : decode cX9_isSpeed 6 = .ok (.invokestatic 53, 3) := by decide +kernel
theorem dX9_isSpeed_9 : decode cX9_isSpeed 9 = .ok (.ireturn, 1) := by decide +kernel
theorem dX9_isPhase_0 : decode cX9_isPhase 0 = .ok (.iload_n 0, 1) := by decide +kernel
theorem dX9_isPhase_1 : decode cX9_isPhase 1 = .ok (.i2l, 1) := by decide +kernel
theorem dX9_isPhase_2 : decode cX9_isPhase 2 = .ok (.lconst 0, 1) := by decide +kernel
theorem dX9_isPhase_3 : decode cX9_isPhase 3 = .ok (.ldc2_w 61, 3) := by decide +kernel
theorem dX9_isPhase_6 : decode cX9_isPhase 6 = .ok (.invokestatic 53, 3) := by decide +kernel
theorem dX9_isPhase_9 : decode cX9_isPhase 9 = .ok (.ireturn, 1) := by decide +kernel
theorem dX9_isArm_0 : decode cX9_isArm 0 = .ok (.iload_n 0, 1) := by decide +kernel
theorem dX9_isArm_1 : decode cX9_isArm 1 = .ok (.i2l, 1) := by decide +kernel
theorem dX9_isArm_2 : decode cX9_isArm 2 = .ok (.lconst 1, 1) := by decide +kernel
theorem dX9_isArm_3 : decode cX9_isArm 3 = .ok (.ldc2_w 63, 3) := by decide +kernel
theorem dX9_isArm_6 : decode cX9_isArm 6 = .ok (.invokestatic 53, 3) := by decide +kernel
theorem dX9_isArm_9 : decode cX9_isArm 9 = .ok (.ireturn, 1) := by decide +kernel
theorem dX9_round_0 : decode cX9_round 0 = .ok (.iload_n 1, 1) := by decide +kernel
theorem dX9_round_1 : decode cX9_round 1 = .ok (.i2l, 1) := by decide +kernel
theorem dX9_round_2 : decode cX9_round 2 = .ok (.ldc2_w 65, 3) := by decide +kernel
theorem dX9_round_5 : decode cX9_round 5 = .ok (.ldc2_w 67, 3) := by decide +kernel
theorem dX9_round_8 : decode cX9_round 8 = .ok (.invokestatic 53, 3) := by decide +kernel
theorem dX9_round_11 : decode cX9_round 11 = .ok (.ifCond .eq 10, 3) := by decide +kernel
theorem dX9_round_14 : decode cX9_round 14 = .ok (.iload_n 2, 1) := by decide +kernel
theorem dX9_round_15 : decode cX9_round 15 = .ok (.invokestatic 69, 3) := by decide +kernel
theorem dX9_round_18 : decode cX9_round 18 = .ok (.ifCond .ne 10, 3) := by decide +kernel
theorem dX9_round_21 : decode cX9_round 21 = .ok (.aload_n 0, 1) := by decide +kernel
theorem dX9_round_22 : decode cX9_round 22 = .ok (.bipush (-2), 2) := by decide +kernel
theorem dX9_round_24 : decode cX9_round 24 = .ok (.invokevirtual 73, 3) := by decide +kernel
theorem dX9_round_27 : decode cX9_round 27 = .ok (.ireturn, 1) := by decide +kernel
theorem dX9_round_28 : decode cX9_round 28 = .ok (.aload_n 0, 1) := by decide +kernel
theorem dX9_round_29 : decode cX9_round 29 = .ok (.invokevirtual 49, 3) := by decide +kernel
theorem dX9_round_32 : decode cX9_round 32 = .ok (.istore_n 3, 1) := by decide +kernel
theorem dX9_round_33 : decode cX9_round 33 = .ok (.aload_n 0, 1) := by decide +kernel
theorem dX9_round_34 : decode cX9_round 34 = .ok (.getfield 7, 3) := by decide +kernel
theorem dX9_round_37 : decode cX9_round 37 = .ok (.iload_n 1, 1) := by decide +kernel
theorem dX9_round_38 : decode cX9_round 38 = .ok (.iload_n 2, 1) := by decide +kernel
theorem dX9_round_39 : decode cX9_round 39 = .ok (.invokestatic 45, 3) := by decide +kernel
theorem dX9_round_42 : decode cX9_round 42 = .ok (.iload_n 3, 1) := by decide +kernel
theorem dX9_round_43 : decode cX9_round 43 = .ok (.ireturn, 1) := by decide +kernel
theorem dX9_horse_0 : decode cX9_horse 0 = .ok (.aload_n 0, 1) := by decide +kernel
theorem dX9_horse_1 : decode cX9_horse 1 = .ok (.iload_n 1, 1) := by decide +kernel
theorem dX9_horse_2 : decode cX9_horse 2 = .ok (.invokevirtual 77, 3) := by decide +kernel
theorem dX9_horse_5 : decode cX9_horse 5 = .ok (.ifCond .eq 17, 3) := by decide +kernel
theorem dX9_horse_8 : decode cX9_horse 8 = .ok (.iload_n 2, 1) := by decide +kernel
theorem dX9_horse_9 : decode cX9_horse 9 = .ok (.invokestatic 80, 3) := by decide +kernel
theorem dX9_horse_12 : decode cX9_horse 12 = .ok (.ifCond .eq 10, 3) := by decide +kernel
theorem dX9_horse_15 : decode cX9_horse 15 = .ok (.iload_n 3, 1) := by decide +kernel
theorem dX9_horse_16 : decode cX9_horse 16 = .ok (.invokestatic 83, 3) := by decide +kernel
theorem dX9_horse_19 : decode cX9_horse 19 = .ok (.ifCond .ne 10, 3) := by decide +kernel
theorem dX9_horse_22 : decode cX9_horse 22 = .ok (.aload_n 0, 1) := by decide +kernel
theorem dX9_horse_23 : decode cX9_horse 23 = .ok (.bipush (-2), 2) := by decide +kernel
theorem dX9_horse_25 : decode cX9_horse 25 = .ok (.invokevirtual 73, 3) := by decide +kernel
theorem dX9_horse_28 : decode cX9_horse 28 = .ok (.ireturn, 1) := by decide +kernel
theorem dX9_horse_29 : decode cX9_horse 29 = .ok (.aload_n 0, 1) := by decide +kernel
theorem dX9_horse_30 : decode cX9_horse 30 = .ok (.getfield 7, 3) := by decide +kernel
theorem dX9_horse_33 : decode cX9_horse 33 = .ok (.bipush 34, 2) := by decide +kernel
theorem dX9_horse_35 : decode cX9_horse 35 = .ok (.iload_n 1, 1) := by decide +kernel
theorem dX9_horse_36 : decode cX9_horse 36 = .ok (.iadd, 1) := by decide +kernel
theorem dX9_horse_37 : decode cX9_horse 37 = .ok (.iaload, 1) := by decide +kernel
theorem dX9_horse_38 : decode cX9_horse 38 = .ok (.istore 4, 2) := by decide +kernel
theorem dX9_horse_40 : decode cX9_horse 40 = .ok (.aload_n 0, 1) := by decide +kernel
theorem dX9_horse_41 : decode cX9_horse 41 = .ok (.getfield 7, 3) := by decide +kernel
theorem dX9_horse_44 : decode cX9_horse 44 = .ok (.bipush 34, 2) := by decide +kernel
theorem dX9_horse_46 : decode cX9_horse 46 = .ok (.iload_n 1, 1) := by decide +kernel
theorem dX9_horse_47 : decode cX9_horse 47 = .ok (.iadd, 1) := by decide +kernel
theorem dX9_horse_48 : decode cX9_horse 48 = .ok (.iload_n 2, 1) := by decide +kernel
theorem dX9_horse_49 : decode cX9_horse 49 = .ok (.iastore, 1) := by decide +kernel
theorem dX9_horse_50 : decode cX9_horse 50 = .ok (.aload_n 0, 1) := by decide +kernel
theorem dX9_horse_51 : decode cX9_horse 51 = .ok (.getfield 7, 3) := by decide +kernel
theorem dX9_horse_54 : decode cX9_horse 54 = .ok (.bipush 46, 2) := by decide +kernel
theorem dX9_horse_56 : decode cX9_horse 56 = .ok (.iload_n 1, 1) := by decide +kernel
theorem dX9_horse_57 : decode cX9_horse 57 = .ok (.iadd, 1) := by decide +kernel
theorem dX9_horse_58 : decode cX9_horse 58 = .ok (.iload_n 3, 1) := by decide +kernel
theorem dX9_horse_59 : decode cX9_horse 59 = .ok (.iastore, 1) := by decide +kernel
theorem dX9_horse_60 : decode cX9_horse 60 = .ok (.aload_n 0, 1) := by decide +kernel
theorem dX9_horse_61 : decode cX9_horse 61 = .ok (.getfield 7, 3) := by decide +kernel
theorem dX9_horse_64 : decode cX9_horse 64 = .ok (.iconst 4, 1) := by decide +kernel
theorem dX9_horse_65 : decode cX9_horse 65 = .ok (.iconst 0, 1) := by decide +kernel
theorem dX9_horse_66 : decode cX9_horse 66 = .ok (.iastore, 1) := by decide +kernel
theorem dX9_horse_67 : decode cX9_horse 67 = .ok (.iload 4, 2) := by decide +kernel
theorem dX9_horse_69 : decode cX9_horse 69 = .ok (.ireturn, 1) := by decide +kernel
theorem dX9_whoIs_0 : decode cX9_whoIs 0 = .ok (.iconst (-1), 1) := by decide +kernel
theorem dX9_whoIs_1 : decode cX9_whoIs 1 = .ok (.istore_n 2, 1) := by decide +kernel
theorem dX9_whoIs_2 : decode cX9_whoIs 2 = .ok (.iconst 0, 1) := by decide +kernel
theorem dX9_whoIs_3 : decode cX9_whoIs 3 = .ok (.istore_n 3, 1) := by decide +kernel
theorem dX9_whoIs_4 : decode cX9_whoIs 4 = .ok (.iload_n 3, 1) := by decide +kernel
theorem dX9_whoIs_5 : decode cX9_whoIs 5 = .ok (.aload_n 0, 1) := by decide +kernel
theorem dX9_whoIs_6 : decode cX9_whoIs 6 = .ok (.iconst 0, 1) := by decide +kernel
theorem dX9_whoIs_7 : decode cX9_whoIs 7 = .ok (.iaload, 1) := by decide +kernel
theorem dX9_whoIs_8 : decode cX9_whoIs 8 = .ok (.if_icmp .ge 25, 3) := by decide +kernel
theorem dX9_whoIs_11 : decode cX9_whoIs 11 = .ok (.aload_n 0, 1) := by decide +kernel
theorem dX9_whoIs_12 : decode cX9_whoIs 12 = .ok (.bipush 15, 2) := by decide +kernel
theorem dX9_whoIs_14 : decode cX9_whoIs 14 = .ok (.iload_n 3, 1) := by decide +kernel
theorem dX9_whoIs_15 : decode cX9_whoIs 15 = .ok (.iadd, 1) := by decide +kernel
theorem dX9_whoIs_16 : decode cX9_whoIs 16 = .ok (.iaload, 1) := by decide +kernel
theorem dX9_whoIs_17 : decode cX9_whoIs 17 = .ok (.iload_n 1, 1) := by decide +kernel
theorem dX9_whoIs_18 : decode cX9_whoIs 18 = .ok (.if_icmp .ne 7, 3) := by decide +kernel
theorem dX9_whoIs_21 : decode cX9_whoIs 21 = .ok (.iload_n 3, 1) := by decide +kernel
theorem dX9_whoIs_22 : decode cX9_whoIs 22 = .ok (.goto 4, 3) := by decide +kernel
theorem dX9_whoIs_25 : decode cX9_whoIs 25 = .ok (.iload_n 2, 1) := by decide +kernel
theorem dX9_whoIs_26 : decode cX9_whoIs 26 = .ok (.istore_n 2, 1) := by decide +kernel
theorem dX9_whoIs_27 : decode cX9_whoIs 27 = .ok (.iinc 3 1, 3) := by decide +kernel
theorem dX9_whoIs_30 : decode cX9_whoIs 30 = .ok (.goto (-26), 3) := by decide +kernel
theorem dX9_whoIs_33 : decode cX9_whoIs 33 = .ok (.iload_n 2, 1) := by decide +kernel
theorem dX9_whoIs_34 : decode cX9_whoIs 34 = .ok (.ireturn, 1) := by decide +kernel
theorem dX9_layRider_0 : decode cX9_layRider 0 = .ok (.aload_n 0, 1) := by decide +kernel
theorem dX9_layRider_1 : decode cX9_layRider 1 = .ok (.iconst 0, 1) := by decide +kernel
theorem dX9_layRider_2 : decode cX9_layRider 2 = .ok (.iaload, 1) := by decide +kernel
theorem dX9_layRider_3 : decode cX9_layRider 3 = .ok (.istore 4, 2) := by decide +kernel
theorem dX9_layRider_5 : decode cX9_layRider 5 = .ok (.aload_n 0, 1) := by decide +kernel
theorem dX9_layRider_6 : decode cX9_layRider 6 = .ok (.bipush 22, 2) := by decide +kernel
theorem dX9_layRider_8 : decode cX9_layRider 8 = .ok (.iload 4, 2) := by decide +kernel
theorem dX9_layRider_10 : decode cX9_layRider 10 = .ok (.iadd, 1) := by decide +kernel
theorem dX9_layRider_11 : decode cX9_layRider 11 = .ok (.iload_n 1, 1) := by decide +kernel
theorem dX9_layRider_12 : decode cX9_layRider 12 = .ok (.iastore, 1) := by decide +kernel
theorem dX9_layRider_13 : decode cX9_layRider 13 = .ok (.aload_n 0, 1) := by decide +kernel
theorem dX9_layRider_14 : decode cX9_layRider 14 = .ok (.bipush 28, 2) := by decide +kernel
theorem dX9_layRider_16 : decode cX9_layRider 16 = .ok (.iload 4, 2) := by decide +kernel
theorem dX9_layRider_18 : decode cX9_layRider 18 = .ok (.iadd, 1) := by decide +kernel
theorem dX9_layRider_19 : decode cX9_layRider 19 = .ok (.iload_n 2, 1) := by decide +kernel
theorem dX9_layRider_20 : decode cX9_layRider 20 = .ok (.iastore, 1) := by decide +kernel
theorem dX9_layRider_21 : decode cX9_layRider 21 = .ok (.aload_n 0, 1) := by decide +kernel
theorem dX9_layRider_22 : decode cX9_layRider 22 = .ok (.bipush 15, 2) := by decide +kernel
theorem dX9_layRider_24 : decode cX9_layRider 24 = .ok (.iload 4, 2) := by decide +kernel
theorem dX9_layRider_26 : decode cX9_layRider 26 = .ok (.iadd, 1) := by decide +kernel
theorem dX9_layRider_27 : decode cX9_layRider 27 = .ok (.iload_n 3, 1) := by decide +kernel
theorem dX9_layRider_28 : decode cX9_layRider 28 = .ok (.iastore, 1) := by decide +kernel
theorem dX9_layRider_29 : decode cX9_layRider 29 = .ok (.aload_n 0, 1) := by decide +kernel
theorem dX9_layRider_30 : decode cX9_layRider 30 = .ok (.bipush 9, 2) := by decide +kernel
theorem dX9_layRider_32 : decode cX9_layRider 32 = .ok (.iload 4, 2) := by decide +kernel
theorem dX9_layRider_34 : decode cX9_layRider 34 = .ok (.iadd, 1) := by decide +kernel
theorem dX9_layRider_35 : decode cX9_layRider 35 = .ok (.iconst 0, 1) := by decide +kernel
theorem dX9_layRider_36 : decode cX9_layRider 36 = .ok (.iastore, 1) := by decide +kernel
theorem dX9_layRider_37 : decode cX9_layRider 37 = .ok (.aload_n 0, 1) := by decide +kernel
theorem dX9_layRider_38 : decode cX9_layRider 38 = .ok (.iconst 0, 1) := by decide +kernel
theorem dX9_layRider_39 : decode cX9_layRider 39 = .ok (.dup2, 1) := by decide +kernel
theorem dX9_layRider_40 : decode cX9_layRider 40 = .ok (.iaload, 1) := by decide +kernel
theorem dX9_layRider_41 : decode cX9_layRider 41 = .ok (.iconst 1, 1) := by decide +kernel
theorem dX9_layRider_42 : decode cX9_layRider 42 = .ok (.iadd, 1) := by decide +kernel
theorem dX9_layRider_43 : decode cX9_layRider 43 = .ok (.iastore, 1) := by decide +kernel
theorem dX9_layRider_44 : decode cX9_layRider 44 = .ok (.return_, 1) := by decide +kernel
theorem dX9_rider_0 : decode cX9_rider 0 = .ok (.iload_n 1, 1) := by decide +kernel
theorem dX9_rider_1 : decode cX9_rider 1 = .ok (.invokestatic 80, 3) := by decide +kernel
theorem dX9_rider_4 : decode cX9_rider 4 = .ok (.ifCond .eq 18, 3) := by decide +kernel
theorem dX9_rider_7 : decode cX9_rider 7 = .ok (.iload_n 2, 1) := by decide +kernel
theorem dX9_rider_8 : decode cX9_rider 8 = .ok (.invokestatic 86, 3) := by decide +kernel
theorem dX9_rider_11 : decode cX9_rider 11 = .ok (.ifCond .eq 11, 3) := by decide +kernel
theorem dX9_rider_14 : decode cX9_rider 14 = .ok (.aload_n 0, 1) := by decide +kernel
theorem dX9_rider_15 : decode cX9_rider 15 = .ok (.iload_n 3, 1) := by decide +kernel
theorem dX9_rider_16 : decode cX9_rider 16 = .ok (.invokevirtual 77, 3) := by decide +kernel
theorem dX9_rider_19 : decode cX9_rider 19 = .ok (.ifCond .ne 10, 3) := by decide +kernel
theorem dX9_rider_22 : decode cX9_rider 22 = .ok (.aload_n 0, 1) := by decide +kernel
theorem dX9_rider_23 : decode cX9_rider 23 = .ok (.bipush (-2), 2) := by decide +kernel
theorem dX9_rider_25 : decode cX9_rider 25 = .ok (.invokevirtual 73, 3) := by decide +kernel
theorem dX9_rider_28 : decode cX9_rider 28 = .ok (.ireturn, 1) := by decide +kernel
theorem dX9_rider_29 : decode cX9_rider 29 = .ok (.aload_n 0, 1) := by decide +kernel
theorem dX9_rider_30 : decode cX9_rider 30 = .ok (.getfield 7, 3) := by decide +kernel
theorem dX9_rider_33 : decode cX9_rider 33 = .ok (.iload_n 3, 1) := by decide +kernel
theorem dX9_rider_34 : decode cX9_rider 34 = .ok (.invokestatic 89, 3) := by decide +kernel
theorem dX9_rider_37 : decode cX9_rider 37 = .ok (.iconst (-1), 1) := by decide +kernel
theorem dX9_rider_38 : decode cX9_rider 38 = .ok (.if_icmp .eq 8, 3) := by decide +kernel
theorem dX9_rider_41 : decode cX9_rider 41 = .ok (.aload_n 0, 1) := by decide +kernel
theorem dX9_rider_42 : decode cX9_rider 42 = .ok (.invokevirtual 93, 3) := by decide +kernel
theorem dX9_rider_45 : decode cX9_rider 45 = .ok (.ireturn, 1) := by decide +kernel
theorem dX9_rider_46 : decode cX9_rider 46 = .ok (.aload_n 0, 1) := by decide +kernel
theorem dX9_rider_47 : decode cX9_rider 47 = .ok (.invokevirtual 49, 3) := by decide +kernel
theorem dX9_rider_50 : decode cX9_rider 50 = .ok (.bipush 6, 2) := by decide +kernel
theorem dX9_rider_52 : decode cX9_rider 52 = .ok (.if_icmp .ne 8, 3) := by decide +kernel
theorem dX9_rider_55 : decode cX9_rider 55 = .ok (.aload_n 0, 1) := by decide +kernel
theorem dX9_rider_56 : decode cX9_rider 56 = .ok (.invokevirtual 96, 3) := by decide +kernel
theorem dX9_rider_59 : decode cX9_rider 59 = .ok (.ireturn, 1) := by decide +kernel
theorem dX9_rider_60 : decode cX9_rider 60 = .ok (.aload_n 0, 1) := by decide +kernel
theorem dX9_rider_61 : decode cX9_rider 61 = .ok (.getfield 7, 3) := by decide +kernel
theorem dX9_rider_64 : decode cX9_rider 64 = .ok (.iload_n 1, 1) := by decide +kernel
theorem dX9_rider_65 : decode cX9_rider 65 = .ok (.iload_n 2, 1) := by decide +kernel
theorem dX9_rider_66 : decode cX9_rider 66 = .ok (.iload_n 3, 1) := by decide +kernel
theorem dX9_rider_67 : decode cX9_rider 67 = .ok (.invokestatic 99, 3) := by decide +kernel
theorem dX9_rider_70 : decode cX9_rider 70 = .ok (.aload_n 0, 1) := by decide +kernel
theorem dX9_rider_71 : decode cX9_rider 71 = .ok (.getfield 7, 3) := by decide +kernel
theorem dX9_rider_74 : decode cX9_rider 74 = .ok (.iconst 4, 1) := by decide +kernel
theorem dX9_rider_75 : decode cX9_rider 75 = .ok (.iconst 0, 1) := by decide +kernel
theorem dX9_rider_76 : decode cX9_rider 76 = .ok (.iastore, 1) := by decide +kernel
theorem dX9_rider_77 : decode cX9_rider 77 = .ok (.aload_n 0, 1) := by decide +kernel
theorem dX9_rider_78 : decode cX9_rider 78 = .ok (.invokevirtual 49, 3) := by decide +kernel
theorem dX9_rider_81 : decode cX9_rider 81 = .ok (.iconst 1, 1) := by decide +kernel
theorem dX9_rider_82 : decode cX9_rider 82 = .ok (.isub, 1) := by decide +kernel
theorem dX9_rider_83 : decode cX9_rider 83 = .ok (.ireturn, 1) := by decide +kernel
theorem dX9_highAs_0 : decode cX9_highAs 0 = .ok (.iload_n 2, 1) := by decide +kernel
theorem dX9_highAs_1 : decode cX9_highAs 1 = .ok (.iload_n 1, 1) := by decide +kernel
theorem dX9_highAs_2 : decode cX9_highAs 2 = .ok (.iadd, 1) := by decide +kernel
theorem dX9_highAs_3 : decode cX9_highAs 3 = .ok (.bipush 8, 2) := by decide +kernel
theorem dX9_highAs_5 : decode cX9_highAs 5 = .ok (.irem, 1) := by decide +kernel
theorem dX9_highAs_6 : decode cX9_highAs 6 = .ok (.istore 4, 2) := by decide +kernel
theorem dX9_highAs_8 : decode cX9_highAs 8 = .ok (.iload 4, 2) := by decide +kernel
theorem dX9_highAs_10 : decode cX9_highAs 10 = .ok (.iconst 4, 1) := by decide +kernel
theorem dX9_highAs_11 : decode cX9_highAs 11 = .ok (.if_icmp .gt 10, 3) := by decide +kernel
theorem dX9_highAs_14 : decode cX9_highAs 14 = .ok (.iconst 3, 1) := by decide +kernel
theorem dX9_highAs_15 : decode cX9_highAs 15 = .ok (.iload 4, 2) := by decide +kernel
theorem dX9_highAs_17 : decode cX9_highAs 17 = .ok (.iadd, 1) := by decide +kernel
theorem dX9_highAs_18 : decode cX9_highAs 18 = .ok (.goto 8, 3) := by decide +kernel
theorem dX9_highAs_21 : decode cX9_highAs 21 = .ok (.bipush 11, 2) := by decide +kernel
theorem dX9_highAs_23 : decode cX9_highAs 23 = .ok (.iload 4, 2) := by decide +kernel
theorem dX9_highAs_25 : decode cX9_highAs 25 = .ok (.isub, 1) := by decide +kernel
theorem dX9_highAs_26 : decode cX9_highAs 26 = .ok (.istore 5, 2) := by decide +kernel
theorem dX9_highAs_28 : decode cX9_highAs 28 = .ok (.iload_n 0, 1) := by decide +kernel
theorem dX9_highAs_29 : decode cX9_highAs 29 = .ok (.tableswitch 66 1 5 #[35, 38, 50, 54, 59], 35) := by decide +kernel
theorem dX9_highAs_64 : decode cX9_highAs 64 = .ok (.iload 5, 2) := by decide +kernel
theorem dX9_highAs_66 : decode cX9_highAs 66 = .ok (.ireturn, 1) := by decide +kernel
theorem dX9_highAs_67 : decode cX9_highAs 67 = .ok (.iload 4, 2) := by decide +kernel
theorem dX9_highAs_69 : decode cX9_highAs 69 = .ok (.iconst 4, 1) := by decide +kernel
theorem dX9_highAs_70 : decode cX9_highAs 70 = .ok (.if_icmp .lt 7, 3) := by decide +kernel
theorem dX9_highAs_73 : decode cX9_highAs 73 = .ok (.iconst 5, 1) := by decide +kernel
theorem dX9_highAs_74 : decode cX9_highAs 74 = .ok (.goto 4, 3) := by decide +kernel
theorem dX9_highAs_77 : decode cX9_highAs 77 = .ok (.iconst 3, 1) := by decide +kernel
theorem dX9_highAs_78 : decode cX9_highAs 78 = .ok (.ireturn, 1) := by decide +kernel
theorem dX9_highAs_79 : decode cX9_highAs 79 = .ok (.iconst 3, 1) := by decide +kernel
theorem dX9_highAs_80 : decode cX9_highAs 80 = .ok (.iload_n 3, 1) := by decide +kernel
theorem dX9_highAs_81 : decode cX9_highAs 81 = .ok (.isub, 1) := by decide +kernel
theorem dX9_highAs_82 : decode cX9_highAs 82 = .ok (.ireturn, 1) := by decide +kernel
theorem dX9_highAs_83 : decode cX9_highAs 83 = .ok (.iload 5, 2) := by decide +kernel
theorem dX9_highAs_85 : decode cX9_highAs 85 = .ok (.iload_n 3, 1) := by decide +kernel
theorem dX9_highAs_86 : decode cX9_highAs 86 = .ok (.iadd, 1) := by decide +kernel
theorem dX9_highAs_87 : decode cX9_highAs 87 = .ok (.ireturn, 1) := by decide +kernel
theorem dX9_highAs_88 : decode cX9_highAs 88 = .ok (.iload 5, 2) := by decide +kernel
theorem dX9_highAs_90 : decode cX9_highAs 90 = .ok (.iconst 1, 1) := by decide +kernel
theorem dX9_highAs_91 : decode cX9_highAs 91 = .ok (.iadd, 1) := by decide +kernel
theorem dX9_highAs_92 : decode cX9_highAs 92 = .ok (.iconst 2, 1) := by decide +kernel
theorem dX9_highAs_93 : decode cX9_highAs 93 = .ok (.idiv, 1) := by decide +kernel
theorem dX9_highAs_94 : decode cX9_highAs 94 = .ok (.ireturn, 1) := by decide +kernel
theorem dX9_highAs_95 : decode cX9_highAs 95 = .ok (.iconst 3, 1) := by decide +kernel
theorem dX9_highAs_96 : decode cX9_highAs 96 = .ok (.ireturn, 1) := by decide +kernel
theorem dX9_reachAs_0 : decode cX9_reachAs 0 = .ok (.iload_n 1, 1) := by decide +kernel
theorem dX9_reachAs_1 : decode cX9_reachAs 1 = .ok (.iload_n 2, 1) := by decide +kernel
theorem dX9_reachAs_2 : decode cX9_reachAs 2 = .ok (.iadd, 1) := by decide +kernel
theorem dX9_reachAs_3 : decode cX9_reachAs 3 = .ok (.istore 4, 2) := by decide +kernel
theorem dX9_reachAs_5 : decode cX9_reachAs 5 = .ok (.iload 4, 2) := by decide +kernel
theorem dX9_reachAs_7 : decode cX9_reachAs 7 = .ok (.iconst 3, 1) := by decide +kernel
theorem dX9_reachAs_8 : decode cX9_reachAs 8 = .ok (.iadd, 1) := by decide +kernel
theorem dX9_reachAs_9 : decode cX9_reachAs 9 = .ok (.istore 5, 2) := by decide +kernel
theorem dX9_reachAs_11 : decode cX9_reachAs 11 = .ok (.iload_n 0, 1) := by decide +kernel
theorem dX9_reachAs_12 : decode cX9_reachAs 12 = .ok (.tableswitch 89 1 5 #[36, 41, 44, 60, 75], 36) := by decide +kernel
theorem dX9_reachAs_48 : decode cX9_reachAs 48 = .ok (.iload 4, 2) := by decide +kernel
theorem dX9_reachAs_50 : decode cX9_reachAs 50 = .ok (.iconst 2, 1) := by decide +kernel
theorem dX9_reachAs_51 : decode cX9_reachAs 51 = .ok (.idiv, 1) := by decide +kernel
theorem dX9_reachAs_52 : decode cX9_reachAs 52 = .ok (.ireturn, 1) := by decide +kernel
theorem dX9_reachAs_53 : decode cX9_reachAs 53 = .ok (.iload 5, 2) := by decide +kernel
theorem dX9_reachAs_55 : decode cX9_reachAs 55 = .ok (.ireturn, 1) := by decide +kernel
theorem dX9_reachAs_56 : decode cX9_reachAs 56 = .ok (.iload 4, 2) := by decide +kernel
theorem dX9_reachAs_58 : decode cX9_reachAs 58 = .ok (.iconst 2, 1) := by decide +kernel
theorem dX9_reachAs_59 : decode cX9_reachAs 59 = .ok (.idiv, 1) := by decide +kernel
theorem dX9_reachAs_60 : decode cX9_reachAs 60 = .ok (.iload_n 3, 1) := by decide +kernel
theorem dX9_reachAs_61 : decode cX9_reachAs 61 = .ok (.iconst 5, 1) := by decide +kernel
theorem dX9_reachAs_62 : decode cX9_reachAs 62 = .ok (.if_icmp .le 7, 3) := by decide +kernel
theorem dX9_reachAs_65 : decode cX9_reachAs 65 = .ok (.iconst 5, 1) := by decide +kernel
theorem dX9_reachAs_66 : decode cX9_reachAs 66 = .ok (.goto 4, 3) := by decide +kernel
theorem dX9_reachAs_69 : decode cX9_reachAs 69 = .ok (.iload_n 3, 1) := by decide +kernel
theorem dX9_reachAs_70 : decode cX9_reachAs 70 = .ok (.iadd, 1) := by decide +kernel
theorem dX9_reachAs_71 : decode cX9_reachAs 71 = .ok (.ireturn, 1) := by decide +kernel
theorem dX9_reachAs_72 : decode cX9_reachAs 72 = .ok (.iload 5, 2) := by decide +kernel
theorem dX9_reachAs_74 : decode cX9_reachAs 74 = .ok (.iload_n 3, 1) := by decide +kernel
theorem dX9_reachAs_75 : decode cX9_reachAs 75 = .ok (.if_icmp .le 10, 3) := by decide +kernel
theorem dX9_reachAs_78 : decode cX9_reachAs 78 = .ok (.iload 5, 2) := by decide +kernel
theorem dX9_reachAs_80 : decode cX9_reachAs 80 = .ok (.iload_n 3, 1) := by decide +kernel
theorem dX9_reachAs_81 : decode cX9_reachAs 81 = .ok (.isub, 1) := by decide +kernel
theorem dX9_reachAs_82 : decode cX9_reachAs 82 = .ok (.goto 4, 3) := by decide +kernel
theorem dX9_reachAs_85 : decode cX9_reachAs 85 = .ok (.iconst 0, 1) := by decide +kernel
theorem dX9_reachAs_86 : decode cX9_reachAs 86 = .ok (.ireturn, 1) := by decide +kernel
theorem dX9_reachAs_87 : decode cX9_reachAs 87 = .ok (.iload_n 3, 1) := by decide +kernel
theorem dX9_reachAs_88 : decode cX9_reachAs 88 = .ok (.ifCond .ne 10, 3) := by decide +kernel
theorem dX9_reachAs_91 : decode cX9_reachAs 91 = .ok (.iconst 2, 1) := by decide +kernel
theorem dX9_reachAs_92 : decode cX9_reachAs 92 = .ok (.iload 4, 2) := by decide +kernel
theorem dX9_reachAs_94 : decode cX9_reachAs 94 = .ok (.imul, 1) := by decide +kernel
theorem dX9_reachAs_95 : decode cX9_reachAs 95 = .ok (.goto 5, 3) := by decide +kernel
theorem dX9_reachAs_98 : decode cX9_reachAs 98 = .ok (.iload 4, 2) := by decide +kernel
theorem dX9_reachAs_100 : decode cX9_reachAs 100 = .ok (.ireturn, 1) := by decide +kernel
theorem dX9_reachAs_101 : decode cX9_reachAs 101 = .ok (.iload 4, 2) := by decide +kernel
theorem dX9_reachAs_103 : decode cX9_reachAs 103 = .ok (.ireturn, 1) := by decide +kernel
theorem dX9_highOf_0 : decode cX9_highOf 0 = .ok (.aload_n 0, 1) := by decide +kernel
theorem dX9_highOf_1 : decode cX9_highOf 1 = .ok (.bipush 34, 2) := by decide +kernel
theorem dX9_highOf_3 : decode cX9_highOf 3 = .ok (.iload_n 1, 1) := by decide +kernel
theorem dX9_highOf_4 : decode cX9_highOf 4 = .ok (.iadd, 1) := by decide +kernel
theorem dX9_highOf_5 : decode cX9_highOf 5 = .ok (.iaload, 1) := by decide +kernel
theorem dX9_highOf_6 : decode cX9_highOf 6 = .ok (.aload_n 0, 1) := by decide +kernel
theorem dX9_highOf_7 : decode cX9_highOf 7 = .ok (.bipush 46, 2) := by decide +kernel
theorem dX9_highOf_9 : decode cX9_highOf 9 = .ok (.iload_n 1, 1) := by decide +kernel
theorem dX9_highOf_10 : decode cX9_highOf 10 = .ok (.iadd, 1) := by decide +kernel
theorem dX9_highOf_11 : decode cX9_highOf 11 = .ok (.iaload, 1) := by decide +kernel
theorem dX9_highOf_12 : decode cX9_highOf 12 = .ok (.aload_n 0, 1) := by decide +kernel
theorem dX9_highOf_13 : decode cX9_highOf 13 = .ok (.bipush 8, 2) := by decide +kernel
theorem dX9_highOf_15 : decode cX9_highOf 15 = .ok (.iaload, 1) := by decide +kernel
theorem dX9_highOf_16 : decode cX9_highOf 16 = .ok (.aload_n 0, 1) := by decide +kernel
theorem dX9_highOf_17 : decode cX9_highOf 17 = .ok (.bipush 6, 2) := by decide +kernel
theorem dX9_highOf_19 : decode cX9_highOf 19 = .ok (.iaload, 1) := by decide +kernel
theorem dX9_highOf_20 : decode cX9_highOf 20 = .ok (.invokestatic 103, 3) := by decide +kernel
theorem dX9_highOf_23 : decode cX9_highOf 23 = .ok (.ireturn, 1) := by decide +kernel
theorem dX9_reachOf_0 : decode cX9_reachOf 0 = .ok (.aload_n 0, 1) := by decide +kernel
theorem dX9_reachOf_1 : decode cX9_reachOf 1 = .ok (.bipush 22, 2) := by decide +kernel
theorem dX9_reachOf_3 : decode cX9_reachOf 3 = .ok (.iload_n 1, 1) := by decide +kernel
theorem dX9_reachOf_4 : decode cX9_reachOf 4 = .ok (.iadd, 1) := by decide +kernel
theorem dX9_reachOf_5 : decode cX9_reachOf 5 = .ok (.iaload, 1) := by decide +kernel
theorem dX9_reachOf_6 : decode cX9_reachOf 6 = .ok (.aload_n 0, 1) := by decide +kernel
theorem dX9_reachOf_7 : decode cX9_reachOf 7 = .ok (.bipush 28, 2) := by decide +kernel
theorem dX9_reachOf_9 : decode cX9_reachOf 9 = .ok (.iload_n 1, 1) := by decide +kernel
theorem dX9_reachOf_10 : decode cX9_reachOf 10 = .ok (.iadd, 1) := by decide +kernel
theorem dX9_reachOf_11 : decode cX9_reachOf 11 = .ok (.iaload, 1) := by decide +kernel
theorem dX9_reachOf_12 : decode cX9_reachOf 12 = .ok (.aload_n 0, 1) := by decide +kernel
theorem dX9_reachOf_13 : decode cX9_reachOf 13 = .ok (.aload_n 0, 1) := by decide +kernel
theorem dX9_reachOf_14 : decode cX9_reachOf 14 = .ok (.bipush 15, 2) := by decide +kernel
theorem dX9_reachOf_16 : decode cX9_reachOf 16 = .ok (.iload_n 1, 1) := by decide +kernel
theorem dX9_reachOf_17 : decode cX9_reachOf 17 = .ok (.iadd, 1) := by decide +kernel
theorem dX9_reachOf_18 : decode cX9_reachOf 18 = .ok (.iaload, 1) := by decide +kernel
theorem dX9_reachOf_19 : decode cX9_reachOf 19 = .ok (.invokestatic 107, 3) := by decide +kernel
theorem dX9_reachOf_22 : decode cX9_reachOf 22 = .ok (.aload_n 0, 1) := by decide +kernel
theorem dX9_reachOf_23 : decode cX9_reachOf 23 = .ok (.bipush 9, 2) := by decide +kernel
theorem dX9_reachOf_25 : decode cX9_reachOf 25 = .ok (.iload_n 1, 1) := by decide +kernel
theorem dX9_reachOf_26 : decode cX9_reachOf 26 = .ok (.iadd, 1) := by decide +kernel
theorem dX9_reachOf_27 : decode cX9_reachOf 27 = .ok (.iaload, 1) := by decide +kernel
theorem dX9_reachOf_28 : decode cX9_reachOf 28 = .ok (.invokestatic 110, 3) := by decide +kernel
theorem dX9_reachOf_31 : decode cX9_reachOf 31 = .ok (.ireturn, 1) := by decide +kernel
