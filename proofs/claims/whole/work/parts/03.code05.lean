theorem dX9_phasesOf_0 : decode cX9_phasesOf 0 = .ok (.iconst 0, 1) := by decide +kernel
theorem dX9_phasesOf_1 : decode cX9_phasesOf 1 = .ok (.istore_n 2, 1) := by decide +kernel
theorem dX9_phasesOf_2 : decode cX9_phasesOf 2 = .ok (.iconst 0, 1) := by decide +kernel
theorem dX9_phasesOf_3 : decode cX9_phasesOf 3 = .ok (.istore_n 3, 1) := by decide +kernel
theorem dX9_phasesOf_4 : decode cX9_phasesOf 4 = .ok (.iload_n 3, 1) := by decide +kernel
theorem dX9_phasesOf_5 : decode cX9_phasesOf 5 = .ok (.bipush 8, 2) := by decide +kernel
theorem dX9_phasesOf_7 : decode cX9_phasesOf 7 = .ok (.if_icmp .ge 122, 3) := by decide +kernel
theorem dX9_phasesOf_10 : decode cX9_phasesOf 10 = .ok (.iconst 1, 1) := by decide +kernel
theorem dX9_phasesOf_11 : decode cX9_phasesOf 11 = .ok (.istore 4, 2) := by decide +kernel
theorem dX9_phasesOf_13 : decode cX9_phasesOf 13 = .ok (.iconst 0, 1) := by decide +kernel
theorem dX9_phasesOf_14 : decode cX9_phasesOf 14 = .ok (.istore 5, 2) := by decide +kernel
theorem dX9_phasesOf_16 : decode cX9_phasesOf 16 = .ok (.iload 5, 2) := by decide +kernel
theorem dX9_phasesOf_18 : decode cX9_phasesOf 18 = .ok (.aload_n 0, 1) := by decide +kernel
theorem dX9_phasesOf_19 : decode cX9_phasesOf 19 = .ok (.getfield 7, 3) := by decide +kernel
theorem dX9_phasesOf_22 : decode cX9_phasesOf 22 = .ok (.iconst 1, 1) := by decide +kernel
theorem dX9_phasesOf_23 : decode cX9_phasesOf 23 = .ok (.iaload, 1) := by decide +kernel
theorem dX9_phasesOf_24 : decode cX9_phasesOf 24 = .ok (.if_icmp .ge 84, 3) := by decide +kernel
theorem dX9_phasesOf_27 : decode cX9_phasesOf 27 = .ok (.bipush 58, 2) := by decide +kernel
theorem dX9_phasesOf_29 : decode cX9_phasesOf 29 = .ok (.iconst 4, 1) := by decide +kernel
theorem dX9_phasesOf_30 : decode cX9_phasesOf 30 = .ok (.iload 5, 2) := by decide +kernel
theorem dX9_phasesOf_32 : decode cX9_phasesOf 32 = .ok (.imul, 1) := by decide +kernel
theorem dX9_phasesOf_33 : decode cX9_phasesOf 33 = .ok (.iadd, 1) := by decide +kernel
theorem dX9_phasesOf_34 : decode cX9_phasesOf 34 = .ok (.istore 6, 2) := by decide +kernel
theorem dX9_phasesOf_36 : decode cX9_phasesOf 36 = .ok (.iload 4, 2) := by decide +kernel
theorem dX9_phasesOf_38 : decode cX9_phasesOf 38 = .ok (.ifCond .eq 61, 3) := by decide +kernel
theorem dX9_phasesOf_41 : decode cX9_phasesOf 41 = .ok (.aload_n 0, 1) := by decide +kernel
theorem dX9_phasesOf_42 : decode cX9_phasesOf 42 = .ok (.getfield 7, 3) := by decide +kernel
theorem dX9_phasesOf_45 : decode cX9_phasesOf 45 = .ok (.iload 6, 2) := by decide +kernel
theorem dX9_phasesOf_47 : decode cX9_phasesOf 47 = .ok (.iaload, 1) := by decide +kernel
theorem dX9_phasesOf_48 : decode cX9_phasesOf 48 = .ok (.iload_n 1, 1) := by decide +kernel
theorem dX9_phasesOf_49 : decode cX9_phasesOf 49 = .ok (.if_icmp .ne 46, 3) := by decide +kernel
theorem dX9_phasesOf_52 : decode cX9_phasesOf 52 = .ok (.aload_n 0, 1) := by decide +kernel
theorem dX9_phasesOf_53 : decode cX9_phasesOf 53 = .ok (.getfield 7, 3) := by decide +kernel
theorem dX9_phasesOf_56 : decode cX9_phasesOf 56 = .ok (.bipush 34, 2) := by decide +kernel
theorem dX9_phasesOf_58 : decode cX9_phasesOf 58 = .ok (.iload_n 1, 1) := by decide +kernel
theorem dX9_phasesOf_59 : decode cX9_phasesOf 59 = .ok (.iadd, 1) := by decide +kernel
theorem dX9_phasesOf_60 : decode cX9_phasesOf 60 = .ok (.iaload, 1) := by decide +kernel
theorem dX9_phasesOf_61 : decode cX9_phasesOf 61 = .ok (.iload_n 3, 1) := by decide +kernel
theorem dX9_phasesOf_62 : decode cX9_phasesOf 62 = .ok (.aload_n 0, 1) := by decide +kernel
theorem dX9_phasesOf_63 : decode cX9_phasesOf 63 = .ok (.getfield 7, 3) := by decide +kernel
theorem dX9_phasesOf_66 : decode cX9_phasesOf 66 = .ok (.iload 6, 2) := by decide +kernel
theorem dX9_phasesOf_68 : decode cX9_phasesOf 68 = .ok (.iconst 1, 1) := by decide +kernel
theorem dX9_phasesOf_69 : decode cX9_phasesOf 69 = .ok (.iadd, 1) := by decide +kernel
theorem dX9_phasesOf_70 : decode cX9_phasesOf 70 = .ok (.iaload, 1) := by decide +kernel
theorem dX9_phasesOf_71 : decode cX9_phasesOf 71 = .ok (.aload_n 0, 1) := by decide +kernel
theorem dX9_phasesOf_72 : decode cX9_phasesOf 72 = .ok (.getfield 7, 3) := by decide +kernel
theorem dX9_phasesOf_75 : decode cX9_phasesOf 75 = .ok (.iload 6, 2) := by decide +kernel
theorem dX9_phasesOf_77 : decode cX9_phasesOf 77 = .ok (.iconst 2, 1) := by decide +kernel
theorem dX9_phasesOf_78 : decode cX9_phasesOf 78 = .ok (.iadd, 1) := by decide +kernel
theorem dX9_phasesOf_79 : decode cX9_phasesOf 79 = .ok (.iaload, 1) := by decide +kernel
theorem dX9_phasesOf_80 : decode cX9_phasesOf 80 = .ok (.invokestatic 103, 3) := by decide +kernel
theorem dX9_phasesOf_83 : decode cX9_phasesOf 83 = .ok (.aload_n 0, 1) := by decide +kernel
theorem dX9_phasesOf_84 : decode cX9_phasesOf 84 = .ok (.getfield 7, 3) := by decide +kernel
theorem dX9_phasesOf_87 : decode cX9_phasesOf 87 = .ok (.iload 6, 2) := by decide +kernel
theorem dX9_phasesOf_89 : decode cX9_phasesOf 89 = .ok (.iconst 3, 1) := by decide +kernel
theorem dX9_phasesOf_90 : decode cX9_phasesOf 90 = .ok (.iadd, 1) := by decide +kernel
theorem dX9_phasesOf_91 : decode cX9_phasesOf 91 = .ok (.iaload, 1) := by decide +kernel
theorem dX9_phasesOf_92 : decode cX9_phasesOf 92 = .ok (.if_icmp .ne 7, 3) := by decide +kernel
theorem dX9_phasesOf_95 : decode cX9_phasesOf 95 = .ok (.iconst 1, 1) := by decide +kernel
theorem dX9_phasesOf_96 : decode cX9_phasesOf 96 = .ok (.goto 4, 3) := by decide +kernel
theorem dX9_phasesOf_99 : decode cX9_phasesOf 99 = .ok (.iconst 0, 1) := by decide +kernel
theorem dX9_phasesOf_100 : decode cX9_phasesOf 100 = .ok (.istore 4, 2) := by decide +kernel
theorem dX9_phasesOf_102 : decode cX9_phasesOf 102 = .ok (.iinc 5 1, 3) := by decide +kernel
theorem dX9_phasesOf_105 : decode cX9_phasesOf 105 = .ok (.goto (-89), 3) := by decide +kernel
theorem dX9_phasesOf_108 : decode cX9_phasesOf 108 = .ok (.iload_n 2, 1) := by decide +kernel
theorem dX9_phasesOf_109 : decode cX9_phasesOf 109 = .ok (.iload 4, 2) := by decide +kernel
theorem dX9_phasesOf_111 : decode cX9_phasesOf 111 = .ok (.ifCond .eq 9, 3) := by decide +kernel
theorem dX9_phasesOf_114 : decode cX9_phasesOf 114 = .ok (.iconst 1, 1) := by decide +kernel
theorem dX9_phasesOf_115 : decode cX9_phasesOf 115 = .ok (.iload_n 3, 1) := by decide +kernel
theorem dX9_phasesOf_116 : decode cX9_phasesOf 116 = .ok (.ishl, 1) := by decide +kernel
theorem dX9_phasesOf_117 : decode cX9_phasesOf 117 = .ok (.goto 4, 3) := by decide +kernel
theorem dX9_phasesOf_120 : decode cX9_phasesOf 120 = .ok (.iconst 0, 1) := by decide +kernel
theorem dX9_phasesOf_121 : decode cX9_phasesOf 121 = .ok (.ior, 1) := by decide +kernel
theorem dX9_phasesOf_122 : decode cX9_phasesOf 122 = .ok (.istore_n 2, 1) := by decide +kernel
theorem dX9_phasesOf_123 : decode cX9_phasesOf 123 = .ok (.iinc 3 1, 3) := by decide +kernel
theorem dX9_phasesOf_126 : decode cX9_phasesOf 126 = .ok (.goto (-122), 3) := by decide +kernel
theorem dX9_phasesOf_129 : decode cX9_phasesOf 129 = .ok (.iload_n 2, 1) := by decide +kernel
theorem dX9_phasesOf_130 : decode cX9_phasesOf 130 = .ok (.ireturn, 1) := by decide +kernel
theorem dX9_phases_0 : decode cX9_phases 0 = .ok (.aload_n 0, 1) := by decide +kernel
theorem dX9_phases_1 : decode cX9_phases 1 = .ok (.iload_n 1, 1) := by decide +kernel
theorem dX9_phases_2 : decode cX9_phases 2 = .ok (.invokevirtual 77, 3) := by decide +kernel
theorem dX9_phases_5 : decode cX9_phases 5 = .ok (.ifCond .eq 11, 3) := by decide +kernel
theorem dX9_phases_8 : decode cX9_phases 8 = .ok (.aload_n 0, 1) := by decide +kernel
theorem dX9_phases_9 : decode cX9_phases 9 = .ok (.iload_n 1, 1) := by decide +kernel
theorem dX9_phases_10 : decode cX9_phases 10 = .ok (.invokevirtual 154, 3) := by decide +kernel
theorem dX9_phases_13 : decode cX9_phases 13 = .ok (.goto 9, 3) := by decide +kernel
theorem dX9_phases_16 : decode cX9_phases 16 = .ok (.aload_n 0, 1) := by decide +kernel
theorem dX9_phases_17 : decode cX9_phases 17 = .ok (.bipush (-2), 2) := by decide +kernel
theorem dX9_phases_19 : decode cX9_phases 19 = .ok (.invokevirtual 73, 3) := by decide +kernel
theorem dX9_phases_22 : decode cX9_phases 22 = .ok (.ireturn, 1) := by decide +kernel
theorem dX9_mostAlike_0 : decode cX9_mostAlike 0 = .ok (.iconst 0, 1) := by decide +kernel
theorem dX9_mostAlike_1 : decode cX9_mostAlike 1 = .ok (.istore_n 2, 1) := by decide +kernel
theorem dX9_mostAlike_2 : decode cX9_mostAlike 2 = .ok (.iconst 0, 1) := by decide +kernel
theorem dX9_mostAlike_3 : decode cX9_mostAlike 3 = .ok (.istore_n 3, 1) := by decide +kernel
theorem dX9_mostAlike_4 : decode cX9_mostAlike 4 = .ok (.iload_n 3, 1) := by decide +kernel
theorem dX9_mostAlike_5 : decode cX9_mostAlike 5 = .ok (.bipush 8, 2) := by decide +kernel
theorem dX9_mostAlike_7 : decode cX9_mostAlike 7 = .ok (.if_icmp .ge 84, 3) := by decide +kernel
theorem dX9_mostAlike_10 : decode cX9_mostAlike 10 = .ok (.iconst 0, 1) := by decide +kernel
theorem dX9_mostAlike_11 : decode cX9_mostAlike 11 = .ok (.istore 4, 2) := by decide +kernel
theorem dX9_mostAlike_13 : decode cX9_mostAlike 13 = .ok (.iconst 0, 1) := by decide +kernel
theorem dX9_mostAlike_14 : decode cX9_mostAlike 14 = .ok (.istore 5, 2) := by decide +kernel
theorem dX9_mostAlike_16 : decode cX9_mostAlike 16 = .ok (.iload 5, 2) := by decide +kernel
theorem dX9_mostAlike_18 : decode cX9_mostAlike 18 = .ok (.bipush 8, 2) := by decide +kernel
theorem dX9_mostAlike_20 : decode cX9_mostAlike 20 = .ok (.if_icmp .ge 52, 3) := by decide +kernel
theorem dX9_mostAlike_23 : decode cX9_mostAlike 23 = .ok (.iload_n 1, 1) := by decide +kernel
theorem dX9_mostAlike_24 : decode cX9_mostAlike 24 = .ok (.iload_n 3, 1) := by decide +kernel
theorem dX9_mostAlike_25 : decode cX9_mostAlike 25 = .ok (.invokestatic 157, 3) := by decide +kernel
theorem dX9_mostAlike_28 : decode cX9_mostAlike 28 = .ok (.ifCond .eq 44, 3) := by decide +kernel
theorem dX9_mostAlike_31 : decode cX9_mostAlike 31 = .ok (.iload 4, 2) := by decide +kernel
theorem dX9_mostAlike_33 : decode cX9_mostAlike 33 = .ok (.iload_n 1, 1) := by decide +kernel
theorem dX9_mostAlike_34 : decode cX9_mostAlike 34 = .ok (.iload 5, 2) := by decide +kernel
theorem dX9_mostAlike_36 : decode cX9_mostAlike 36 = .ok (.invokestatic 157, 3) := by decide +kernel
theorem dX9_mostAlike_39 : decode cX9_mostAlike 39 = .ok (.ifCond .eq 23, 3) := by decide +kernel
theorem dX9_mostAlike_42 : decode cX9_mostAlike 42 = .ok (.aload_n 0, 1) := by decide +kernel
theorem dX9_mostAlike_43 : decode cX9_mostAlike 43 = .ok (.getfield 30, 3) := by decide +kernel
theorem dX9_mostAlike_46 : decode cX9_mostAlike 46 = .ok (.iload_n 3, 1) := by decide +kernel
theorem dX9_mostAlike_47 : decode cX9_mostAlike 47 = .ok (.iaload, 1) := by decide +kernel
theorem dX9_mostAlike_48 : decode cX9_mostAlike 48 = .ok (.aload_n 0, 1) := by decide +kernel
theorem dX9_mostAlike_49 : decode cX9_mostAlike 49 = .ok (.getfield 30, 3) := by decide +kernel
theorem dX9_mostAlike_52 : decode cX9_mostAlike 52 = .ok (.iload 5, 2) := by decide +kernel
theorem dX9_mostAlike_54 : decode cX9_mostAlike 54 = .ok (.iaload, 1) := by decide +kernel
theorem dX9_mostAlike_55 : decode cX9_mostAlike 55 = .ok (.if_icmp .ne 7, 3) := by decide +kernel
theorem dX9_mostAlike_58 : decode cX9_mostAlike 58 = .ok (.iconst 1, 1) := by decide +kernel
theorem dX9_mostAlike_59 : decode cX9_mostAlike 59 = .ok (.goto 4, 3) := by decide +kernel
theorem dX9_mostAlike_62 : decode cX9_mostAlike 62 = .ok (.iconst 0, 1) := by decide +kernel
theorem dX9_mostAlike_63 : decode cX9_mostAlike 63 = .ok (.iadd, 1) := by decide +kernel
theorem dX9_mostAlike_64 : decode cX9_mostAlike 64 = .ok (.istore 4, 2) := by decide +kernel
theorem dX9_mostAlike_66 : decode cX9_mostAlike 66 = .ok (.iinc 5 1, 3) := by decide +kernel
theorem dX9_mostAlike_69 : decode cX9_mostAlike 69 = .ok (.goto (-53), 3) := by decide +kernel
theorem dX9_mostAlike_72 : decode cX9_mostAlike 72 = .ok (.iload 4, 2) := by decide +kernel
theorem dX9_mostAlike_74 : decode cX9_mostAlike 74 = .ok (.iload_n 2, 1) := by decide +kernel
theorem dX9_mostAlike_75 : decode cX9_mostAlike 75 = .ok (.if_icmp .le 8, 3) := by decide +kernel
theorem dX9_mostAlike_78 : decode cX9_mostAlike 78 = .ok (.iload 4, 2) := by decide +kernel
theorem dX9_mostAlike_80 : decode cX9_mostAlike 80 = .ok (.goto 4, 3) := by decide +kernel
theorem dX9_mostAlike_83 : decode cX9_mostAlike 83 = .ok (.iload_n 2, 1) := by decide +kernel
theorem dX9_mostAlike_84 : decode cX9_mostAlike 84 = .ok (.istore_n 2, 1) := by decide +kernel
theorem dX9_mostAlike_85 : decode cX9_mostAlike 85 = .ok (.iinc 3 1, 3) := by decide +kernel
theorem dX9_mostAlike_88 : decode cX9_mostAlike 88 = .ok (.goto (-84), 3) := by decide +kernel
theorem dX9_mostAlike_91 : decode cX9_mostAlike 91 = .ok (.iload_n 2, 1) := by decide +kernel
theorem dX9_mostAlike_92 : decode cX9_mostAlike 92 = .ok (.ireturn, 1) := by decide +kernel
theorem dX9_tell_0 : decode cX9_tell 0 = .ok (.aload_n 0, 1) := by decide +kernel
theorem dX9_tell_1 : decode cX9_tell 1 = .ok (.iload_n 1, 1) := by decide +kernel
theorem dX9_tell_2 : decode cX9_tell 2 = .ok (.invokevirtual 77, 3) := by decide +kernel
theorem dX9_tell_5 : decode cX9_tell 5 = .ok (.ifCond .ne 10, 3) := by decide +kernel
theorem dX9_tell_8 : decode cX9_tell 8 = .ok (.aload_n 0, 1) := by decide +kernel
theorem dX9_tell_9 : decode cX9_tell 9 = .ok (.bipush (-2), 2) := by decide +kernel
theorem dX9_tell_11 : decode cX9_tell 11 = .ok (.invokevirtual 73, 3) := by decide +kernel
theorem dX9_tell_14 : decode cX9_tell 14 = .ok (.ireturn, 1) := by decide +kernel
theorem dX9_tell_15 : decode cX9_tell 15 = .ok (.aload_n 0, 1) := by decide +kernel
theorem dX9_tell_16 : decode cX9_tell 16 = .ok (.iload_n 1, 1) := by decide +kernel
theorem dX9_tell_17 : decode cX9_tell 17 = .ok (.invokevirtual 154, 3) := by decide +kernel
theorem dX9_tell_20 : decode cX9_tell 20 = .ok (.istore_n 2, 1) := by decide +kernel
theorem dX9_tell_21 : decode cX9_tell 21 = .ok (.iconst (-1), 1) := by decide +kernel
theorem dX9_tell_22 : decode cX9_tell 22 = .ok (.istore_n 3, 1) := by decide +kernel
theorem dX9_tell_23 : decode cX9_tell 23 = .ok (.ldc 161, 2) := by decide +kernel
theorem dX9_tell_25 : decode cX9_tell 25 = .ok (.istore 4, 2) := by decide +kernel
theorem dX9_tell_27 : decode cX9_tell 27 = .ok (.iconst 0, 1) := by decide +kernel
theorem dX9_tell_28 : decode cX9_tell 28 = .ok (.istore 5, 2) := by decide +kernel
theorem dX9_tell_30 : decode cX9_tell 30 = .ok (.iload 5, 2) := by decide +kernel
theorem dX9_tell_32 : decode cX9_tell 32 = .ok (.bipush 8, 2) := by decide +kernel
theorem dX9_tell_34 : decode cX9_tell 34 = .ok (.if_icmp .ge 112, 3) := by decide +kernel
theorem dX9_tell_37 : decode cX9_tell 37 = .ok (.iload_n 2, 1) := by decide +kernel
theorem dX9_tell_38 : decode cX9_tell 38 = .ok (.ifCond .le 108, 3) := by decide +kernel
theorem dX9_tell_41 : decode cX9_tell 41 = .ok (.iconst 0, 1) := by decide +kernel
theorem dX9_tell_42 : decode cX9_tell 42 = .ok (.istore 6, 2) := by decide +kernel
theorem dX9_tell_44 : decode cX9_tell 44 = .ok (.iload 6, 2) := by decide +kernel
theorem dX9_tell_46 : decode cX9_tell 46 = .ok (.iconst 4, 1) := by decide +kernel
theorem dX9_tell_47 : decode cX9_tell 47 = .ok (.if_icmp .ge 93, 3) := by decide +kernel
theorem dX9_tell_50 : decode cX9_tell 50 = .ok (.iconst 0, 1) := by decide +kernel
theorem dX9_tell_51 : decode cX9_tell 51 = .ok (.istore 7, 2) := by decide +kernel
theorem dX9_tell_53 : decode cX9_tell 53 = .ok (.iload 7, 2) := by decide +kernel
theorem dX9_tell_55 : decode cX9_tell 55 = .ok (.bipush 8, 2) := by decide +kernel
theorem dX9_tell_57 : decode cX9_tell 57 = .ok (.if_icmp .ge 34, 3) := by decide +kernel
theorem dX9_tell_60 : decode cX9_tell 60 = .ok (.aload_n 0, 1) := by decide +kernel
theorem dX9_tell_61 : decode cX9_tell 61 = .ok (.getfield 30, 3) := by decide +kernel
theorem dX9_tell_64 : decode cX9_tell 64 = .ok (.iload 7, 2) := by decide +kernel
theorem dX9_tell_66 : decode cX9_tell 66 = .ok (.aload_n 0, 1) := by decide +kernel
theorem dX9_tell_67 : decode cX9_tell 67 = .ok (.getfield 7, 3) := by decide +kernel
theorem dX9_tell_70 : decode cX9_tell 70 = .ok (.bipush 34, 2) := by decide +kernel
theorem dX9_tell_72 : decode cX9_tell 72 = .ok (.iload_n 1, 1) := by decide +kernel
theorem dX9_tell_73 : decode cX9_tell 73 = .ok (.iadd, 1) := by decide +kernel
theorem dX9_tell_74 : decode cX9_tell 74 = .ok (.iaload, 1) := by decide +kernel
theorem dX9_tell_75 : decode cX9_tell 75 = .ok (.iload 7, 2) := by decide +kernel
theorem dX9_tell_77 : decode cX9_tell 77 = .ok (.iload 5, 2) := by decide +kernel
theorem dX9_tell_79 : decode cX9_tell 79 = .ok (.iload 6, 2) := by decide +kernel
theorem dX9_tell_81 : decode cX9_tell 81 = .ok (.invokestatic 103, 3) := by decide +kernel
theorem dX9_tell_84 : decode cX9_tell 84 = .ok (.iastore, 1) := by decide +kernel
theorem dX9_tell_85 : decode cX9_tell 85 = .ok (.iinc 7 1, 3) := by decide +kernel
theorem dX9_tell_88 : decode cX9_tell 88 = .ok (.goto (-35), 3) := by decide +kernel
theorem dX9_tell_91 : decode cX9_tell 91 = .ok (.aload_n 0, 1) := by decide +kernel
theorem dX9_tell_92 : decode cX9_tell 92 = .ok (.iload_n 2, 1) := by decide +kernel
theorem dX9_tell_93 : decode cX9_tell 93 = .ok (.invokevirtual 162, 3) := by decide +kernel
theorem dX9_tell_96 : decode cX9_tell 96 = .ok (.istore 7, 2) := by decide +kernel
theorem dX9_tell_98 : decode cX9_tell 98 = .ok (.iload 7, 2) := by decide +kernel
theorem dX9_tell_100 : decode cX9_tell 100 = .ok (.iload 4, 2) := by decide +kernel
theorem dX9_tell_102 : decode cX9_tell 102 = .ok (.if_icmp .ge 14, 3) := by decide +kernel
theorem dX9_tell_105 : decode cX9_tell 105 = .ok (.bipush 10, 2) := by decide +kernel
theorem dX9_tell_107 : decode cX9_tell 107 = .ok (.iload 5, 2) := by decide +kernel
theorem dX9_tell_109 : decode cX9_tell 109 = .ok (.imul, 1) := by decide +kernel
theorem dX9_tell_110 : decode cX9_tell 110 = .ok (.iload 6, 2) := by decide +kernel
theorem dX9_tell_112 : decode cX9_tell 112 = .ok (.iadd, 1) := by decide +kernel
theorem dX9_tell_113 : decode cX9_tell 113 = .ok (.goto 4, 3) := by decide +kernel
theorem dX9_tell_116 : decode cX9_tell 116 = .ok (.iload_n 3, 1) := by decide +kernel
theorem dX9_tell_117 : decode cX9_tell 117 = .ok (.istore_n 3, 1) := by decide +kernel
theorem dX9_tell_118 : decode cX9_tell 118 = .ok (.iload 7, 2) := by decide +kernel
theorem dX9_tell_120 : decode cX9_tell 120 = .ok (.iload 4, 2) := by decide +kernel
theorem dX9_tell_122 : decode cX9_tell 122 = .ok (.if_icmp .ge 8, 3) := by decide +kernel
theorem dX9_tell_125 : decode cX9_tell 125 = .ok (.iload 7, 2) := by decide +kernel
theorem dX9_tell_127 : decode cX9_tell 127 = .ok (.goto 5, 3) := by decide +kernel
theorem dX9_tell_130 : decode cX9_tell 130 = .ok (.iload 4, 2) := by decide +kernel
theorem dX9_tell_132 : decode cX9_tell 132 = .ok (.istore 4, 2) := by decide +kernel
theorem dX9_tell_134 : decode cX9_tell 134 = .ok (.iinc 6 1, 3) := by decide +kernel
theorem dX9_tell_137 : decode cX9_tell 137 = .ok (.goto (-93), 3) := by decide +kernel
theorem dX9_tell_140 : decode cX9_tell 140 = .ok (.iinc 5 1, 3) := by decide +kernel
theorem dX9_tell_143 : decode cX9_tell 143 = .ok (.goto (-113), 3) := by decide +kernel
theorem dX9_tell_146 : decode cX9_tell 146 = .ok (.iload_n 3, 1) := by decide +kernel
theorem dX9_tell_147 : decode cX9_tell 147 = .ok (.ireturn, 1) := by decide +kernel
theorem dX9_layFive_0 : decode cX9_layFive 0 = .ok (.aload_n 0, 1) := by decide +kernel
theorem dX9_layFive_1 : decode cX9_layFive 1 = .ok (.getfield 7, 3) := by decide +kernel
theorem dX9_layFive_4 : decode cX9_layFive 4 = .ok (.iload_n 1, 1) := by decide +kernel
theorem dX9_layFive_5 : decode cX9_layFive 5 = .ok (.iload_n 2, 1) := by decide +kernel
theorem dX9_layFive_6 : decode cX9_layFive 6 = .ok (.iastore, 1) := by decide +kernel
theorem dX9_layFive_7 : decode cX9_layFive 7 = .ok (.aload_n 0, 1) := by decide +kernel
theorem dX9_layFive_8 : decode cX9_layFive 8 = .ok (.getfield 7, 3) := by decide +kernel
theorem dX9_layFive_11 : decode cX9_layFive 11 = .ok (.iload_n 1, 1) := by decide +kernel
theorem dX9_layFive_12 : decode cX9_layFive 12 = .ok (.iconst 1, 1) := by decide +kernel
theorem dX9_layFive_13 : decode cX9_layFive 13 = .ok (.iadd, 1) := by decide +kernel
theorem dX9_layFive_14 : decode cX9_layFive 14 = .ok (.iload_n 3, 1) := by decide +kernel
theorem dX9_layFive_15 : decode cX9_layFive 15 = .ok (.iastore, 1) := by decide +kernel
theorem dX9_layFive_16 : decode cX9_layFive 16 = .ok (.aload_n 0, 1) := by decide +kernel
theorem dX9_layFive_17 : decode cX9_layFive 17 = .ok (.getfield 7, 3) := by decide +kernel
theorem dX9_layFive_20 : decode cX9_layFive 20 = .ok (.iload_n 1, 1) := by decide +kernel
theorem dX9_layFive_21 : decode cX9_layFive 21 = .ok (.iconst 2, 1) := by decide +kernel
theorem dX9_layFive_22 : decode cX9_layFive 22 = .ok (.iadd, 1) := by decide +kernel
theorem dX9_layFive_23 : decode cX9_layFive 23 = .ok (.iload 4, 2) := by decide +kernel
theorem dX9_layFive_25 : decode cX9_layFive 25 = .ok (.iastore, 1) := by decide +kernel
theorem dX9_layFive_26 : decode cX9_layFive 26 = .ok (.aload_n 0, 1) := by decide +kernel
theorem dX9_layFive_27 : decode cX9_layFive 27 = .ok (.getfield 7, 3) := by decide +kernel
theorem dX9_layFive_30 : decode cX9_layFive 30 = .ok (.iload_n 1, 1) := by decide +kernel
theorem dX9_layFive_31 : decode cX9_layFive 31 = .ok (.iconst 3, 1) := by decide +kernel
theorem dX9_layFive_32 : decode cX9_layFive 32 = .ok (.iadd, 1) := by decide +kernel
theorem dX9_layFive_33 : decode cX9_layFive 33 = .ok (.iload 5, 2) := by decide +kernel
theorem dX9_layFive_35 : decode cX9_layFive 35 = .ok (.iastore, 1) := by decide +kernel
theorem dX9_layFive_36 : decode cX9_layFive 36 = .ok (.aload_n 0, 1) := by decide +kernel
theorem dX9_layFive_37 : decode cX9_layFive 37 = .ok (.getfield 7, 3) := by decide +kernel
theorem dX9_layFive_40 : decode cX9_layFive 40 = .ok (.iload_n 1, 1) := by decide +kernel
theorem dX9_layFive_41 : decode cX9_layFive 41 = .ok (.iconst 4, 1) := by decide +kernel
theorem dX9_layFive_42 : decode cX9_layFive 42 = .ok (.iadd, 1) := by decide +kernel
theorem dX9_layFive_43 : decode cX9_layFive 43 = .ok (.iload 6, 2) := by decide +kernel
theorem dX9_layFive_45 : decode cX9_layFive 45 = .ok (.iastore, 1) := by decide +kernel
theorem dX9_layFive_46 : decode cX9_layFive 46 = .ok (.return_, 1) := by decide +kernel
theorem dX9_note_0 : decode cX9_note 0 = .ok (.aload_n 0, 1) := by decide +kernel
theorem dX9_note_1 : decode cX9_note 1 = .ok (.iload_n 1, 1) := by decide +kernel
theorem dX9_note_2 : decode cX9_note 2 = .ok (.invokevirtual 77, 3) := by decide +kernel
theorem dX9_note_5 : decode cX9_note 5 = .ok (.ifCond .eq 43, 3) := by decide +kernel
theorem dX9_note_8 : decode cX9_note 8 = .ok (.iload_n 2, 1) := by decide +kernel
theorem dX9_note_9 : decode cX9_note 9 = .ok (.invokestatic 83, 3) := by decide +kernel
theorem dX9_note_12 : decode cX9_note 12 = .ok (.ifCond .eq 36, 3) := by decide +kernel
theorem dX9_note_15 : decode cX9_note 15 = .ok (.iload_n 3, 1) := by decide +kernel
theorem dX9_note_16 : decode cX9_note 16 = .ok (.i2l, 1) := by decide +kernel
theorem dX9_note_17 : decode cX9_note 17 = .ok (.lconst 0, 1) := by decide +kernel
theorem dX9_note_18 : decode cX9_note 18 = .ok (.ldc2_w 150, 3) := by decide +kernel
theorem dX9_note_21 : decode cX9_note 21 = .ok (.invokestatic 53, 3) := by decide +kernel
theorem dX9_note_24 : decode cX9_note 24 = .ok (.ifCond .eq 24, 3) := by decide +kernel
theorem dX9_note_27 : decode cX9_note 27 = .ok (.iload 4, 2) := by decide +kernel
theorem dX9_note_29 : decode cX9_note 29 = .ok (.invokestatic 69, 3) := by decide +kernel
theorem dX9_note_32 : decode cX9_note 32 = .ok (.ifCond .eq 16, 3) := by decide +kernel
theorem dX9_note_35 : decode cX9_note 35 = .ok (.iload 5, 2) := by decide +kernel
theorem dX9_note_37 : decode cX9_note 37 = .ok (.i2l, 1) := by decide +kernel
theorem dX9_note_38 : decode cX9_note 38 = .ok (.lconst 0, 1) := by decide +kernel
theorem dX9_note_39 : decode cX9_note 39 = .ok (.ldc2_w 152, 3) := by decide +kernel
theorem dX9_note_42 : decode cX9_note 42 = .ok (.invokestatic 53, 3) := by decide +kernel
theorem dX9_note_45 : decode cX9_note 45 = .ok (.ifCond .ne 10, 3) := by decide +kernel
theorem dX9_note_48 : decode cX9_note 48 = .ok (.aload_n 0, 1) := by decide +kernel
theorem dX9_note_49 : decode cX9_note 49 = .ok (.bipush (-2), 2) := by decide +kernel
theorem dX9_note_51 : decode cX9_note 51 = .ok (.invokevirtual 73, 3) := by decide +kernel
theorem dX9_note_54 : decode cX9_note 54 = .ok (.ireturn, 1) := by decide +kernel
theorem dX9_note_55 : decode cX9_note 55 = .ok (.aload_n 0, 1) := by decide +kernel
theorem dX9_note_56 : decode cX9_note 56 = .ok (.getfield 7, 3) := by decide +kernel
theorem dX9_note_59 : decode cX9_note 59 = .ok (.iconst 2, 1) := by decide +kernel
theorem dX9_note_60 : decode cX9_note 60 = .ok (.iaload, 1) := by decide +kernel
theorem dX9_note_61 : decode cX9_note 61 = .ok (.bipush 6, 2) := by decide +kernel
theorem dX9_note_63 : decode cX9_note 63 = .ok (.if_icmp .ne 8, 3) := by decide +kernel
theorem dX9_note_66 : decode cX9_note 66 = .ok (.aload_n 0, 1) := by decide +kernel
theorem dX9_note_67 : decode cX9_note 67 = .ok (.invokevirtual 96, 3) := by decide +kernel
theorem dX9_note_70 : decode cX9_note 70 = .ok (.ireturn, 1) := by decide +kernel
theorem dX9_note_71 : decode cX9_note 71 = .ok (.aload_n 0, 1) := by decide +kernel
theorem dX9_note_72 : decode cX9_note 72 = .ok (.bipush 78, 2) := by decide +kernel
theorem dX9_note_74 : decode cX9_note 74 = .ok (.iconst 5, 1) := by decide +kernel
theorem dX9_note_75 : decode cX9_note 75 = .ok (.aload_n 0, 1) := by decide +kernel
theorem dX9_note_76 : decode cX9_note 76 = .ok (.getfield 7, 3) := by decide +kernel
theorem dX9_note_79 : decode cX9_note 79 = .ok (.iconst 2, 1) := by decide +kernel
theorem dX9_note_80 : decode cX9_note 80 = .ok (.iaload, 1) := by decide +kernel
theorem dX9_note_81 : decode cX9_note 81 = .ok (.imul, 1) := by decide +kernel
theorem dX9_note_82 : decode cX9_note 82 = .ok (.iadd, 1) := by decide +kernel
theorem dX9_note_83 : decode cX9_note 83 = .ok (.iload_n 1, 1) := by decide +kernel
theorem dX9_note_84 : decode cX9_note 84 = .ok (.iload_n 2, 1) := by decide +kernel
theorem dX9_note_85 : decode cX9_note 85 = .ok (.iload_n 3, 1) := by decide +kernel
theorem dX9_note_86 : decode cX9_note 86 = .ok (.iload 4, 2) := by decide +kernel
theorem dX9_note_88 : decode cX9_note 88 = .ok (.iload 5, 2) := by decide +kernel
theorem dX9_note_90 : decode cX9_note 90 = .ok (.invokevirtual 165, 3) := by decide +kernel
theorem dX9_note_93 : decode cX9_note 93 = .ok (.aload_n 0, 1) := by decide +kernel
theorem dX9_note_94 : decode cX9_note 94 = .ok (.getfield 7, 3) := by decide +kernel
theorem dX9_note_97 : decode cX9_note 97 = .ok (.iconst 2, 1) := by decide +kernel
theorem dX9_note_98 : decode cX9_note 98 = .ok (.dup2, 1) := by decide +kernel
theorem dX9_note_99 : decode cX9_note 99 = .ok (.iaload, 1) := by decide +kernel
theorem dX9_note_100 : decode cX9_note 100 = .ok (.iconst 1, 1) := by decide +kernel
theorem dX9_note_101 : decode cX9_note 101 = .ok (.iadd, 1) := by decide +kernel
theorem dX9_note_102 : decode cX9_note 102 = .ok (.iastore, 1) := by decide +kernel
theorem dX9_note_103 : decode cX9_note 103 = .ok (.aload_n 0, 1) := by decide +kernel
theorem dX9_note_104 : decode cX9_note 104 = .ok (.getfield 7, 3) := by decide +kernel
theorem dX9_note_107 : decode cX9_note 107 = .ok (.iconst 2, 1) := by decide +kernel
theorem dX9_note_108 : decode cX9_note 108 = .ok (.iaload, 1) := by decide +kernel
theorem dX9_note_109 : decode cX9_note 109 = .ok (.ireturn, 1) := by decide +kernel
theorem dX9_mark_0 : decode cX9_mark 0 = .ok (.aload_n 0, 1) := by decide +kernel
theorem dX9_mark_1 : decode cX9_mark 1 = .ok (.iload_n 1, 1) := by decide +kernel
theorem dX9_mark_2 : decode cX9_mark 2 = .ok (.invokevirtual 129, 3) := by decide +kernel
theorem dX9_mark_5 : decode cX9_mark 5 = .ok (.ifCond .eq 48, 3) := by decide +kernel
theorem dX9_mark_8 : decode cX9_mark 8 = .ok (.iload_n 2, 1) := by decide +kernel
theorem dX9_mark_9 : decode cX9_mark 9 = .ok (.invokestatic 86, 3) := by decide +kernel
theorem dX9_mark_12 : decode cX9_mark 12 = .ok (.ifCond .eq 41, 3) := by decide +kernel
theorem dX9_mark_15 : decode cX9_mark 15 = .ok (.iload_n 3, 1) := by decide +kernel
theorem dX9_mark_16 : decode cX9_mark 16 = .ok (.i2l, 1) := by decide +kernel
theorem dX9_mark_17 : decode cX9_mark 17 = .ok (.lconst 0, 1) := by decide +kernel
theorem dX9_mark_18 : decode cX9_mark 18 = .ok (.ldc2_w 152, 3) := by decide +kernel
theorem dX9_mark_21 : decode cX9_mark 21 = .ok (.invokestatic 53, 3) := by decide +kernel
theorem dX9_mark_24 : decode cX9_mark 24 = .ok (.ifCond .eq 29, 3) := by decide +kernel
theorem dX9_mark_27 : decode cX9_mark 27 = .ok (.iload 4, 2) := by decide +kernel
theorem dX9_mark_29 : decode cX9_mark 29 = .ok (.i2l, 1) := by decide +kernel
theorem dX9_mark_30 : decode cX9_mark 30 = .ok (.lconst 0, 1) := by decide +kernel
theorem dX9_mark_31 : decode cX9_mark 31 = .ok (.ldc2_w 150, 3) := by decide +kernel
theorem dX9_mark_34 : decode cX9_mark 34 = .ok (.invokestatic 53, 3) := by decide +kernel
theorem dX9_mark_37 : decode cX9_mark 37 = .ok (.ifCond .eq 16, 3) := by decide +kernel
theorem dX9_mark_40 : decode cX9_mark 40 = .ok (.iload 5, 2) := by decide +kernel
theorem dX9_mark_42 : decode cX9_mark 42 = .ok (.i2l, 1) := by decide +kernel
theorem dX9_mark_43 : decode cX9_mark 43 = .ok (.lconst 0, 1) := by decide +kernel
theorem dX9_mark_44 : decode cX9_mark 44 = .ok (.ldc2_w 120, 3) := by decide +kernel
theorem dX9_mark_47 : decode cX9_mark 47 = .ok (.invokestatic 53, 3) := by decide +kernel
theorem dX9_mark_50 : decode cX9_mark 50 = .ok (.ifCond .ne 10, 3) := by decide +kernel
theorem dX9_mark_53 : decode cX9_mark 53 = .ok (.aload_n 0, 1) := by decide +kernel
theorem dX9_mark_54 : decode cX9_mark 54 = .ok (.bipush (-2), 2) := by decide +kernel
theorem dX9_mark_56 : decode cX9_mark 56 = .ok (.invokevirtual 73, 3) := by decide +kernel
theorem dX9_mark_59 : decode cX9_mark 59 = .ok (.ireturn, 1) := by decide +kernel
theorem dX9_mark_60 : decode cX9_mark 60 = .ok (.aload_n 0, 1) := by decide +kernel
theorem dX9_mark_61 : decode cX9_mark 61 = .ok (.getfield 7, 3) := by decide +kernel
theorem dX9_mark_64 : decode cX9_mark 64 = .ok (.iconst 3, 1) := by decide +kernel
theorem dX9_mark_65 : decode cX9_mark 65 = .ok (.iaload, 1) := by decide +kernel
theorem dX9_mark_66 : decode cX9_mark 66 = .ok (.bipush 6, 2) := by decide +kernel
theorem dX9_mark_68 : decode cX9_mark 68 = .ok (.if_icmp .ne 8, 3) := by decide +kernel
theorem dX9_mark_71 : decode cX9_mark 71 = .ok (.aload_n 0, 1) := by decide +kernel
theorem dX9_mark_72 : decode cX9_mark 72 = .ok (.invokevirtual 96, 3) := by decide +kernel
theorem dX9_mark_75 : decode cX9_mark 75 = .ok (.ireturn, 1) := by decide +kernel
theorem dX9_mark_76 : decode cX9_mark 76 = .ok (.aload_n 0, 1) := by decide +kernel
theorem dX9_mark_77 : decode cX9_mark 77 = .ok (.bipush 108, 2) := by decide +kernel
theorem dX9_mark_79 : decode cX9_mark 79 = .ok (.iconst 5, 1) := by decide +kernel
theorem dX9_mark_80 : decode cX9_mark 80 = .ok (.aload_n 0, 1) := by decide +kernel
theorem dX9_mark_81 : decode cX9_mark 81 = .ok (.getfield 7, 3) := by decide +kernel
theorem dX9_mark_84 : decode cX9_mark 84 = .ok (.iconst 3, 1) := by decide +kernel
theorem dX9_mark_85 : decode cX9_mark 85 = .ok (.iaload, 1) := by decide +kernel
theorem dX9_mark_86 : decode cX9_mark 86 = .ok (.imul, 1) := by decide +kernel
theorem dX9_mark_87 : decode cX9_mark 87 = .ok (.iadd, 1) := by decide +kernel
theorem dX9_mark_88 : decode cX9_mark 88 = .ok (.iload_n 1, 1) := by decide +kernel
theorem dX9_mark_89 : decode cX9_mark 89 = .ok (.iload_n 2, 1) := by decide +kernel
theorem dX9_mark_90 : decode cX9_mark 90 = .ok (.iload_n 3, 1) := by decide +kernel
theorem dX9_mark_91 : decode cX9_mark 91 = .ok (.iload 4, 2) := by decide +kernel
theorem dX9_mark_93 : decode cX9_mark 93 = .ok (.iload 5, 2) := by decide +kernel
theorem dX9_mark_95 : decode cX9_mark 95 = .ok (.invokevirtual 165, 3) := by decide +kernel
theorem dX9_mark_98 : decode cX9_mark 98 = .ok (.aload_n 0, 1) := by decide +kernel
theorem dX9_mark_99 : decode cX9_mark 99 = .ok (.getfield 7, 3) := by decide +kernel
theorem dX9_mark_102 : decode cX9_mark 102 = .ok (.iconst 3, 1) := by decide +kernel
theorem dX9_mark_103 : decode cX9_mark 103 = .ok (.dup2, 1) := by decide +kernel
theorem dX9_mark_104 : decode cX9_mark 104 = .ok (.iaload, 1) := by decide +kernel
theorem dX9_mark_105 : decode cX9_mark 105 = .ok (.iconst 1, 1) := by decide +kernel
theorem dX9_mark_106 : decode cX9_mark 106 = .ok (.iadd, 1) := by decide +kernel
theorem dX9_mark_107 : decode cX9_mark 107 = .ok (.iastore, 1) := by decide +kernel
theorem dX9_mark_108 : decode cX9_mark 108 = .ok (.aload_n 0, 1) := by decide +kernel
theorem dX9_mark_109 : decode cX9_mark 109 = .ok (.getfield 7, 3) := by decide +kernel
theorem dX9_mark_112 : decode cX9_mark 112 = .ok (.iconst 3, 1) := by decide +kernel
theorem dX9_mark_113 : decode cX9_mark 113 = .ok (.iaload, 1) := by decide +kernel
theorem dX9_mark_114 : decode cX9_mark 114 = .ok (.ireturn, 1) := by decide +kernel
theorem dX9_forget_0 : decode cX9_forget 0 = .ok (.iload_n 1, 1) := by decide +kernel
theorem dX9_forget_1 : decode cX9_forget 1 = .ok (.i2l, 1) := by decide +kernel
theorem dX9_forget_2 : decode cX9_forget 2 = .ok (.lconst 0, 1) := by decide +kernel
theorem dX9_forget_3 : decode cX9_forget 3 = .ok (.ldc2_w 169, 3) := by decide +kernel
theorem dX9_forget_6 : decode cX9_forget 6 = .ok (.invokestatic 53, 3) := by decide +kernel
theorem dX9_forget_9 : decode cX9_forget 9 = .ok (.ifCond .ne 10, 3) := by decide +kernel
theorem dX9_forget_12 : decode cX9_forget 12 = .ok (.aload_n 0, 1) := by decide +kernel
theorem dX9_forget_13 : decode cX9_forget 13 = .ok (.bipush (-2), 2) := by decide +kernel
theorem dX9_forget_15 : decode cX9_forget 15 = .ok (.invokevirtual 73, 3) := by decide +kernel
theorem dX9_forget_18 : decode cX9_forget 18 = .ok (.ireturn, 1) := by decide +kernel
theorem dX9_forget_19 : decode cX9_forget 19 = .ok (.aload_n 0, 1) := by decide +kernel
theorem dX9_forget_20 : decode cX9_forget 20 = .ok (.getfield 7, 3) := by decide +kernel
theorem dX9_forget_23 : decode cX9_forget 23 = .ok (.iconst 1, 1) := by decide +kernel
theorem dX9_forget_24 : decode cX9_forget 24 = .ok (.iload_n 1, 1) := by decide +kernel
theorem dX9_forget_25 : decode cX9_forget 25 = .ok (.iadd, 1) := by decide +kernel
theorem dX9_forget_26 : decode cX9_forget 26 = .ok (.iaload, 1) := by decide +kernel
theorem dX9_forget_27 : decode cX9_forget 27 = .ok (.istore_n 2, 1) := by decide +kernel
theorem dX9_forget_28 : decode cX9_forget 28 = .ok (.aload_n 0, 1) := by decide +kernel
theorem dX9_forget_29 : decode cX9_forget 29 = .ok (.getfield 7, 3) := by decide +kernel
theorem dX9_forget_32 : decode cX9_forget 32 = .ok (.iconst 1, 1) := by decide +kernel
theorem dX9_forget_33 : decode cX9_forget 33 = .ok (.iload_n 1, 1) := by decide +kernel
theorem dX9_forget_34 : decode cX9_forget 34 = .ok (.iadd, 1) := by decide +kernel
theorem dX9_forget_35 : decode cX9_forget 35 = .ok (.iconst 0, 1) := by decide +kernel
theorem dX9_forget_36 : decode cX9_forget 36 = .ok (.iastore, 1) := by decide +kernel
theorem dX9_forget_37 : decode cX9_forget 37 = .ok (.iload_n 2, 1) := by decide +kernel
theorem dX9_forget_38 : decode cX9_forget 38 = .ok (.ireturn, 1) := by decide +kernel
theorem dX9_kindsBy_0 : decode cX9_kindsBy 0 = .ok (.iconst 0, 1) := by decide +kernel
theorem dX9_kindsBy_1 : decode cX9_kindsBy 1 = .ok (.istore 5, 2) := by decide +kernel
theorem dX9_kindsBy_3 : decode cX9_kindsBy 3 = .ok (.iconst 0, 1) := by decide +kernel
theorem dX9_kindsBy_4 : decode cX9_kindsBy 4 = .ok (.istore 6, 2) := by decide +kernel
theorem dX9_kindsBy_6 : decode cX9_kindsBy 6 = .ok (.iload 6, 2) := by decide +kernel
theorem dX9_kindsBy_8 : decode cX9_kindsBy 8 = .ok (.bipush 6, 2) := by decide +kernel
theorem dX9_kindsBy_10 : decode cX9_kindsBy 10 = .ok (.if_icmp .ge 164, 3) := by decide +kernel
theorem dX9_kindsBy_13 : decode cX9_kindsBy 13 = .ok (.iconst 1, 1) := by decide +kernel
theorem dX9_kindsBy_14 : decode cX9_kindsBy 14 = .ok (.istore 7, 2) := by decide +kernel
theorem dX9_kindsBy_16 : decode cX9_kindsBy 16 = .ok (.iconst 0, 1) := by decide +kernel
theorem dX9_kindsBy_17 : decode cX9_kindsBy 17 = .ok (.istore 8, 2) := by decide +kernel
theorem dX9_kindsBy_19 : decode cX9_kindsBy 19 = .ok (.iload 8, 2) := by decide +kernel
theorem dX9_kindsBy_21 : decode cX9_kindsBy 21 = .ok (.iload_n 3, 1) := by decide +kernel
theorem dX9_kindsBy_22 : decode cX9_kindsBy 22 = .ok (.if_icmp .ge 128, 3) := by decide +kernel
theorem dX9_kindsBy_25 : decode cX9_kindsBy 25 = .ok (.iload_n 2, 1) := by decide +kernel
theorem dX9_kindsBy_26 : decode cX9_kindsBy 26 = .ok (.iconst 5, 1) := by decide +kernel
theorem dX9_kindsBy_27 : decode cX9_kindsBy 27 = .ok (.iload 8, 2) := by decide +kernel
theorem dX9_kindsBy_29 : decode cX9_kindsBy 29 = .ok (.imul, 1) := by decide +kernel
theorem dX9_kindsBy_30 : decode cX9_kindsBy 30 = .ok (.iadd, 1) := by decide +kernel
theorem dX9_kindsBy_31 : decode cX9_kindsBy 31 = .ok (.istore 9, 2) := by decide +kernel
theorem dX9_kindsBy_33 : decode cX9_kindsBy 33 = .ok (.iload 4, 2) := by decide +kernel
theorem dX9_kindsBy_35 : decode cX9_kindsBy 35 = .ok (.ifCond .eq 38, 3) := by decide +kernel
theorem dX9_kindsBy_38 : decode cX9_kindsBy 38 = .ok (.iload 6, 2) := by decide +kernel
theorem dX9_kindsBy_40 : decode cX9_kindsBy 40 = .ok (.aload_n 0, 1) := by decide +kernel
theorem dX9_kindsBy_41 : decode cX9_kindsBy 41 = .ok (.getfield 7, 3) := by decide +kernel
theorem dX9_kindsBy_44 : decode cX9_kindsBy 44 = .ok (.iload 9, 2) := by decide +kernel
theorem dX9_kindsBy_46 : decode cX9_kindsBy 46 = .ok (.iconst 1, 1) := by decide +kernel
theorem dX9_kindsBy_47 : decode cX9_kindsBy 47 = .ok (.iadd, 1) := by decide +kernel
theorem dX9_kindsBy_48 : decode cX9_kindsBy 48 = .ok (.iaload, 1) := by decide +kernel
theorem dX9_kindsBy_49 : decode cX9_kindsBy 49 = .ok (.aload_n 0, 1) := by decide +kernel
theorem dX9_kindsBy_50 : decode cX9_kindsBy 50 = .ok (.getfield 7, 3) := by decide +kernel
theorem dX9_kindsBy_53 : decode cX9_kindsBy 53 = .ok (.iload 9, 2) := by decide +kernel
theorem dX9_kindsBy_55 : decode cX9_kindsBy 55 = .ok (.iconst 2, 1) := by decide +kernel
theorem dX9_kindsBy_56 : decode cX9_kindsBy 56 = .ok (.iadd, 1) := by decide +kernel
theorem dX9_kindsBy_57 : decode cX9_kindsBy 57 = .ok (.iaload, 1) := by decide +kernel
theorem dX9_kindsBy_58 : decode cX9_kindsBy 58 = .ok (.aload_n 0, 1) := by decide +kernel
theorem dX9_kindsBy_59 : decode cX9_kindsBy 59 = .ok (.getfield 7, 3) := by decide +kernel
theorem dX9_kindsBy_62 : decode cX9_kindsBy 62 = .ok (.iload 9, 2) := by decide +kernel
theorem dX9_kindsBy_64 : decode cX9_kindsBy 64 = .ok (.iconst 3, 1) := by decide +kernel
theorem dX9_kindsBy_65 : decode cX9_kindsBy 65 = .ok (.iadd, 1) := by decide +kernel
theorem dX9_kindsBy_66 : decode cX9_kindsBy 66 = .ok (.iaload, 1) := by decide +kernel
theorem dX9_kindsBy_67 : decode cX9_kindsBy 67 = .ok (.invokestatic 103, 3) := by decide +kernel
theorem dX9_kindsBy_70 : decode cX9_kindsBy 70 = .ok (.goto 35, 3) := by decide +kernel
theorem dX9_kindsBy_73 : decode cX9_kindsBy 73 = .ok (.iload 6, 2) := by decide +kernel
theorem dX9_kindsBy_75 : decode cX9_kindsBy 75 = .ok (.aload_n 0, 1) := by decide +kernel
theorem dX9_kindsBy_76 : decode cX9_kindsBy 76 = .ok (.getfield 7, 3) := by decide +kernel
theorem dX9_kindsBy_79 : decode cX9_kindsBy 79 = .ok (.iload 9, 2) := by decide +kernel
theorem dX9_kindsBy_81 : decode cX9_kindsBy 81 = .ok (.iconst 1, 1) := by decide +kernel
theorem dX9_kindsBy_82 : decode cX9_kindsBy 82 = .ok (.iadd, 1) := by decide +kernel
theorem dX9_kindsBy_83 : decode cX9_kindsBy 83 = .ok (.iaload, 1) := by decide +kernel
theorem dX9_kindsBy_84 : decode cX9_kindsBy 84 = .ok (.aload_n 0, 1) := by decide +kernel
theorem dX9_kindsBy_85 : decode cX9_kindsBy 85 = .ok (.getfield 7, 3) := by decide +kernel
theorem dX9_kindsBy_88 : decode cX9_kindsBy 88 = .ok (.iload 9, 2) := by decide +kernel
theorem dX9_kindsBy_90 : decode cX9_kindsBy 90 = .ok (.iconst 2, 1) := by decide +kernel
theorem dX9_kindsBy_91 : decode cX9_kindsBy 91 = .ok (.iadd, 1) := by decide +kernel
theorem dX9_kindsBy_92 : decode cX9_kindsBy 92 = .ok (.iaload, 1) := by decide +kernel
theorem dX9_kindsBy_93 : decode cX9_kindsBy 93 = .ok (.aload_n 0, 1) := by decide +kernel
theorem dX9_kindsBy_94 : decode cX9_kindsBy 94 = .ok (.getfield 7, 3) := by decide +kernel
theorem dX9_kindsBy_97 : decode cX9_kindsBy 97 = .ok (.iload 9, 2) := by decide +kernel
theorem dX9_kindsBy_99 : decode cX9_kindsBy 99 = .ok (.iconst 3, 1) := by decide +kernel
theorem dX9_kindsBy_100 : decode cX9_kindsBy 100 = .ok (.iadd, 1) := by decide +kernel
theorem dX9_kindsBy_101 : decode cX9_kindsBy 101 = .ok (.iaload, 1) := by decide +kernel
theorem dX9_kindsBy_102 : decode cX9_kindsBy 102 = .ok (.invokestatic 110, 3) := by decide +kernel
theorem dX9_kindsBy_105 : decode cX9_kindsBy 105 = .ok (.istore 10, 2) := by decide +kernel
theorem dX9_kindsBy_107 : decode cX9_kindsBy 107 = .ok (.iload 7, 2) := by decide +kernel
theorem dX9_kindsBy_109 : decode cX9_kindsBy 109 = .ok (.ifCond .eq 32, 3) := by decide +kernel
theorem dX9_kindsBy_112 : decode cX9_kindsBy 112 = .ok (.aload_n 0, 1) := by decide +kernel
theorem dX9_kindsBy_113 : decode cX9_kindsBy 113 = .ok (.getfield 7, 3) := by decide +kernel
theorem dX9_kindsBy_116 : decode cX9_kindsBy 116 = .ok (.iload 9, 2) := by decide +kernel
theorem dX9_kindsBy_118 : decode cX9_kindsBy 118 = .ok (.iaload, 1) := by decide +kernel
theorem dX9_kindsBy_119 : decode cX9_kindsBy 119 = .ok (.iload_n 1, 1) := by decide +kernel
theorem dX9_kindsBy_120 : decode cX9_kindsBy 120 = .ok (.if_icmp .ne 17, 3) := by decide +kernel
theorem dX9_kindsBy_123 : decode cX9_kindsBy 123 = .ok (.iload 10, 2) := by decide +kernel
theorem dX9_kindsBy_125 : decode cX9_kindsBy 125 = .ok (.aload_n 0, 1) := by decide +kernel
theorem dX9_kindsBy_126 : decode cX9_kindsBy 126 = .ok (.getfield 7, 3) := by decide +kernel
theorem dX9_kindsBy_129 : decode cX9_kindsBy 129 = .ok (.iload 9, 2) := by decide +kernel
theorem dX9_kindsBy_131 : decode cX9_kindsBy 131 = .ok (.iconst 4, 1) := by decide +kernel
theorem dX9_kindsBy_132 : decode cX9_kindsBy 132 = .ok (.iadd, 1) := by decide +kernel
theorem dX9_kindsBy_133 : decode cX9_kindsBy 133 = .ok (.iaload, 1) := by decide +kernel
theorem dX9_kindsBy_134 : decode cX9_kindsBy 134 = .ok (.if_icmp .ne 7, 3) := by decide +kernel
theorem dX9_kindsBy_137 : decode cX9_kindsBy 137 = .ok (.iconst 1, 1) := by decide +kernel
theorem dX9_kindsBy_138 : decode cX9_kindsBy 138 = .ok (.goto 4, 3) := by decide +kernel
theorem dX9_kindsBy_141 : decode cX9_kindsBy 141 = .ok (.iconst 0, 1) := by decide +kernel
theorem dX9_kindsBy_142 : decode cX9_kindsBy 142 = .ok (.istore 7, 2) := by decide +kernel
theorem dX9_kindsBy_144 : decode cX9_kindsBy 144 = .ok (.iinc 8 1, 3) := by decide +kernel
theorem dX9_kindsBy_147 : decode cX9_kindsBy 147 = .ok (.goto (-128), 3) := by decide +kernel
theorem dX9_kindsBy_150 : decode cX9_kindsBy 150 = .ok (.iload 5, 2) := by decide +kernel
theorem dX9_kindsBy_152 : decode cX9_kindsBy 152 = .ok (.iload 7, 2) := by decide +kernel
theorem dX9_kindsBy_154 : decode cX9_kindsBy 154 = .ok (.ifCond .eq 10, 3) := by decide +kernel
theorem dX9_kindsBy_157 : decode cX9_kindsBy 157 = .ok (.iconst 1, 1) := by decide +kernel
theorem dX9_kindsBy_158 : decode cX9_kindsBy 158 = .ok (.iload 6, 2) := by decide +kernel
theorem dX9_kindsBy_160 : decode cX9_kindsBy 160 = .ok (.ishl, 1) := by decide +kernel
theorem dX9_kindsBy_161 : decode cX9_kindsBy 161 = .ok (.goto 4, 3) := by decide +kernel
theorem dX9_kindsBy_164 : decode cX9_kindsBy 164 = .ok (.iconst 0, 1) := by decide +kernel
theorem dX9_kindsBy_165 : decode cX9_kindsBy 165 = .ok (.ior, 1) := by decide +kernel
theorem dX9_kindsBy_166 : decode cX9_kindsBy 166 = .ok (.istore 5, 2) := by decide +kernel
theorem dX9_kindsBy_168 : decode cX9_kindsBy 168 = .ok (.iinc 6 1, 3) := by decide +kernel
theorem dX9_kindsBy_171 : decode cX9_kindsBy 171 = .ok (.goto (-165), 3) := by decide +kernel
theorem dX9_kindsBy_174 : decode cX9_kindsBy 174 = .ok (.iload 5, 2) := by decide +kernel
theorem dX9_kindsBy_176 : decode cX9_kindsBy 176 = .ok (.ireturn, 1) := by decide +kernel
theorem dX9_kindsOfHorse_0 : decode cX9_kindsOfHorse 0 = .ok (.aload_n 0, 1) := by decide +kernel
theorem dX9_kindsOfHorse_1 : decode cX9_kindsOfHorse 1 = .ok (.iload_n 1, 1) := by decide +kernel
theorem dX9_kindsOfHorse_2 : decode cX9_kindsOfHorse 2 = .ok (.bipush 78, 2) := by decide +kernel
theorem dX9_kindsOfHorse_4 : decode cX9_kindsOfHorse 4 = .ok (.aload_n 0, 1) := by decide +kernel
theorem dX9_kindsOfHorse_5 : decode cX9_kindsOfHorse 5 = .ok (.getfield 7, 3) := by decide +kernel
theorem dX9_kindsOfHorse_8 : decode cX9_kindsOfHorse 8 = .ok (.iconst 2, 1) := by decide +kernel
theorem dX9_kindsOfHorse_9 : decode cX9_kindsOfHorse 9 = .ok (.iaload, 1) := by decide +kernel
theorem dX9_kindsOfHorse_10 : decode cX9_kindsOfHorse 10 = .ok (.iconst 1, 1) := by decide +kernel
theorem dX9_kindsOfHorse_11 : decode cX9_kindsOfHorse 11 = .ok (.invokevirtual 171, 3) := by decide +kernel
theorem dX9_kindsOfHorse_14 : decode cX9_kindsOfHorse 14 = .ok (.ireturn, 1) := by decide +kernel
theorem dX9_kindsOfRider_0 : decode cX9_kindsOfRider 0 = .ok (.aload_n 0, 1) := by decide +kernel
theorem dX9_kindsOfRider_1 : decode cX9_kindsOfRider 1 = .ok (.iload_n 1, 1) := by decide +kernel
theorem dX9_kindsOfRider_2 : decode cX9_kindsOfRider 2 = .ok (.bipush 108, 2) := by decide +kernel
theorem dX9_kindsOfRider_4 : decode cX9_kindsOfRider 4 = .ok (.aload_n 0, 1) := by decide +kernel
theorem dX9_kindsOfRider_5 : decode cX9_kindsOfRider 5 = .ok (.getfield 7, 3) := by decide +kernel
theorem dX9_kindsOfRider_8 : decode cX9_kindsOfRider 8 = .ok (.iconst 3, 1) := by decide +kernel
theorem dX9_kindsOfRider_9 : decode cX9_kindsOfRider 9 = .ok (.iaload, 1) := by decide +kernel
theorem dX9_kindsOfRider_10 : decode cX9_kindsOfRider 10 = .ok (.iconst 0, 1) := by decide +kernel
theorem dX9_kindsOfRider_11 : decode cX9_kindsOfRider 11 = .ok (.invokevirtual 171, 3) := by decide +kernel
theorem dX9_kindsOfRider_14 : decode cX9_kindsOfRider 14 = .ok (.ireturn, 1) := by decide +kernel
theorem dX9_is_0 : decode cX9_is 0 = .ok (.aload_n 0, 1) := by decide +kernel
theorem dX9_is_1 : decode cX9_is 1 = .ok (.iload_n 1, 1) := by decide +kernel
theorem dX9_is_2 : decode cX9_is 2 = .ok (.invokevirtual 77, 3) := by decide +kernel
theorem dX9_is_5 : decode cX9_is 5 = .ok (.ifCond .eq 11, 3) := by decide +kernel
theorem dX9_is_8 : decode cX9_is 8 = .ok (.aload_n 0, 1) := by decide +kernel
theorem dX9_is_9 : decode cX9_is 9 = .ok (.iload_n 1, 1) := by decide +kernel
theorem dX9_is_10 : decode cX9_is 10 = .ok (.invokevirtual 175, 3) := by decide +kernel
theorem dX9_is_13 : decode cX9_is 13 = .ok (.goto 9, 3) := by decide +kernel
theorem dX9_is_16 : decode cX9_is 16 = .ok (.aload_n 0, 1) := by decide +kernel
theorem dX9_is_17 : decode cX9_is 17 = .ok (.bipush (-2), 2) := by decide +kernel
theorem dX9_is_19 : decode cX9_is 19 = .ok (.invokevirtual 73, 3) := by decide +kernel
theorem dX9_is_22 : decode cX9_is 22 = .ok (.ireturn, 1) := by decide +kernel
theorem dX9_look_0 : decode cX9_look 0 = .ok (.aload_n 0, 1) := by decide +kernel
theorem dX9_look_1 : decode cX9_look 1 = .ok (.iload_n 1, 1) := by decide +kernel
theorem dX9_look_2 : decode cX9_look 2 = .ok (.invokevirtual 77, 3) := by decide +kernel
theorem dX9_look_5 : decode cX9_look 5 = .ok (.ifCond .ne 10, 3) := by decide +kernel
theorem dX9_look_8 : decode cX9_look 8 = .ok (.aload_n 0, 1) := by decide +kernel
theorem dX9_look_9 : decode cX9_look 9 = .ok (.bipush (-2), 2) := by decide +kernel
theorem dX9_look_11 : decode cX9_look 11 = .ok (.invokevirtual 73, 3) := by decide +kernel
theorem dX9_look_14 : decode cX9_look 14 = .ok (.ireturn, 1) := by decide +kernel
theorem dX9_look_15 : decode cX9_look 15 = .ok (.aload_n 0, 1) := by decide +kernel
theorem dX9_look_16 : decode cX9_look 16 = .ok (.iload_n 1, 1) := by decide +kernel
theorem dX9_look_17 : decode cX9_look 17 = .ok (.invokevirtual 175, 3) := by decide +kernel
theorem dX9_look_20 : decode cX9_look 20 = .ok (.istore_n 2, 1) := by decide +kernel
theorem dX9_look_21 : decode cX9_look 21 = .ok (.iconst (-1), 1) := by decide +kernel
theorem dX9_look_22 : decode cX9_look 22 = .ok (.istore_n 3, 1) := by decide +kernel
theorem dX9_look_23 : decode cX9_look 23 = .ok (.ldc 161, 2) := by decide +kernel
theorem dX9_look_25 : decode cX9_look 25 = .ok (.istore 4, 2) := by decide +kernel
theorem dX9_look_27 : decode cX9_look 27 = .ok (.iconst 0, 1) := by decide +kernel
theorem dX9_look_28 : decode cX9_look 28 = .ok (.istore 5, 2) := by decide +kernel
theorem dX9_look_30 : decode cX9_look 30 = .ok (.iload 5, 2) := by decide +kernel
theorem dX9_look_32 : decode cX9_look 32 = .ok (.bipush 8, 2) := by decide +kernel
theorem dX9_look_34 : decode cX9_look 34 = .ok (.if_icmp .ge 112, 3) := by decide +kernel
theorem dX9_look_37 : decode cX9_look 37 = .ok (.iload_n 2, 1) := by decide +kernel
theorem dX9_look_38 : decode cX9_look 38 = .ok (.ifCond .le 108, 3) := by decide +kernel
theorem dX9_look_41 : decode cX9_look 41 = .ok (.iconst 0, 1) := by decide +kernel
theorem dX9_look_42 : decode cX9_look 42 = .ok (.istore 6, 2) := by decide +kernel
theorem dX9_look_44 : decode cX9_look 44 = .ok (.iload 6, 2) := by decide +kernel
theorem dX9_look_46 : decode cX9_look 46 = .ok (.iconst 4, 1) := by decide +kernel
theorem dX9_look_47 : decode cX9_look 47 = .ok (.if_icmp .ge 93, 3) := by decide +kernel
theorem dX9_look_50 : decode cX9_look 50 = .ok (.iconst 0, 1) := by decide +kernel
theorem dX9_look_51 : decode cX9_look 51 = .ok (.istore 7, 2) := by decide +kernel
theorem dX9_look_53 : decode cX9_look 53 = .ok (.iload 7, 2) := by decide +kernel
theorem dX9_look_55 : decode cX9_look 55 = .ok (.bipush 6, 2) := by decide +kernel
theorem dX9_look_57 : decode cX9_look 57 = .ok (.if_icmp .ge 34, 3) := by decide +kernel
theorem dX9_look_60 : decode cX9_look 60 = .ok (.aload_n 0, 1) := by decide +kernel
theorem dX9_look_61 : decode cX9_look 61 = .ok (.getfield 30, 3) := by decide +kernel
theorem dX9_look_64 : decode cX9_look 64 = .ok (.iload 7, 2) := by decide +kernel
theorem dX9_look_66 : decode cX9_look 66 = .ok (.iload 7, 2) := by decide +kernel
theorem dX9_look_68 : decode cX9_look 68 = .ok (.aload_n 0, 1) := by decide +kernel
theorem dX9_look_69 : decode cX9_look 69 = .ok (.getfield 7, 3) := by decide +kernel
theorem dX9_look_72 : decode cX9_look 72 = .ok (.bipush 46, 2) := by decide +kernel
theorem dX9_look_74 : decode cX9_look 74 = .ok (.iload_n 1, 1) := by decide +kernel
theorem dX9_look_75 : decode cX9_look 75 = .ok (.iadd, 1) := by decide +kernel
theorem dX9_look_76 : decode cX9_look 76 = .ok (.iaload, 1) := by decide +kernel
theorem dX9_look_77 : decode cX9_look 77 = .ok (.iload 5, 2) := by decide +kernel
theorem dX9_look_79 : decode cX9_look 79 = .ok (.iload 6, 2) := by decide +kernel
theorem dX9_look_81 : decode cX9_look 81 = .ok (.invokestatic 103, 3) := by decide +kernel
theorem dX9_look_84 : decode cX9_look 84 = .ok (.iastore, 1) := by decide +kernel
theorem dX9_look_85 : decode cX9_look 85 = .ok (.iinc 7 1, 3) := by decide +kernel
theorem dX9_look_88 : decode cX9_look 88 = .ok (.goto (-35), 3) := by decide +kernel
theorem dX9_look_91 : decode cX9_look 91 = .ok (.aload_n 0, 1) := by decide +kernel
theorem dX9_look_92 : decode cX9_look 92 = .ok (.iload_n 2, 1) := by decide +kernel
theorem dX9_look_93 : decode cX9_look 93 = .ok (.invokevirtual 162, 3) := by decide +kernel
theorem dX9_look_96 : decode cX9_look 96 = .ok (.istore 7, 2) := by decide +kernel
theorem dX9_look_98 : decode cX9_look 98 = .ok (.iload 7, 2) := by decide +kernel
theorem dX9_look_100 : decode cX9_look 100 = .ok (.iload 4, 2) := by decide +kernel
theorem dX9_look_102 : decode cX9_look 102 = .ok (.if_icmp .ge 14, 3) := by decide +kernel
theorem dX9_look_105 : decode cX9_look 105 = .ok (.bipush 10, 2) := by decide +kernel
theorem dX9_look_107 : decode cX9_look 107 = .ok (.iload 5, 2) := by decide +kernel
theorem dX9_look_109 : decode cX9_look 109 = .ok (.imul, 1) := by decide +kernel
theorem dX9_look_110 : decode cX9_look 110 = .ok (.iload 6, 2) := by decide +kernel
theorem dX9_look_112 : decode cX9_look 112 = .ok (.iadd, 1) := by decide +kernel
theorem dX9_look_113 : decode cX9_look 113 = .ok (.goto 4, 3) := by decide +kernel
theorem dX9_look_116 : decode cX9_look 116 = .ok (.iload_n 3, 1) := by decide +kernel
theorem dX9_look_117 : decode cX9_look 117 = .ok (.istore_n 3, 1) := by decide +kernel
theorem dX9_look_118 : decode cX9_look 118 = .ok (.iload 7, 2) := by decide +kernel
theorem dX9_look_120 : decode cX9_look 120 = .ok (.iload 4, 2) := by decide +kernel
theorem dX9_look_122 : decode cX9_look 122 = .ok (.if_icmp .ge 8, 3) := by decide +kernel
theorem dX9_look_125 : decode cX9_look 125 = .ok (.iload 7, 2) := by decide +kernel
theorem dX9_look_127 : decode cX9_look 127 = .ok (.goto 5, 3) := by decide +kernel
theorem dX9_look_130 : decode cX9_look 130 = .ok (.iload 4, 2) := by decide +kernel
theorem dX9_look_132 : decode cX9_look 132 = .ok (.istore 4, 2) := by decide +kernel
theorem dX9_look_134 : decode cX9_look 134 = .ok (.iinc 6 1, 3) := by decide +kernel
theorem dX9_look_137 : decode cX9_look 137 = .ok (.goto (-93), 3) := by decide +kernel
theorem dX9_look_140 : decode cX9_look 140 = .ok (.iinc 5 1, 3) := by decide +kernel
theorem dX9_look_143 : decode cX9_look 143 = .ok (.goto (-113), 3) := by decide +kernel
theorem dX9_look_146 : decode cX9_look 146 = .ok (.iload_n 3, 1) := by decide +kernel
theorem dX9_look_147 : decode cX9_look 147 = .ok (.ireturn, 1) := by decide +kernel
theorem dX9_kinds_0 : decode cX9_kinds 0 = .ok (.aload_n 0, 1) := by decide +kernel
theorem dX9_kinds_1 : decode cX9_kinds 1 = .ok (.iload_n 1, 1) := by decide +kernel
theorem dX9_kinds_2 : decode cX9_kinds 2 = .ok (.invokevirtual 129, 3) := by decide +kernel
theorem dX9_kinds_5 : decode cX9_kinds 5 = .ok (.ifCond .eq 11, 3) := by decide +kernel
theorem dX9_kinds_8 : decode cX9_kinds 8 = .ok (.aload_n 0, 1) := by decide +kernel
theorem dX9_kinds_9 : decode cX9_kinds 9 = .ok (.iload_n 1, 1) := by decide +kernel
theorem dX9_kinds_10 : decode cX9_kinds 10 = .ok (.invokevirtual 178, 3) := by decide +kernel
theorem dX9_kinds_13 : decode cX9_kinds 13 = .ok (.goto 9, 3) := by decide +kernel
theorem dX9_kinds_16 : decode cX9_kinds 16 = .ok (.aload_n 0, 1) := by decide +kernel
theorem dX9_kinds_17 : decode cX9_kinds 17 = .ok (.bipush (-2), 2) := by decide +kernel
theorem dX9_kinds_19 : decode cX9_kinds 19 = .ok (.invokevirtual 73, 3) := by decide +kernel
theorem dX9_kinds_22 : decode cX9_kinds 22 = .ok (.ireturn, 1) := by decide +kernel
theorem dX9_ask_0 : decode cX9_ask 0 = .ok (.aload_n 0, 1) := by decide +kernel
theorem dX9_ask_1 : decode cX9_ask 1 = .ok (.iload_n 1, 1) := by decide +kernel
theorem dX9_ask_2 : decode cX9_ask 2 = .ok (.invokevirtual 129, 3) := by decide +kernel
theorem dX9_ask_5 : decode cX9_ask 5 = .ok (.ifCond .ne 10, 3) := by decide +kernel
theorem dX9_ask_8 : decode cX9_ask 8 = .ok (.aload_n 0, 1) := by decide +kernel
theorem dX9_ask_9 : decode cX9_ask 9 = .ok (.bipush (-2), 2) := by decide +kernel
theorem dX9_ask_11 : decode cX9_ask 11 = .ok (.invokevirtual 73, 3) := by decide +kernel
theorem dX9_ask_14 : decode cX9_ask 14 = .ok (.ireturn, 1) := by decide +kernel
theorem dX9_ask_15 : decode cX9_ask 15 = .ok (.aload_n 0, 1) := by decide +kernel
theorem dX9_ask_16 : decode cX9_ask 16 = .ok (.iload_n 1, 1) := by decide +kernel
theorem dX9_ask_17 : decode cX9_ask 17 = .ok (.invokevirtual 178, 3) := by decide +kernel
theorem dX9_ask_20 : decode cX9_ask 20 = .ok (.istore_n 2, 1) := by decide +kernel
theorem dX9_ask_21 : decode cX9_ask 21 = .ok (.iconst (-1), 1) := by decide +kernel
theorem dX9_ask_22 : decode cX9_ask 22 = .ok (.istore_n 3, 1) := by decide +kernel
theorem dX9_ask_23 : decode cX9_ask 23 = .ok (.ldc 161, 2) := by decide +kernel
theorem dX9_ask_25 : decode cX9_ask 25 = .ok (.istore 4, 2) := by decide +kernel
theorem dX9_ask_27 : decode cX9_ask 27 = .ok (.iconst 0, 1) := by decide +kernel
theorem dX9_ask_28 : decode cX9_ask 28 = .ok (.istore 5, 2) := by decide +kernel
theorem dX9_ask_30 : decode cX9_ask 30 = .ok (.iload 5, 2) := by decide +kernel
theorem dX9_ask_32 : decode cX9_ask 32 = .ok (.bipush 10, 2) := by decide +kernel
theorem dX9_ask_34 : decode cX9_ask 34 = .ok (.if_icmp .gt 113, 3) := by decide +kernel
theorem dX9_ask_37 : decode cX9_ask 37 = .ok (.iload_n 2, 1) := by decide +kernel
theorem dX9_ask_38 : decode cX9_ask 38 = .ok (.ifCond .le 109, 3) := by decide +kernel
theorem dX9_ask_41 : decode cX9_ask 41 = .ok (.iconst 0, 1) := by decide +kernel
theorem dX9_ask_42 : decode cX9_ask 42 = .ok (.istore 6, 2) := by decide +kernel
theorem dX9_ask_44 : decode cX9_ask 44 = .ok (.iload 6, 2) := by decide +kernel
theorem dX9_ask_46 : decode cX9_ask 46 = .ok (.bipush 10, 2) := by decide +kernel
theorem dX9_ask_48 : decode cX9_ask 48 = .ok (.if_icmp .ge 93, 3) := by decide +kernel
theorem dX9_ask_51 : decode cX9_ask 51 = .ok (.iconst 0, 1) := by decide +kernel
theorem dX9_ask_52 : decode cX9_ask 52 = .ok (.istore 7, 2) := by decide +kernel
theorem dX9_ask_54 : decode cX9_ask 54 = .ok (.iload 7, 2) := by decide +kernel
theorem dX9_ask_56 : decode cX9_ask 56 = .ok (.bipush 6, 2) := by decide +kernel
theorem dX9_ask_58 : decode cX9_ask 58 = .ok (.if_icmp .ge 34, 3) := by decide +kernel
theorem dX9_ask_61 : decode cX9_ask 61 = .ok (.aload_n 0, 1) := by decide +kernel
theorem dX9_ask_62 : decode cX9_ask 62 = .ok (.getfield 30, 3) := by decide +kernel
theorem dX9_ask_65 : decode cX9_ask 65 = .ok (.iload 7, 2) := by decide +kernel
theorem dX9_ask_67 : decode cX9_ask 67 = .ok (.iload 7, 2) := by decide +kernel
theorem dX9_ask_69 : decode cX9_ask 69 = .ok (.aload_n 0, 1) := by decide +kernel
theorem dX9_ask_70 : decode cX9_ask 70 = .ok (.getfield 7, 3) := by decide +kernel
theorem dX9_ask_73 : decode cX9_ask 73 = .ok (.bipush 28, 2) := by decide +kernel
theorem dX9_ask_75 : decode cX9_ask 75 = .ok (.iload_n 1, 1) := by decide +kernel
theorem dX9_ask_76 : decode cX9_ask 76 = .ok (.iadd, 1) := by decide +kernel
theorem dX9_ask_77 : decode cX9_ask 77 = .ok (.iaload, 1) := by decide +kernel
theorem dX9_ask_78 : decode cX9_ask 78 = .ok (.iload 5, 2) := by decide +kernel
theorem dX9_ask_80 : decode cX9_ask 80 = .ok (.iload 6, 2) := by decide +kernel
theorem dX9_ask_82 : decode cX9_ask 82 = .ok (.invokestatic 110, 3) := by decide +kernel
theorem dX9_ask_85 : decode cX9_ask 85 = .ok (.iastore, 1) := by decide +kernel
theorem dX9_ask_86 : decode cX9_ask 86 = .ok (.iinc 7 1, 3) := by decide +kernel
theorem dX9_ask_89 : decode cX9_ask 89 = .ok (.goto (-35), 3) := by decide +kernel
theorem dX9_ask_92 : decode cX9_ask 92 = .ok (.aload_n 0, 1) := by decide +kernel
theorem dX9_ask_93 : decode cX9_ask 93 = .ok (.iload_n 2, 1) := by decide +kernel
theorem dX9_ask_94 : decode cX9_ask 94 = .ok (.invokevirtual 162, 3) := by decide +kernel
theorem dX9_ask_97 : decode cX9_ask 97 = .ok (.istore 7, 2) := by decide +kernel
theorem dX9_ask_99 : decode cX9_ask 99 = .ok (.iload 7, 2) := by decide +kernel
theorem dX9_ask_101 : decode cX9_ask 101 = .ok (.iload 4, 2) := by decide +kernel
theorem dX9_ask_103 : decode cX9_ask 103 = .ok (.if_icmp .ge 14, 3) := by decide +kernel
theorem dX9_ask_106 : decode cX9_ask 106 = .ok (.bipush 10, 2) := by decide +kernel
theorem dX9_ask_108 : decode cX9_ask 108 = .ok (.iload 5, 2) := by decide +kernel
theorem dX9_ask_110 : decode cX9_ask 110 = .ok (.imul, 1) := by decide +kernel
theorem dX9_ask_111 : decode cX9_ask 111 = .ok (.iload 6, 2) := by decide +kernel
theorem dX9_ask_113 : decode cX9_ask 113 = .ok (.iadd, 1) := by decide +kernel
theorem dX9_ask_114 : decode cX9_ask 114 = .ok (.goto 4, 3) := by decide +kernel
theorem dX9_ask_117 : decode cX9_ask 117 = .ok (.iload_n 3, 1) := by decide +kernel
theorem dX9_ask_118 : decode cX9_ask 118 = .ok (.istore_n 3, 1) := by decide +kernel
theorem dX9_ask_119 : decode cX9_ask 119 = .ok (.iload 7, 2) := by decide +kernel
theorem dX9_ask_121 : decode cX9_ask 121 = .ok (.iload 4, 2) := by decide +kernel
theorem dX9_ask_123 : decode cX9_ask 123 = .ok (.if_icmp .ge 8, 3) := by decide +kernel
theorem dX9_ask_126 : decode cX9_ask 126 = .ok (.iload 7, 2) := by decide +kernel
theorem dX9_ask_128 : decode cX9_ask 128 = .ok (.goto 5, 3) := by decide +kernel
theorem dX9_ask_131 : decode cX9_ask 131 = .ok (.iload 4, 2) := by decide +kernel
theorem dX9_ask_133 : decode cX9_ask 133 = .ok (.istore 4, 2) := by decide +kernel
theorem dX9_ask_135 : decode cX9_ask 135 = .ok (.iinc 6 1, 3) := by decide +kernel
theorem dX9_ask_138 : decode cX9_ask 138 = .ok (.goto (-94), 3) := by decide +kernel
theorem dX9_ask_141 : decode cX9_ask 141 = .ok (.iinc 5 1, 3) := by decide +kernel
theorem dX9_ask_144 : decode cX9_ask 144 = .ok (.goto (-114), 3) := by decide +kernel
theorem dX9_ask_147 : decode cX9_ask 147 = .ok (.iload_n 3, 1) := by decide +kernel
theorem dX9_ask_148 : decode cX9_ask 148 = .ok (.ireturn, 1) := by decide +kernel
theorem dX9_getsBy_0 : decode cX9_getsBy 0 = .ok (.iconst 2, 1) := by decide +kernel
theorem dX9_getsBy_1 : decode cX9_getsBy 1 = .ok (.aload_n 0, 1) := by decide +kernel
theorem dX9_getsBy_2 : decode cX9_getsBy 2 = .ok (.getfield 33, 3) := by decide +kernel
theorem dX9_getsBy_5 : decode cX9_getsBy 5 = .ok (.iconst 4, 1) := by decide +kernel
theorem dX9_getsBy_6 : decode cX9_getsBy 6 = .ok (.iload_n 1, 1) := by decide +kernel
theorem dX9_getsBy_7 : decode cX9_getsBy 7 = .ok (.imul, 1) := by decide +kernel
theorem dX9_getsBy_8 : decode cX9_getsBy 8 = .ok (.iload_n 3, 1) := by decide +kernel
theorem dX9_getsBy_9 : decode cX9_getsBy 9 = .ok (.iconst 2, 1) := by decide +kernel
theorem dX9_getsBy_10 : decode cX9_getsBy 10 = .ok (.idiv, 1) := by decide +kernel
theorem dX9_getsBy_11 : decode cX9_getsBy 11 = .ok (.iadd, 1) := by decide +kernel
theorem dX9_getsBy_12 : decode cX9_getsBy 12 = .ok (.iaload, 1) := by decide +kernel
theorem dX9_getsBy_13 : decode cX9_getsBy 13 = .ok (.imul, 1) := by decide +kernel
theorem dX9_getsBy_14 : decode cX9_getsBy 14 = .ok (.iload_n 2, 1) := by decide +kernel
theorem dX9_getsBy_15 : decode cX9_getsBy 15 = .ok (.isub, 1) := by decide +kernel
theorem dX9_getsBy_16 : decode cX9_getsBy 16 = .ok (.ireturn, 1) := by decide +kernel
theorem dX9_rests_0 : decode cX9_rests 0 = .ok (.iconst 1, 1) := by decide +kernel
theorem dX9_rests_1 : decode cX9_rests 1 = .ok (.istore_n 3, 1) := by decide +kernel
theorem dX9_rests_2 : decode cX9_rests 2 = .ok (.iconst 0, 1) := by decide +kernel
theorem dX9_rests_3 : decode cX9_rests 3 = .ok (.istore 4, 2) := by decide +kernel
theorem dX9_rests_5 : decode cX9_rests 5 = .ok (.iload 4, 2) := by decide +kernel
theorem dX9_rests_7 : decode cX9_rests 7 = .ok (.iconst 4, 1) := by decide +kernel
theorem dX9_rests_8 : decode cX9_rests 8 = .ok (.if_icmp .ge 65, 3) := by decide +kernel
theorem dX9_rests_11 : decode cX9_rests 11 = .ok (.iload_n 3, 1) := by decide +kernel
theorem dX9_rests_12 : decode cX9_rests 12 = .ok (.ifCond .eq 53, 3) := by decide +kernel
theorem dX9_rests_15 : decode cX9_rests 15 = .ok (.aload_n 0, 1) := by decide +kernel
theorem dX9_rests_16 : decode cX9_rests 16 = .ok (.iconst 0, 1) := by decide +kernel
theorem dX9_rests_17 : decode cX9_rests 17 = .ok (.iload 4, 2) := by decide +kernel
theorem dX9_rests_19 : decode cX9_rests 19 = .ok (.iload 4, 2) := by decide +kernel
theorem dX9_rests_21 : decode cX9_rests 21 = .ok (.iload_n 2, 1) := by decide +kernel
theorem dX9_rests_22 : decode cX9_rests 22 = .ok (.iadd, 1) := by decide +kernel
theorem dX9_rests_23 : decode cX9_rests 23 = .ok (.invokevirtual 181, 3) := by decide +kernel
theorem dX9_rests_26 : decode cX9_rests 26 = .ok (.aload_n 0, 1) := by decide +kernel
theorem dX9_rests_27 : decode cX9_rests 27 = .ok (.iconst 0, 1) := by decide +kernel
theorem dX9_rests_28 : decode cX9_rests 28 = .ok (.iload_n 1, 1) := by decide +kernel
theorem dX9_rests_29 : decode cX9_rests 29 = .ok (.iload_n 1, 1) := by decide +kernel
theorem dX9_rests_30 : decode cX9_rests 30 = .ok (.iload_n 2, 1) := by decide +kernel
theorem dX9_rests_31 : decode cX9_rests 31 = .ok (.iadd, 1) := by decide +kernel
theorem dX9_rests_32 : decode cX9_rests 32 = .ok (.invokevirtual 181, 3) := by decide +kernel
theorem dX9_rests_35 : decode cX9_rests 35 = .ok (.if_icmp .gt 30, 3) := by decide +kernel
theorem dX9_rests_38 : decode cX9_rests 38 = .ok (.aload_n 0, 1) := by decide +kernel
theorem dX9_rests_39 : decode cX9_rests 39 = .ok (.iconst 1, 1) := by decide +kernel
theorem dX9_rests_40 : decode cX9_rests 40 = .ok (.iload 4, 2) := by decide +kernel
theorem dX9_rests_42 : decode cX9_rests 42 = .ok (.iload_n 1, 1) := by decide +kernel
theorem dX9_rests_43 : decode cX9_rests 43 = .ok (.iload 4, 2) := by decide +kernel
theorem dX9_rests_45 : decode cX9_rests 45 = .ok (.iadd, 1) := by decide +kernel
theorem dX9_rests_46 : decode cX9_rests 46 = .ok (.invokevirtual 181, 3) := by decide +kernel
theorem dX9_rests_49 : decode cX9_rests 49 = .ok (.aload_n 0, 1) := by decide +kernel
theorem dX9_rests_50 : decode cX9_rests 50 = .ok (.iconst 1, 1) := by decide +kernel
theorem dX9_rests_51 : decode cX9_rests 51 = .ok (.iload_n 2, 1) := by decide +kernel
theorem dX9_rests_52 : decode cX9_rests 52 = .ok (.iload_n 1, 1) := by decide +kernel
theorem dX9_rests_53 : decode cX9_rests 53 = .ok (.iload_n 2, 1) := by decide +kernel
theorem dX9_rests_54 : decode cX9_rests 54 = .ok (.iadd, 1) := by decide +kernel
theorem dX9_rests_55 : decode cX9_rests 55 = .ok (.invokevirtual 181, 3) := by decide +kernel
theorem dX9_rests_58 : decode cX9_rests 58 = .ok (.if_icmp .gt 7, 3) := by decide +kernel
theorem dX9_rests_61 : decode cX9_rests 61 = .ok (.iconst 1, 1) := by decide +kernel
theorem dX9_rests_62 : decode cX9_rests 62 = .ok (.goto 4, 3) := by decide +kernel
theorem dX9_rests_65 : decode cX9_rests 65 = .ok (.iconst 0, 1) := by decide +kernel
theorem dX9_rests_66 : decode cX9_rests 66 = .ok (.istore_n 3, 1) := by decide +kernel
theorem dX9_rests_67 : decode cX9_rests 67 = .ok (.iinc 4 1, 3) := by decide +kernel
theorem dX9_rests_70 : decode cX9_rests 70 = .ok (.goto (-65), 3) := by decide +kernel
theorem dX9_rests_73 : decode cX9_rests 73 = .ok (.iload_n 3, 1) := by decide +kernel
theorem dX9_rests_74 : decode cX9_rests 74 = .ok (.ireturn, 1) := by decide +kernel
theorem dX9_hands_0 : decode cX9_hands 0 = .ok (.aload_n 0, 1) := by decide +kernel
theorem dX9_hands_1 : decode cX9_hands 1 = .ok (.iload_n 1, 1) := by decide +kernel
theorem dX9_hands_2 : decode cX9_hands 2 = .ok (.invokevirtual 129, 3) := by decide +kernel
theorem dX9_hands_5 : decode cX9_hands 5 = .ok (.ifCond .eq 21, 3) := by decide +kernel
theorem dX9_hands_8 : decode cX9_hands 8 = .ok (.aload_n 0, 1) := by decide +kernel
theorem dX9_hands_9 : decode cX9_hands 9 = .ok (.iload_n 2, 1) := by decide +kernel
theorem dX9_hands_10 : decode cX9_hands 10 = .ok (.invokevirtual 129, 3) := by decide +kernel
theorem dX9_hands_13 : decode cX9_hands 13 = .ok (.ifCond .eq 13, 3) := by decide +kernel
theorem dX9_hands_16 : decode cX9_hands 16 = .ok (.iload_n 1, 1) := by decide +kernel
theorem dX9_hands_17 : decode cX9_hands 17 = .ok (.iload_n 2, 1) := by decide +kernel
theorem dX9_hands_18 : decode cX9_hands 18 = .ok (.if_icmp .eq 8, 3) := by decide +kernel
theorem dX9_hands_21 : decode cX9_hands 21 = .ok (.iload_n 3, 1) := by decide +kernel
theorem dX9_hands_22 : decode cX9_hands 22 = .ok (.iconst (-1), 1) := by decide +kernel
theorem dX9_hands_23 : decode cX9_hands 23 = .ok (.if_icmp .ge 10, 3) := by decide +kernel
theorem dX9_hands_26 : decode cX9_hands 26 = .ok (.aload_n 0, 1) := by decide +kernel
theorem dX9_hands_27 : decode cX9_hands 27 = .ok (.bipush (-10), 2) := by decide +kernel
theorem dX9_hands_29 : decode cX9_hands 29 = .ok (.invokevirtual 73, 3) := by decide +kernel
theorem dX9_hands_32 : decode cX9_hands 32 = .ok (.ireturn, 1) := by decide +kernel
theorem dX9_hands_33 : decode cX9_hands 33 = .ok (.iconst 0, 1) := by decide +kernel
theorem dX9_hands_34 : decode cX9_hands 34 = .ok (.istore 4, 2) := by decide +kernel
theorem dX9_hands_36 : decode cX9_hands 36 = .ok (.iload 4, 2) := by decide +kernel
theorem dX9_hands_38 : decode cX9_hands 38 = .ok (.iconst 4, 1) := by decide +kernel
theorem dX9_hands_39 : decode cX9_hands 39 = .ok (.if_icmp .ge 65, 3) := by decide +kernel
theorem dX9_hands_42 : decode cX9_hands 42 = .ok (.aload_n 0, 1) := by decide +kernel
theorem dX9_hands_43 : decode cX9_hands 43 = .ok (.invokevirtual 139, 3) := by decide +kernel
theorem dX9_hands_46 : decode cX9_hands 46 = .ok (.aload_n 0, 1) := by decide +kernel
theorem dX9_hands_47 : decode cX9_hands 47 = .ok (.getfield 27, 3) := by decide +kernel
theorem dX9_hands_50 : decode cX9_hands 50 = .ok (.bipush 6, 2) := by decide +kernel
theorem dX9_hands_52 : decode cX9_hands 52 = .ok (.iload 4, 2) := by decide +kernel
theorem dX9_hands_54 : decode cX9_hands 54 = .ok (.iastore, 1) := by decide +kernel
theorem dX9_hands_55 : decode cX9_hands 55 = .ok (.aload_n 0, 1) := by decide +kernel
theorem dX9_hands_56 : decode cX9_hands 56 = .ok (.getfield 33, 3) := by decide +kernel
theorem dX9_hands_59 : decode cX9_hands 59 = .ok (.iload 4, 2) := by decide +kernel
theorem dX9_hands_61 : decode cX9_hands 61 = .ok (.aload_n 0, 1) := by decide +kernel
theorem dX9_hands_62 : decode cX9_hands 62 = .ok (.iload_n 1, 1) := by decide +kernel
theorem dX9_hands_63 : decode cX9_hands 63 = .ok (.bipush 8, 2) := by decide +kernel
theorem dX9_hands_65 : decode cX9_hands 65 = .ok (.invokevirtual 142, 3) := by decide +kernel
theorem dX9_hands_68 : decode cX9_hands 68 = .ok (.iastore, 1) := by decide +kernel
theorem dX9_hands_69 : decode cX9_hands 69 = .ok (.aload_n 0, 1) := by decide +kernel
theorem dX9_hands_70 : decode cX9_hands 70 = .ok (.invokevirtual 139, 3) := by decide +kernel
theorem dX9_hands_73 : decode cX9_hands 73 = .ok (.aload_n 0, 1) := by decide +kernel
theorem dX9_hands_74 : decode cX9_hands 74 = .ok (.getfield 27, 3) := by decide +kernel
theorem dX9_hands_77 : decode cX9_hands 77 = .ok (.bipush 6, 2) := by decide +kernel
theorem dX9_hands_79 : decode cX9_hands 79 = .ok (.iload 4, 2) := by decide +kernel
theorem dX9_hands_81 : decode cX9_hands 81 = .ok (.iastore, 1) := by decide +kernel
theorem dX9_hands_82 : decode cX9_hands 82 = .ok (.aload_n 0, 1) := by decide +kernel
theorem dX9_hands_83 : decode cX9_hands 83 = .ok (.getfield 33, 3) := by decide +kernel
theorem dX9_hands_86 : decode cX9_hands 86 = .ok (.iconst 4, 1) := by decide +kernel
theorem dX9_hands_87 : decode cX9_hands 87 = .ok (.iload 4, 2) := by decide +kernel
theorem dX9_hands_89 : decode cX9_hands 89 = .ok (.iadd, 1) := by decide +kernel
theorem dX9_hands_90 : decode cX9_hands 90 = .ok (.aload_n 0, 1) := by decide +kernel
theorem dX9_hands_91 : decode cX9_hands 91 = .ok (.iload_n 2, 1) := by decide +kernel
theorem dX9_hands_92 : decode cX9_hands 92 = .ok (.bipush 8, 2) := by decide +kernel
theorem dX9_hands_94 : decode cX9_hands 94 = .ok (.invokevirtual 142, 3) := by decide +kernel
theorem dX9_hands_97 : decode cX9_hands 97 = .ok (.iastore, 1) := by decide +kernel
theorem dX9_hands_98 : decode cX9_hands 98 = .ok (.iinc 4 1, 3) := by decide +kernel
theorem dX9_hands_101 : decode cX9_hands 101 = .ok (.goto (-65), 3) := by decide +kernel
theorem dX9_hands_104 : decode cX9_hands 104 = .ok (.iconst 0, 1) := by decide +kernel
theorem dX9_hands_105 : decode cX9_hands 105 = .ok (.istore 4, 2) := by decide +kernel
theorem dX9_hands_107 : decode cX9_hands 107 = .ok (.iconst 0, 1) := by decide +kernel
theorem dX9_hands_108 : decode cX9_hands 108 = .ok (.istore 5, 2) := by decide +kernel
theorem dX9_hands_110 : decode cX9_hands 110 = .ok (.iload 5, 2) := by decide +kernel
theorem dX9_hands_112 : decode cX9_hands 112 = .ok (.bipush 16, 2) := by decide +kernel
theorem dX9_hands_114 : decode cX9_hands 114 = .ok (.if_icmp .ge 46, 3) := by decide +kernel
theorem dX9_hands_117 : decode cX9_hands 117 = .ok (.aload_n 0, 1) := by decide +kernel
theorem dX9_hands_118 : decode cX9_hands 118 = .ok (.iload 5, 2) := by decide +kernel
theorem dX9_hands_120 : decode cX9_hands 120 = .ok (.iconst 4, 1) := by decide +kernel
theorem dX9_hands_121 : decode cX9_hands 121 = .ok (.idiv, 1) := by decide +kernel
theorem dX9_hands_122 : decode cX9_hands 122 = .ok (.iload 5, 2) := by decide +kernel
theorem dX9_hands_124 : decode cX9_hands 124 = .ok (.iconst 4, 1) := by decide +kernel
theorem dX9_hands_125 : decode cX9_hands 125 = .ok (.irem, 1) := by decide +kernel
theorem dX9_hands_126 : decode cX9_hands 126 = .ok (.invokevirtual 184, 3) := by decide +kernel
theorem dX9_hands_129 : decode cX9_hands 129 = .ok (.ifCond .eq 25, 3) := by decide +kernel
theorem dX9_hands_132 : decode cX9_hands 132 = .ok (.iload 4, 2) := by decide +kernel
theorem dX9_hands_134 : decode cX9_hands 134 = .ok (.iload_n 3, 1) := by decide +kernel
theorem dX9_hands_135 : decode cX9_hands 135 = .ok (.if_icmp .ne 16, 3) := by decide +kernel
theorem dX9_hands_138 : decode cX9_hands 138 = .ok (.bipush 10, 2) := by decide +kernel
theorem dX9_hands_140 : decode cX9_hands 140 = .ok (.iload 5, 2) := by decide +kernel
theorem dX9_hands_142 : decode cX9_hands 142 = .ok (.iconst 4, 1) := by decide +kernel
theorem dX9_hands_143 : decode cX9_hands 143 = .ok (.idiv, 1) := by decide +kernel
theorem dX9_hands_144 : decode cX9_hands 144 = .ok (.imul, 1) := by decide +kernel
theorem dX9_hands_145 : decode cX9_hands 145 = .ok (.iload 5, 2) := by decide +kernel
theorem dX9_hands_147 : decode cX9_hands 147 = .ok (.iconst 4, 1) := by decide +kernel
theorem dX9_hands_148 : decode cX9_hands 148 = .ok (.irem, 1) := by decide +kernel
theorem dX9_hands_149 : decode cX9_hands 149 = .ok (.iadd, 1) := by decide +kernel
theorem dX9_hands_150 : decode cX9_hands 150 = .ok (.ireturn, 1) := by decide +kernel
theorem dX9_hands_151 : decode cX9_hands 151 = .ok (.iinc 4 1, 3) := by decide +kernel
theorem dX9_hands_154 : decode cX9_hands 154 = .ok (.iinc 5 1, 3) := by decide +kernel
theorem dX9_hands_157 : decode cX9_hands 157 = .ok (.goto (-47), 3) := by decide +kernel
theorem dX9_hands_160 : decode cX9_hands 160 = .ok (.iload_n 3, 1) := by decide +kernel
theorem dX9_hands_161 : decode cX9_hands 161 = .ok (.iconst (-1), 1) := by decide +kernel
theorem dX9_hands_162 : decode cX9_hands 162 = .ok (.if_icmp .ne 8, 3) := by decide +kernel
theorem dX9_hands_165 : decode cX9_hands 165 = .ok (.iload 4, 2) := by decide +kernel
theorem dX9_hands_167 : decode cX9_hands 167 = .ok (.goto 5, 3) := by decide +kernel
theorem dX9_hands_170 : decode cX9_hands 170 = .ok (.bipush (-5), 2) := by decide +kernel
theorem dX9_hands_172 : decode cX9_hands 172 = .ok (.ireturn, 1) := by decide +kernel
theorem dX9_fraction_0 : decode cX9_fraction 0 = .ok (.lload_n 1, 1) := by decide +kernel
theorem dX9_fraction_1 : decode cX9_fraction 1 = .ok (.lstore 5, 2) := by decide +kernel
theorem dX9_fraction_3 : decode cX9_fraction 3 = .ok (.lload_n 3, 1) := by decide +kernel
theorem dX9_fraction_4 : decode cX9_fraction 4 = .ok (.lstore 7, 2) := by decide +kernel
theorem dX9_fraction_6 : decode cX9_fraction 6 = .ok (.lload 7, 2) := by decide +kernel
theorem dX9_fraction_8 : decode cX9_fraction 8 = .ok (.lconst 0, 1) := by decide +kernel
theorem dX9_fraction_9 : decode cX9_fraction 9 = .ok (.lcmp, 1) := by decide +kernel
theorem dX9_fraction_10 : decode cX9_fraction 10 = .ok (.ifCond .eq 21, 3) := by decide +kernel
theorem dX9_fraction_13 : decode cX9_fraction 13 = .ok (.lload 5, 2) := by decide +kernel
theorem dX9_fraction_15 : decode cX9_fraction 15 = .ok (.lload 7, 2) := by decide +kernel
theorem dX9_fraction_17 : decode cX9_fraction 17 = .ok (.lrem, 1) := by decide +kernel
theorem dX9_fraction_18 : decode cX9_fraction 18 = .ok (.lstore 9, 2) := by decide +kernel
theorem dX9_fraction_20 : decode cX9_fraction 20 = .ok (.lload 7, 2) := by decide +kernel
theorem dX9_fraction_22 : decode cX9_fraction 22 = .ok (.lstore 5, 2) := by decide +kernel
theorem dX9_fraction_24 : decode cX9_fraction 24 = .ok (.lload 9, 2) := by decide +kernel
theorem dX9_fraction_26 : decode cX9_fraction 26 = .ok (.lstore 7, 2) := by decide +kernel
theorem dX9_fraction_28 : decode cX9_fraction 28 = .ok (.goto (-22), 3) := by decide +kernel
theorem dX9_fraction_31 : decode cX9_fraction 31 = .ok (.aload_n 0, 1) := by decide +kernel
theorem dX9_fraction_32 : decode cX9_fraction 32 = .ok (.lload_n 1, 1) := by decide +kernel
theorem dX9_fraction_33 : decode cX9_fraction 33 = .ok (.lload 5, 2) := by decide +kernel
theorem dX9_fraction_35 : decode cX9_fraction 35 = .ok (.ldiv, 1) := by decide +kernel
theorem dX9_fraction_36 : decode cX9_fraction 36 = .ok (.putfield 187, 3) := by decide +kernel
theorem dX9_fraction_39 : decode cX9_fraction 39 = .ok (.aload_n 0, 1) := by decide +kernel
theorem dX9_fraction_40 : decode cX9_fraction 40 = .ok (.lload_n 3, 1) := by decide +kernel
theorem dX9_fraction_41 : decode cX9_fraction 41 = .ok (.lload 5, 2) := by decide +kernel
theorem dX9_fraction_43 : decode cX9_fraction 43 = .ok (.ldiv, 1) := by decide +kernel
theorem dX9_fraction_44 : decode cX9_fraction 44 = .ok (.putfield 23, 3) := by decide +kernel
theorem dX9_fraction_47 : decode cX9_fraction 47 = .ok (.return_, 1) := by decide +kernel
theorem dX9_slip_0 : decode cX9_slip 0 = .ok (.aload_n 0, 1) := by decide +kernel
theorem dX9_slip_1 : decode cX9_slip 1 = .ok (.iload_n 1, 1) := by decide +kernel
theorem dX9_slip_2 : decode cX9_slip 2 = .ok (.invokevirtual 129, 3) := by decide +kernel
theorem dX9_slip_5 : decode cX9_slip 5 = .ok (.ifCond .eq 40, 3) := by decide +kernel
theorem dX9_slip_8 : decode cX9_slip 8 = .ok (.iload_n 2, 1) := by decide +kernel
theorem dX9_slip_9 : decode cX9_slip 9 = .ok (.i2l, 1) := by decide +kernel
theorem dX9_slip_10 : decode cX9_slip 10 = .ok (.lconst 0, 1) := by decide +kernel
theorem dX9_slip_11 : decode cX9_slip 11 = .ok (.ldc2_w 150, 3) := by decide +kernel
theorem dX9_slip_14 : decode cX9_slip 14 = .ok (.invokestatic 53, 3) := by decide +kernel
theorem dX9_slip_17 : decode cX9_slip 17 = .ok (.ifCond .eq 28, 3) := by decide +kernel
theorem dX9_slip_20 : decode cX9_slip 20 = .ok (.iload_n 3, 1) := by decide +kernel
theorem dX9_slip_21 : decode cX9_slip 21 = .ok (.i2l, 1) := by decide +kernel
theorem dX9_slip_22 : decode cX9_slip 22 = .ok (.lconst 0, 1) := by decide +kernel
theorem dX9_slip_23 : decode cX9_slip 23 = .ok (.ldc2_w 134, 3) := by decide +kernel
theorem dX9_slip_26 : decode cX9_slip 26 = .ok (.invokestatic 53, 3) := by decide +kernel
theorem dX9_slip_29 : decode cX9_slip 29 = .ok (.ifCond .eq 16, 3) := by decide +kernel
theorem dX9_slip_32 : decode cX9_slip 32 = .ok (.iload 4, 2) := by decide +kernel
theorem dX9_slip_34 : decode cX9_slip 34 = .ok (.i2l, 1) := by decide +kernel
theorem dX9_slip_35 : decode cX9_slip 35 = .ok (.lconst 0, 1) := by decide +kernel
theorem dX9_slip_36 : decode cX9_slip 36 = .ok (.ldc2_w 190, 3) := by decide +kernel
theorem dX9_slip_39 : decode cX9_slip 39 = .ok (.invokestatic 53, 3) := by decide +kernel
theorem dX9_slip_42 : decode cX9_slip 42 = .ok (.ifCond .ne 10, 3) := by decide +kernel
theorem dX9_slip_45 : decode cX9_slip 45 = .ok (.aload_n 0, 1) := by decide +kernel
theorem dX9_slip_46 : decode cX9_slip 46 = .ok (.bipush (-2), 2) := by decide +kernel
theorem dX9_slip_48 : decode cX9_slip 48 = .ok (.invokevirtual 73, 3) := by decide +kernel
theorem dX9_slip_51 : decode cX9_slip 51 = .ok (.ireturn, 1) := by decide +kernel
theorem dX9_slip_52 : decode cX9_slip 52 = .ok (.lconst 0, 1) := by decide +kernel
theorem dX9_slip_53 : decode cX9_slip 53 = .ok (.lstore 5, 2) := by decide +kernel
theorem dX9_slip_55 : decode cX9_slip 55 = .ok (.lconst 1, 1) := by decide +kernel
theorem dX9_slip_56 : decode cX9_slip 56 = .ok (.lstore 7, 2) := by decide +kernel
theorem dX9_slip_58 : decode cX9_slip 58 = .ok (.iconst 0, 1) := by decide +kernel
theorem dX9_slip_59 : decode cX9_slip 59 = .ok (.istore 9, 2) := by decide +kernel
theorem dX9_slip_61 : decode cX9_slip 61 = .ok (.iload 9, 2) := by decide +kernel
theorem dX9_slip_63 : decode cX9_slip 63 = .ok (.iload_n 3, 1) := by decide +kernel
theorem dX9_slip_64 : decode cX9_slip 64 = .ok (.if_icmp .ge 17, 3) := by decide +kernel
theorem dX9_slip_67 : decode cX9_slip 67 = .ok (.lload 7, 2) := by decide +kernel
theorem dX9_slip_69 : decode cX9_slip 69 = .ok (.ldc2_w 190, 3) := by decide +kernel
theorem dX9_slip_72 : decode cX9_slip 72 = .ok (.lmul, 1) := by decide +kernel
theorem dX9_slip_73 : decode cX9_slip 73 = .ok (.lstore 7, 2) := by decide +kernel
theorem dX9_slip_75 : decode cX9_slip 75 = .ok (.iinc 9 1, 3) := by decide +kernel
theorem dX9_slip_78 : decode cX9_slip 78 = .ok (.goto (-17), 3) := by decide +kernel
theorem dX9_slip_81 : decode cX9_slip 81 = .ok (.iconst 0, 1) := by decide +kernel
theorem dX9_slip_82 : decode cX9_slip 82 = .ok (.istore 9, 2) := by decide +kernel
theorem dX9_slip_84 : decode cX9_slip 84 = .ok (.iload 9, 2) := by decide +kernel
theorem dX9_slip_86 : decode cX9_slip 86 = .ok (.iconst 1, 1) := by decide +kernel
theorem dX9_slip_87 : decode cX9_slip 87 = .ok (.iload_n 3, 1) := by decide +kernel
theorem dX9_slip_88 : decode cX9_slip 88 = .ok (.ishl, 1) := by decide +kernel
theorem dX9_slip_89 : decode cX9_slip 89 = .ok (.if_icmp .ge 98, 3) := by decide +kernel
theorem dX9_slip_92 : decode cX9_slip 92 = .ok (.lconst 1, 1) := by decide +kernel
theorem dX9_slip_93 : decode cX9_slip 93 = .ok (.lstore 10, 2) := by decide +kernel
theorem dX9_slip_95 : decode cX9_slip 95 = .ok (.aload_n 0, 1) := by decide +kernel
theorem dX9_slip_96 : decode cX9_slip 96 = .ok (.invokevirtual 139, 3) := by decide +kernel
theorem dX9_slip_99 : decode cX9_slip 99 = .ok (.iconst 0, 1) := by decide +kernel
theorem dX9_slip_100 : decode cX9_slip 100 = .ok (.istore 12, 2) := by decide +kernel
theorem dX9_slip_102 : decode cX9_slip 102 = .ok (.iload 12, 2) := by decide +kernel
theorem dX9_slip_104 : decode cX9_slip 104 = .ok (.iload_n 3, 1) := by decide +kernel
theorem dX9_slip_105 : decode cX9_slip 105 = .ok (.if_icmp .ge 52, 3) := by decide +kernel
theorem dX9_slip_108 : decode cX9_slip 108 = .ok (.lload 10, 2) := by decide +kernel
theorem dX9_slip_110 : decode cX9_slip 110 = .ok (.iload 9, 2) := by decide +kernel
theorem dX9_slip_112 : decode cX9_slip 112 = .ok (.iload 12, 2) := by decide +kernel
theorem dX9_slip_114 : decode cX9_slip 114 = .ok (.invokestatic 157, 3) := by decide +kernel
theorem dX9_slip_117 : decode cX9_slip 117 = .ok (.ifCond .eq 9, 3) := by decide +kernel
theorem dX9_slip_120 : decode cX9_slip 120 = .ok (.iload 4, 2) := by decide +kernel
theorem dX9_slip_122 : decode cX9_slip 122 = .ok (.i2l, 1) := by decide +kernel
theorem dX9_slip_123 : decode cX9_slip 123 = .ok (.goto 9, 3) := by decide +kernel
theorem dX9_slip_126 : decode cX9_slip 126 = .ok (.bipush 10, 2) := by decide +kernel
theorem dX9_slip_128 : decode cX9_slip 128 = .ok (.iload 4, 2) := by decide +kernel
theorem dX9_slip_130 : decode cX9_slip 130 = .ok (.isub, 1) := by decide +kernel
theorem dX9_slip_131 : decode cX9_slip 131 = .ok (.i2l, 1) := by decide +kernel
theorem dX9_slip_132 : decode cX9_slip 132 = .ok (.lmul, 1) := by decide +kernel
theorem dX9_slip_133 : decode cX9_slip 133 = .ok (.lstore 10, 2) := by decide +kernel
theorem dX9_slip_135 : decode cX9_slip 135 = .ok (.aload_n 0, 1) := by decide +kernel
theorem dX9_slip_136 : decode cX9_slip 136 = .ok (.getfield 27, 3) := by decide +kernel
theorem dX9_slip_139 : decode cX9_slip 139 = .ok (.iload 9, 2) := by decide +kernel
theorem dX9_slip_141 : decode cX9_slip 141 = .ok (.iload 12, 2) := by decide +kernel
theorem dX9_slip_143 : decode cX9_slip 143 = .ok (.invokestatic 157, 3) := by decide +kernel
theorem dX9_slip_146 : decode cX9_slip 146 = .ok (.invokestatic 116, 3) := by decide +kernel
theorem dX9_slip_149 : decode cX9_slip 149 = .ok (.istore 13, 2) := by decide +kernel
theorem dX9_slip_151 : decode cX9_slip 151 = .ok (.iinc 12 1, 3) := by decide +kernel
theorem dX9_slip_154 : decode cX9_slip 154 = .ok (.goto (-52), 3) := by decide +kernel
theorem dX9_slip_157 : decode cX9_slip 157 = .ok (.lload 5, 2) := by decide +kernel
theorem dX9_slip_159 : decode cX9_slip 159 = .ok (.aload_n 0, 1) := by decide +kernel
theorem dX9_slip_160 : decode cX9_slip 160 = .ok (.getfield 27, 3) := by decide +kernel
theorem dX9_slip_163 : decode cX9_slip 163 = .ok (.bipush 9, 2) := by decide +kernel
theorem dX9_slip_165 : decode cX9_slip 165 = .ok (.iload_n 1, 1) := by decide +kernel
theorem dX9_slip_166 : decode cX9_slip 166 = .ok (.iadd, 1) := by decide +kernel
theorem dX9_slip_167 : decode cX9_slip 167 = .ok (.iaload, 1) := by decide +kernel
theorem dX9_slip_168 : decode cX9_slip 168 = .ok (.iload_n 2, 1) := by decide +kernel
theorem dX9_slip_169 : decode cX9_slip 169 = .ok (.if_icmp .lt 8, 3) := by decide +kernel
theorem dX9_slip_172 : decode cX9_slip 172 = .ok (.lload 10, 2) := by decide +kernel
theorem dX9_slip_174 : decode cX9_slip 174 = .ok (.goto 4, 3) := by decide +kernel
theorem dX9_slip_177 : decode cX9_slip 177 = .ok (.lconst 0, 1) := by decide +kernel
theorem dX9_slip_178 : decode cX9_slip 178 = .ok (.ladd, 1) := by decide +kernel
theorem dX9_slip_179 : decode cX9_slip 179 = .ok (.lstore 5, 2) := by decide +kernel
theorem dX9_slip_181 : decode cX9_slip 181 = .ok (.iinc 9 1, 3) := by decide +kernel
theorem dX9_slip_184 : decode cX9_slip 184 = .ok (.goto (-100), 3) := by decide +kernel
theorem dX9_slip_187 : decode cX9_slip 187 = .ok (.aload_n 0, 1) := by decide +kernel
theorem dX9_slip_188 : decode cX9_slip 188 = .ok (.lload 5, 2) := by decide +kernel
theorem dX9_slip_190 : decode cX9_slip 190 = .ok (.lload 7, 2) := by decide +kernel
theorem dX9_slip_192 : decode cX9_slip 192 = .ok (.invokevirtual 192, 3) := by decide +kernel
theorem dX9_slip_195 : decode cX9_slip 195 = .ok (.iconst 1, 1) := by decide +kernel
theorem dX9_slip_196 : decode cX9_slip 196 = .ok (.ireturn, 1) := by decide +kernel
theorem dX9_evenings_0 : decode cX9_evenings 0 = .ok (.iload_n 1, 1) := by decide +kernel
theorem dX9_evenings_1 : decode cX9_evenings 1 = .ok (.i2l, 1) := by decide +kernel
theorem dX9_evenings_2 : decode cX9_evenings 2 = .ok (.lconst 0, 1) := by decide +kernel
theorem dX9_evenings_3 : decode cX9_evenings 3 = .ok (.ldc2_w 196, 3) := by decide +kernel
theorem dX9_evenings_6 : decode cX9_evenings 6 = .ok (.invokestatic 53, 3) := by decide +kernel
theorem dX9_evenings_9 : decode cX9_evenings 9 = .ok (.ifCond .eq 15, 3) := by decide +kernel
theorem dX9_evenings_12 : decode cX9_evenings 12 = .ok (.iload_n 2, 1) := by decide +kernel
theorem dX9_evenings_13 : decode cX9_evenings 13 = .ok (.i2l, 1) := by decide +kernel
theorem dX9_evenings_14 : decode cX9_evenings 14 = .ok (.lconst 0, 1) := by decide +kernel
theorem dX9_evenings_15 : decode cX9_evenings 15 = .ok (.ldc2_w 120, 3) := by decide +kernel
theorem dX9_evenings_18 : decode cX9_evenings 18 = .ok (.invokestatic 53, 3) := by decide +kernel
theorem dX9_evenings_21 : decode cX9_evenings 21 = .ok (.ifCond .ne 10, 3) := by decide +kernel
theorem dX9_evenings_24 : decode cX9_evenings 24 = .ok (.aload_n 0, 1) := by decide +kernel
theorem dX9_evenings_25 : decode cX9_evenings 25 = .ok (.bipush (-2), 2) := by decide +kernel
theorem dX9_evenings_27 : decode cX9_evenings 27 = .ok (.invokevirtual 73, 3) := by decide +kernel
theorem dX9_evenings_30 : decode cX9_evenings 30 = .ok (.ireturn, 1) := by decide +kernel
theorem dX9_evenings_31 : decode cX9_evenings 31 = .ok (.iload_n 1, 1) := by decide +kernel
theorem dX9_evenings_32 : decode cX9_evenings 32 = .ok (.i2l, 1) := by decide +kernel
theorem dX9_evenings_33 : decode cX9_evenings 33 = .ok (.lstore_n 3, 1) := by decide +kernel
theorem dX9_evenings_34 : decode cX9_evenings 34 = .ok (.iconst 0, 1) := by decide +kernel
theorem dX9_evenings_35 : decode cX9_evenings 35 = .ok (.istore 5, 2) := by decide +kernel
theorem dX9_evenings_37 : decode cX9_evenings 37 = .ok (.aload_n 0, 1) := by decide +kernel
theorem dX9_evenings_38 : decode cX9_evenings 38 = .ok (.invokevirtual 139, 3) := by decide +kernel
theorem dX9_evenings_41 : decode cX9_evenings 41 = .ok (.iconst 0, 1) := by decide +kernel
theorem dX9_evenings_42 : decode cX9_evenings 42 = .ok (.istore 6, 2) := by decide +kernel
theorem dX9_evenings_44 : decode cX9_evenings 44 = .ok (.iload 6, 2) := by decide +kernel
theorem dX9_evenings_46 : decode cX9_evenings 46 = .ok (.iload_n 2, 1) := by decide +kernel
theorem dX9_evenings_47 : decode cX9_evenings 47 = .ok (.if_icmp .ge 62, 3) := by decide +kernel
theorem dX9_evenings_50 : decode cX9_evenings 50 = .ok (.lload_n 3, 1) := by decide +kernel
theorem dX9_evenings_51 : decode cX9_evenings 51 = .ok (.ldc2_w 198, 3) := by decide +kernel
theorem dX9_evenings_54 : decode cX9_evenings 54 = .ok (.lmul, 1) := by decide +kernel
theorem dX9_evenings_55 : decode cX9_evenings 55 = .ok (.ldc2_w 200, 3) := by decide +kernel
theorem dX9_evenings_58 : decode cX9_evenings 58 = .ok (.ladd, 1) := by decide +kernel
theorem dX9_evenings_59 : decode cX9_evenings 59 = .ok (.ldc2_w 202, 3) := by decide +kernel
theorem dX9_evenings_62 : decode cX9_evenings 62 = .ok (.lrem, 1) := by decide +kernel
theorem dX9_evenings_63 : decode cX9_evenings 63 = .ok (.lstore_n 3, 1) := by decide +kernel
theorem dX9_evenings_64 : decode cX9_evenings 64 = .ok (.aload_n 0, 1) := by decide +kernel
theorem dX9_evenings_65 : decode cX9_evenings 65 = .ok (.getfield 27, 3) := by decide +kernel
theorem dX9_evenings_68 : decode cX9_evenings 68 = .ok (.bipush 6, 2) := by decide +kernel
theorem dX9_evenings_70 : decode cX9_evenings 70 = .ok (.lload_n 3, 1) := by decide +kernel
theorem dX9_evenings_71 : decode cX9_evenings 71 = .ok (.ldc2_w 204, 3) := by decide +kernel
theorem dX9_evenings_74 : decode cX9_evenings 74 = .ok (.ldiv, 1) := by decide +kernel
theorem dX9_evenings_75 : decode cX9_evenings 75 = .ok (.ldc2_w 65, 3) := by decide +kernel
theorem dX9_evenings_78 : decode cX9_evenings 78 = .ok (.lrem, 1) := by decide +kernel
theorem dX9_evenings_79 : decode cX9_evenings 79 = .ok (.l2i, 1) := by decide +kernel
theorem dX9_evenings_80 : decode cX9_evenings 80 = .ok (.iastore, 1) := by decide +kernel
theorem dX9_evenings_81 : decode cX9_evenings 81 = .ok (.iload 5, 2) := by decide +kernel
theorem dX9_evenings_83 : decode cX9_evenings 83 = .ok (.aload_n 0, 1) := by decide +kernel
theorem dX9_evenings_84 : decode cX9_evenings 84 = .ok (.getfield 27, 3) := by decide +kernel
theorem dX9_evenings_87 : decode cX9_evenings 87 = .ok (.iconst 0, 1) := by decide +kernel
theorem dX9_evenings_88 : decode cX9_evenings 88 = .ok (.invokestatic 116, 3) := by decide +kernel
theorem dX9_evenings_91 : decode cX9_evenings 91 = .ok (.iconst (-1), 1) := by decide +kernel
theorem dX9_evenings_92 : decode cX9_evenings 92 = .ok (.if_icmp .eq 7, 3) := by decide +kernel
theorem dX9_evenings_95 : decode cX9_evenings 95 = .ok (.iconst 1, 1) := by decide +kernel
theorem dX9_evenings_96 : decode cX9_evenings 96 = .ok (.goto 4, 3) := by decide +kernel
theorem dX9_evenings_99 : decode cX9_evenings 99 = .ok (.iconst 0, 1) := by decide +kernel
theorem dX9_evenings_100 : decode cX9_evenings 100 = .ok (.iadd, 1) := by decide +kernel
theorem dX9_evenings_101 : decode cX9_evenings 101 = .ok (.istore 5, 2) := by decide +kernel
theorem dX9_evenings_103 : decode cX9_evenings 103 = .ok (.iinc 6 1, 3) := by decide +kernel
theorem dX9_evenings_106 : decode cX9_evenings 106 = .ok (.goto (-62), 3) := by decide +kernel
theorem dX9_evenings_109 : decode cX9_evenings 109 = .ok (.iload 5, 2) := by decide +kernel
theorem dX9_evenings_111 : decode cX9_evenings 111 = .ok (.ireturn, 1) := by decide +kernel
