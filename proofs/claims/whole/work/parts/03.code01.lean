theorem dX6_init_0 : decode cX6_init 0 = .ok (.aload_n 0, 1) := by decide +kernel
theorem dX6_init_1 : decode cX6_init 1 = .ok (.invokespecial 3, 3) := by decide +kernel
theorem dX6_init_4 : decode cX6_init 4 = .ok (.aload_n 0, 1) := by decide +kernel
theorem dX6_init_5 : decode cX6_init 5 = .ok (.new 9, 3) := by decide +kernel
theorem dX6_init_8 : decode cX6_init 8 = .ok (.dup, 1) := by decide +kernel
theorem dX6_init_9 : decode cX6_init 9 = .ok (.invokespecial 11, 3) := by decide +kernel
theorem dX6_init_12 : decode cX6_init 12 = .ok (.putfield 12, 3) := by decide +kernel
theorem dX6_init_15 : decode cX6_init 15 = .ok (.aload_n 0, 1) := by decide +kernel
theorem dX6_init_16 : decode cX6_init 16 = .ok (.new 18, 3) := by decide +kernel
theorem dX6_init_19 : decode cX6_init 19 = .ok (.dup, 1) := by decide +kernel
theorem dX6_init_20 : decode cX6_init 20 = .ok (.invokespecial 20, 3) := by decide +kernel
theorem dX6_init_23 : decode cX6_init 23 = .ok (.putfield 21, 3) := by decide +kernel
theorem dX6_init_26 : decode cX6_init 26 = .ok (.aload_n 0, 1) := by decide +kernel
theorem dX6_init_27 : decode cX6_init 27 = .ok (.new 25, 3) := by decide +kernel
theorem dX6_init_30 : decode cX6_init 30 = .ok (.dup, 1) := by decide +kernel
theorem dX6_init_31 : decode cX6_init 31 = .ok (.iconst 4, 1) := by decide +kernel
theorem dX6_init_32 : decode cX6_init 32 = .ok (.iconst 5, 1) := by decide +kernel
theorem dX6_init_33 : decode cX6_init 33 = .ok (.invokespecial 27, 3) := by decide +kernel
theorem dX6_init_36 : decode cX6_init 36 = .ok (.putfield 30, 3) := by decide +kernel
theorem dX6_init_39 : decode cX6_init 39 = .ok (.aload_n 0, 1) := by decide +kernel
theorem dX6_init_40 : decode cX6_init 40 = .ok (.new 25, 3) := by decide +kernel
theorem dX6_init_43 : decode cX6_init 43 = .ok (.dup, 1) := by decide +kernel
theorem dX6_init_44 : decode cX6_init 44 = .ok (.iconst 5, 1) := by decide +kernel
theorem dX6_init_45 : decode cX6_init 45 = .ok (.bipush 6, 2) := by decide +kernel
theorem dX6_init_47 : decode cX6_init 47 = .ok (.invokespecial 27, 3) := by decide +kernel
theorem dX6_init_50 : decode cX6_init 50 = .ok (.putfield 34, 3) := by decide +kernel
theorem dX6_init_53 : decode cX6_init 53 = .ok (.aload_n 0, 1) := by decide +kernel
theorem dX6_init_54 : decode cX6_init 54 = .ok (.new 25, 3) := by decide +kernel
theorem dX6_init_57 : decode cX6_init 57 = .ok (.dup, 1) := by decide +kernel
theorem dX6_init_58 : decode cX6_init 58 = .ok (.iconst 5, 1) := by decide +kernel
theorem dX6_init_59 : decode cX6_init 59 = .ok (.bipush 6, 2) := by decide +kernel
theorem dX6_init_61 : decode cX6_init 61 = .ok (.invokespecial 27, 3) := by decide +kernel
theorem dX6_init_64 : decode cX6_init 64 = .ok (.putfield 37, 3) := by decide +kernel
theorem dX6_init_67 : decode cX6_init 67 = .ok (.return_, 1) := by decide +kernel
theorem dX6_copyOf_0 : decode cX6_copyOf 0 = .ok (.aload_n 0, 1) := by decide +kernel
theorem dX6_copyOf_1 : decode cX6_copyOf 1 = .ok (.getfield 12, 3) := by decide +kernel
theorem dX6_copyOf_4 : decode cX6_copyOf 4 = .ok (.aload_n 1, 1) := by decide +kernel
theorem dX6_copyOf_5 : decode cX6_copyOf 5 = .ok (.getfield 12, 3) := by decide +kernel
theorem dX6_copyOf_8 : decode cX6_copyOf 8 = .ok (.invokevirtual 40, 3) := by decide +kernel
theorem dX6_copyOf_11 : decode cX6_copyOf 11 = .ok (.aload_n 0, 1) := by decide +kernel
theorem dX6_copyOf_12 : decode cX6_copyOf 12 = .ok (.getfield 21, 3) := by decide +kernel
theorem dX6_copyOf_15 : decode cX6_copyOf 15 = .ok (.aload_n 1, 1) := by decide +kernel
theorem dX6_copyOf_16 : decode cX6_copyOf 16 = .ok (.getfield 21, 3) := by decide +kernel
theorem dX6_copyOf_19 : decode cX6_copyOf 19 = .ok (.invokevirtual 44, 3) := by decide +kernel
theorem dX6_copyOf_22 : decode cX6_copyOf 22 = .ok (.aload_n 0, 1) := by decide +kernel
theorem dX6_copyOf_23 : decode cX6_copyOf 23 = .ok (.getfield 30, 3) := by decide +kernel
theorem dX6_copyOf_26 : decode cX6_copyOf 26 = .ok (.aload_n 1, 1) := by decide +kernel
theorem dX6_copyOf_27 : decode cX6_copyOf 27 = .ok (.getfield 30, 3) := by decide +kernel
theorem dX6_copyOf_30 : decode cX6_copyOf 30 = .ok (.invokevirtual 47, 3) := by decide +kernel
theorem dX6_copyOf_33 : decode cX6_copyOf 33 = .ok (.aload_n 0, 1) := by decide +kernel
theorem dX6_copyOf_34 : decode cX6_copyOf 34 = .ok (.getfield 34, 3) := by decide +kernel
theorem dX6_copyOf_37 : decode cX6_copyOf 37 = .ok (.aload_n 1, 1) := by decide +kernel
theorem dX6_copyOf_38 : decode cX6_copyOf 38 = .ok (.getfield 34, 3) := by decide +kernel
theorem dX6_copyOf_41 : decode cX6_copyOf 41 = .ok (.invokevirtual 47, 3) := by decide +kernel
theorem dX6_copyOf_44 : decode cX6_copyOf 44 = .ok (.aload_n 0, 1) := by decide +kernel
theorem dX6_copyOf_45 : decode cX6_copyOf 45 = .ok (.getfield 37, 3) := by decide +kernel
theorem dX6_copyOf_48 : decode cX6_copyOf 48 = .ok (.aload_n 1, 1) := by decide +kernel
theorem dX6_copyOf_49 : decode cX6_copyOf 49 = .ok (.getfield 37, 3) := by decide +kernel
theorem dX6_copyOf_52 : decode cX6_copyOf 52 = .ok (.invokevirtual 47, 3) := by decide +kernel
theorem dX6_copyOf_55 : decode cX6_copyOf 55 = .ok (.return_, 1) := by decide +kernel
theorem dX6_dropRest_0 : decode cX6_dropRest 0 = .ok (.aload_n 0, 1) := by decide +kernel
theorem dX6_dropRest_1 : decode cX6_dropRest 1 = .ok (.getfield 21, 3) := by decide +kernel
theorem dX6_dropRest_4 : decode cX6_dropRest 4 = .ok (.iconst 0, 1) := by decide +kernel
theorem dX6_dropRest_5 : decode cX6_dropRest 5 = .ok (.putfield 50, 3) := by decide +kernel
theorem dX6_dropRest_8 : decode cX6_dropRest 8 = .ok (.aload_n 0, 1) := by decide +kernel
theorem dX6_dropRest_9 : decode cX6_dropRest 9 = .ok (.getfield 30, 3) := by decide +kernel
theorem dX6_dropRest_12 : decode cX6_dropRest 12 = .ok (.invokevirtual 54, 3) := by decide +kernel
theorem dX6_dropRest_15 : decode cX6_dropRest 15 = .ok (.pop, 1) := by decide +kernel
theorem dX6_dropRest_16 : decode cX6_dropRest 16 = .ok (.aload_n 0, 1) := by decide +kernel
theorem dX6_dropRest_17 : decode cX6_dropRest 17 = .ok (.getfield 34, 3) := by decide +kernel
theorem dX6_dropRest_20 : decode cX6_dropRest 20 = .ok (.invokevirtual 54, 3) := by decide +kernel
theorem dX6_dropRest_23 : decode cX6_dropRest 23 = .ok (.pop, 1) := by decide +kernel
theorem dX6_dropRest_24 : decode cX6_dropRest 24 = .ok (.aload_n 0, 1) := by decide +kernel
theorem dX6_dropRest_25 : decode cX6_dropRest 25 = .ok (.getfield 37, 3) := by decide +kernel
theorem dX6_dropRest_28 : decode cX6_dropRest 28 = .ok (.invokevirtual 54, 3) := by decide +kernel
theorem dX6_dropRest_31 : decode cX6_dropRest 31 = .ok (.pop, 1) := by decide +kernel
theorem dX6_dropRest_32 : decode cX6_dropRest 32 = .ok (.return_, 1) := by decide +kernel
theorem dX7_init_0 : decode cX7_init 0 = .ok (.aload_n 0, 1) := by decide +kernel
theorem dX7_init_1 : decode cX7_init 1 = .ok (.invokespecial 3, 3) := by decide +kernel
theorem dX7_init_4 : decode cX7_init 4 = .ok (.aload_n 0, 1) := by decide +kernel
theorem dX7_init_5 : decode cX7_init 5 = .ok (.sipush 150, 3) := by decide +kernel
theorem dX7_init_8 : decode cX7_init 8 = .ok (.newarray .byte, 2) := by decide +kernel
theorem dX7_init_10 : decode cX7_init 10 = .ok (.putfield 9, 3) := by decide +kernel
theorem dX7_init_13 : decode cX7_init 13 = .ok (.aload_n 0, 1) := by decide +kernel
theorem dX7_init_14 : decode cX7_init 14 = .ok (.iconst 3, 1) := by decide +kernel
theorem dX7_init_15 : decode cX7_init 15 = .ok (.newarray .int, 2) := by decide +kernel
theorem dX7_init_17 : decode cX7_init 17 = .ok (.putfield 15, 3) := by decide +kernel
theorem dX7_init_20 : decode cX7_init 20 = .ok (.return_, 1) := by decide +kernel
theorem dX7_put_0 : decode cX7_put 0 = .ok (.aload_n 0, 1) := by decide +kernel
theorem dX7_put_1 : decode cX7_put 1 = .ok (.getfield 19, 3) := by decide +kernel
theorem dX7_put_4 : decode cX7_put 4 = .ok (.sipush 150, 3) := by decide +kernel
theorem dX7_put_7 : decode cX7_put 7 = .ok (.if_icmp .ge 24, 3) := by decide +kernel
theorem dX7_put_10 : decode cX7_put 10 = .ok (.aload_n 0, 1) := by decide +kernel
theorem dX7_put_11 : decode cX7_put 11 = .ok (.getfield 9, 3) := by decide +kernel
theorem dX7_put_14 : decode cX7_put 14 = .ok (.aload_n 0, 1) := by decide +kernel
theorem dX7_put_15 : decode cX7_put 15 = .ok (.getfield 19, 3) := by decide +kernel
theorem dX7_put_18 : decode cX7_put 18 = .ok (.iload_n 1, 1) := by decide +kernel
theorem dX7_put_19 : decode cX7_put 19 = .ok (.i2b, 1) := by decide +kernel
theorem dX7_put_20 : decode cX7_put 20 = .ok (.bastore, 1) := by decide +kernel
theorem dX7_put_21 : decode cX7_put 21 = .ok (.aload_n 0, 1) := by decide +kernel
theorem dX7_put_22 : decode cX7_put 22 = .ok (.dup, 1) := by decide +kernel
theorem dX7_put_23 : decode cX7_put 23 = .ok (.getfield 19, 3) := by decide +kernel
theorem dX7_put_26 : decode cX7_put 26 = .ok (.iconst 1, 1) := by decide +kernel
theorem dX7_put_27 : decode cX7_put 27 = .ok (.iadd, 1) := by decide +kernel
theorem dX7_put_28 : decode cX7_put 28 = .ok (.putfield 19, 3) := by decide +kernel
theorem dX7_put_31 : decode cX7_put 31 = .ok (.return_, 1) := by decide +kernel
theorem dX7_tellRound_0 : decode cX7_tellRound 0 = .ok (.aload_n 0, 1) := by decide +kernel
theorem dX7_tellRound_1 : decode cX7_tellRound 1 = .ok (.iconst 0, 1) := by decide +kernel
theorem dX7_tellRound_2 : decode cX7_tellRound 2 = .ok (.putfield 23, 3) := by decide +kernel
theorem dX7_tellRound_5 : decode cX7_tellRound 5 = .ok (.aload_n 0, 1) := by decide +kernel
theorem dX7_tellRound_6 : decode cX7_tellRound 6 = .ok (.invokevirtual 26, 3) := by decide +kernel
theorem dX7_tellRound_9 : decode cX7_tellRound 9 = .ok (.iconst 0, 1) := by decide +kernel
theorem dX7_tellRound_10 : decode cX7_tellRound 10 = .ok (.istore_n 2, 1) := by decide +kernel
theorem dX7_tellRound_11 : decode cX7_tellRound 11 = .ok (.iload_n 2, 1) := by decide +kernel
theorem dX7_tellRound_12 : decode cX7_tellRound 12 = .ok (.sipush 150, 3) := by decide +kernel
theorem dX7_tellRound_15 : decode cX7_tellRound 15 = .ok (.if_icmp .gt 66, 3) := by decide +kernel
theorem dX7_tellRound_18 : decode cX7_tellRound 18 = .ok (.aload_n 0, 1) := by decide +kernel
theorem dX7_tellRound_19 : decode cX7_tellRound 19 = .ok (.getfield 29, 3) := by decide +kernel
theorem dX7_tellRound_22 : decode cX7_tellRound 22 = .ok (.ifCond .ne 9, 3) := by decide +kernel
theorem dX7_tellRound_25 : decode cX7_tellRound 25 = .ok (.iload_n 2, 1) := by decide +kernel
theorem dX7_tellRound_26 : decode cX7_tellRound 26 = .ok (.ifCond .le 5, 3) := by decide +kernel
theorem dX7_tellRound_29 : decode cX7_tellRound 29 = .ok (.iload_n 2, 1) := by decide +kernel
theorem dX7_tellRound_30 : decode cX7_tellRound 30 = .ok (.ireturn, 1) := by decide +kernel
theorem dX7_tellRound_31 : decode cX7_tellRound 31 = .ok (.aload_n 0, 1) := by decide +kernel
theorem dX7_tellRound_32 : decode cX7_tellRound 32 = .ok (.iload_n 2, 1) := by decide +kernel
theorem dX7_tellRound_33 : decode cX7_tellRound 33 = .ok (.ifCond .ne 10, 3) := by decide +kernel
theorem dX7_tellRound_36 : decode cX7_tellRound 36 = .ok (.aload_n 0, 1) := by decide +kernel
theorem dX7_tellRound_37 : decode cX7_tellRound 37 = .ok (.invokevirtual 32, 3) := by decide +kernel
theorem dX7_tellRound_40 : decode cX7_tellRound 40 = .ok (.goto 7, 3) := by decide +kernel
theorem dX7_tellRound_43 : decode cX7_tellRound 43 = .ok (.aload_n 0, 1) := by decide +kernel
theorem dX7_tellRound_44 : decode cX7_tellRound 44 = .ok (.invokevirtual 36, 3) := by decide +kernel
theorem dX7_tellRound_47 : decode cX7_tellRound 47 = .ok (.putfield 39, 3) := by decide +kernel
theorem dX7_tellRound_50 : decode cX7_tellRound 50 = .ok (.aload_n 0, 1) := by decide +kernel
theorem dX7_tellRound_51 : decode cX7_tellRound 51 = .ok (.aload_n 1, 1) := by decide +kernel
theorem dX7_tellRound_52 : decode cX7_tellRound 52 = .ok (.invokevirtual 42, 3) := by decide +kernel
theorem dX7_tellRound_55 : decode cX7_tellRound 55 = .ok (.ifCond .ne 11, 3) := by decide +kernel
theorem dX7_tellRound_58 : decode cX7_tellRound 58 = .ok (.bipush (-10), 2) := by decide +kernel
theorem dX7_tellRound_60 : decode cX7_tellRound 60 = .ok (.aload_n 0, 1) := by decide +kernel
theorem dX7_tellRound_61 : decode cX7_tellRound 61 = .ok (.getfield 46, 3) := by decide +kernel
theorem dX7_tellRound_64 : decode cX7_tellRound 64 = .ok (.isub, 1) := by decide +kernel
theorem dX7_tellRound_65 : decode cX7_tellRound 65 = .ok (.ireturn, 1) := by decide +kernel
theorem dX7_tellRound_66 : decode cX7_tellRound 66 = .ok (.aload_n 0, 1) := by decide +kernel
theorem dX7_tellRound_67 : decode cX7_tellRound 67 = .ok (.aload_n 1, 1) := by decide +kernel
theorem dX7_tellRound_68 : decode cX7_tellRound 68 = .ok (.invokevirtual 49, 3) := by decide +kernel
theorem dX7_tellRound_71 : decode cX7_tellRound 71 = .ok (.aload_n 0, 1) := by decide +kernel
theorem dX7_tellRound_72 : decode cX7_tellRound 72 = .ok (.invokevirtual 26, 3) := by decide +kernel
theorem dX7_tellRound_75 : decode cX7_tellRound 75 = .ok (.iinc 2 1, 3) := by decide +kernel
theorem dX7_tellRound_78 : decode cX7_tellRound 78 = .ok (.goto (-67), 3) := by decide +kernel
theorem dX7_tellRound_81 : decode cX7_tellRound 81 = .ok (.bipush (-10), 2) := by decide +kernel
theorem dX7_tellRound_83 : decode cX7_tellRound 83 = .ok (.aload_n 0, 1) := by decide +kernel
theorem dX7_tellRound_84 : decode cX7_tellRound 84 = .ok (.getfield 46, 3) := by decide +kernel
theorem dX7_tellRound_87 : decode cX7_tellRound 87 = .ok (.isub, 1) := by decide +kernel
theorem dX7_tellRound_88 : decode cX7_tellRound 88 = .ok (.ireturn, 1) := by decide +kernel
theorem dX7_firstItem_0 : decode cX7_firstItem 0 = .ok (.aload_n 0, 1) := by decide +kernel
theorem dX7_firstItem_1 : decode cX7_firstItem 1 = .ok (.ldc 53, 2) := by decide +kernel
theorem dX7_firstItem_3 : decode cX7_firstItem 3 = .ok (.invokevirtual 55, 3) := by decide +kernel
theorem dX7_firstItem_6 : decode cX7_firstItem 6 = .ok (.ifCond .eq 7, 3) := by decide +kernel
theorem dX7_firstItem_9 : decode cX7_firstItem 9 = .ok (.iconst 1, 1) := by decide +kernel
theorem dX7_firstItem_10 : decode cX7_firstItem 10 = .ok (.goto 4, 3) := by decide +kernel
theorem dX7_firstItem_13 : decode cX7_firstItem 13 = .ok (.iconst 0, 1) := by decide +kernel
theorem dX7_firstItem_14 : decode cX7_firstItem 14 = .ok (.ireturn, 1) := by decide +kernel
theorem dX7_laterItem_0 : decode cX7_laterItem 0 = .ok (.aload_n 0, 1) := by decide +kernel
theorem dX7_laterItem_1 : decode cX7_laterItem 1 = .ok (.ldc 59, 2) := by decide +kernel
theorem dX7_laterItem_3 : decode cX7_laterItem 3 = .ok (.invokevirtual 55, 3) := by decide +kernel
theorem dX7_laterItem_6 : decode cX7_laterItem 6 = .ok (.ifCond .eq 5, 3) := by decide +kernel
theorem dX7_laterItem_9 : decode cX7_laterItem 9 = .ok (.iconst 2, 1) := by decide +kernel
theorem dX7_laterItem_10 : decode cX7_laterItem 10 = .ok (.ireturn, 1) := by decide +kernel
theorem dX7_laterItem_11 : decode cX7_laterItem 11 = .ok (.aload_n 0, 1) := by decide +kernel
theorem dX7_laterItem_12 : decode cX7_laterItem 12 = .ok (.ldc 61, 2) := by decide +kernel
theorem dX7_laterItem_14 : decode cX7_laterItem 14 = .ok (.invokevirtual 55, 3) := by decide +kernel
theorem dX7_laterItem_17 : decode cX7_laterItem 17 = .ok (.ifCond .eq 5, 3) := by decide +kernel
theorem dX7_laterItem_20 : decode cX7_laterItem 20 = .ok (.iconst 3, 1) := by decide +kernel
theorem dX7_laterItem_21 : decode cX7_laterItem 21 = .ok (.ireturn, 1) := by decide +kernel
theorem dX7_laterItem_22 : decode cX7_laterItem 22 = .ok (.aload_n 0, 1) := by decide +kernel
theorem dX7_laterItem_23 : decode cX7_laterItem 23 = .ok (.ldc 63, 2) := by decide +kernel
theorem dX7_laterItem_25 : decode cX7_laterItem 25 = .ok (.invokevirtual 55, 3) := by decide +kernel
theorem dX7_laterItem_28 : decode cX7_laterItem 28 = .ok (.ifCond .eq 5, 3) := by decide +kernel
theorem dX7_laterItem_31 : decode cX7_laterItem 31 = .ok (.iconst 4, 1) := by decide +kernel
theorem dX7_laterItem_32 : decode cX7_laterItem 32 = .ok (.ireturn, 1) := by decide +kernel
theorem dX7_laterItem_33 : decode cX7_laterItem 33 = .ok (.aload_n 0, 1) := by decide +kernel
theorem dX7_laterItem_34 : decode cX7_laterItem 34 = .ok (.ldc 65, 2) := by decide +kernel
theorem dX7_laterItem_36 : decode cX7_laterItem 36 = .ok (.invokevirtual 55, 3) := by decide +kernel
theorem dX7_laterItem_39 : decode cX7_laterItem 39 = .ok (.ifCond .eq 7, 3) := by decide +kernel
theorem dX7_laterItem_42 : decode cX7_laterItem 42 = .ok (.iconst 5, 1) := by decide +kernel
theorem dX7_laterItem_43 : decode cX7_laterItem 43 = .ok (.goto 4, 3) := by decide +kernel
theorem dX7_laterItem_46 : decode cX7_laterItem 46 = .ok (.iconst 0, 1) := by decide +kernel
theorem dX7_laterItem_47 : decode cX7_laterItem 47 = .ok (.ireturn, 1) := by decide +kernel
theorem dX7_isItem_0 : decode cX7_isItem 0 = .ok (.aload_n 1, 1) := by decide +kernel
theorem dX7_isItem_1 : decode cX7_isItem 1 = .ok (.getfield 67, 3) := by decide +kernel
theorem dX7_isItem_4 : decode cX7_isItem 4 = .ok (.iconst 1, 1) := by decide +kernel
theorem dX7_isItem_5 : decode cX7_isItem 5 = .ok (.isub, 1) := by decide +kernel
theorem dX7_isItem_6 : decode cX7_isItem 6 = .ok (.istore_n 2, 1) := by decide +kernel
theorem dX7_isItem_7 : decode cX7_isItem 7 = .ok (.aload_n 0, 1) := by decide +kernel
theorem dX7_isItem_8 : decode cX7_isItem 8 = .ok (.getfield 39, 3) := by decide +kernel
theorem dX7_isItem_11 : decode cX7_isItem 11 = .ok (.tableswitch 226 1 5 #[33, 67, 111, 178, 202], 33) := by decide +kernel
theorem dX7_isItem_44 : decode cX7_isItem 44 = .ok (.aload_n 0, 1) := by decide +kernel
theorem dX7_isItem_45 : decode cX7_isItem 45 = .ok (.iconst 0, 1) := by decide +kernel
theorem dX7_isItem_46 : decode cX7_isItem 46 = .ok (.iconst 4, 1) := by decide +kernel
theorem dX7_isItem_47 : decode cX7_isItem 47 = .ok (.bipush 12, 2) := by decide +kernel
theorem dX7_isItem_49 : decode cX7_isItem 49 = .ok (.invokevirtual 72, 3) := by decide +kernel
theorem dX7_isItem_52 : decode cX7_isItem 52 = .ok (.ifCond .eq 24, 3) := by decide +kernel
theorem dX7_isItem_55 : decode cX7_isItem 55 = .ok (.aload_n 0, 1) := by decide +kernel
theorem dX7_isItem_56 : decode cX7_isItem 56 = .ok (.iconst 1, 1) := by decide +kernel
theorem dX7_isItem_57 : decode cX7_isItem 57 = .ok (.iconst 0, 1) := by decide +kernel
theorem dX7_isItem_58 : decode cX7_isItem 58 = .ok (.iconst 3, 1) := by decide +kernel
theorem dX7_isItem_59 : decode cX7_isItem 59 = .ok (.invokevirtual 72, 3) := by decide +kernel
theorem dX7_isItem_62 : decode cX7_isItem 62 = .ok (.ifCond .eq 14, 3) := by decide +kernel
theorem dX7_isItem_65 : decode cX7_isItem 65 = .ok (.aload_n 0, 1) := by decide +kernel
theorem dX7_isItem_66 : decode cX7_isItem 66 = .ok (.invokevirtual 76, 3) := by decide +kernel
theorem dX7_isItem_69 : decode cX7_isItem 69 = .ok (.ifCond .eq 7, 3) := by decide +kernel
theorem dX7_isItem_72 : decode cX7_isItem 72 = .ok (.iconst 1, 1) := by decide +kernel
theorem dX7_isItem_73 : decode cX7_isItem 73 = .ok (.goto 4, 3) := by decide +kernel
theorem dX7_isItem_76 : decode cX7_isItem 76 = .ok (.iconst 0, 1) := by decide +kernel
theorem dX7_isItem_77 : decode cX7_isItem 77 = .ok (.ireturn, 1) := by decide +kernel
theorem dX7_isItem_78 : decode cX7_isItem 78 = .ok (.aload_n 0, 1) := by decide +kernel
theorem dX7_isItem_79 : decode cX7_isItem 79 = .ok (.iconst 0, 1) := by decide +kernel
theorem dX7_isItem_80 : decode cX7_isItem 80 = .ok (.iconst 0, 1) := by decide +kernel
theorem dX7_isItem_81 : decode cX7_isItem 81 = .ok (.iload_n 2, 1) := by decide +kernel
theorem dX7_isItem_82 : decode cX7_isItem 82 = .ok (.invokevirtual 72, 3) := by decide +kernel
theorem dX7_isItem_85 : decode cX7_isItem 85 = .ok (.ifCond .eq 35, 3) := by decide +kernel
theorem dX7_isItem_88 : decode cX7_isItem 88 = .ok (.aload_n 0, 1) := by decide +kernel
theorem dX7_isItem_89 : decode cX7_isItem 89 = .ok (.iconst 1, 1) := by decide +kernel
theorem dX7_isItem_90 : decode cX7_isItem 90 = .ok (.iconst 0, 1) := by decide +kernel
theorem dX7_isItem_91 : decode cX7_isItem 91 = .ok (.iconst 5, 1) := by decide +kernel
theorem dX7_isItem_92 : decode cX7_isItem 92 = .ok (.invokevirtual 72, 3) := by decide +kernel
theorem dX7_isItem_95 : decode cX7_isItem 95 = .ok (.ifCond .eq 25, 3) := by decide +kernel
theorem dX7_isItem_98 : decode cX7_isItem 98 = .ok (.aload_n 0, 1) := by decide +kernel
theorem dX7_isItem_99 : decode cX7_isItem 99 = .ok (.iconst 2, 1) := by decide +kernel
theorem dX7_isItem_100 : decode cX7_isItem 100 = .ok (.iconst 0, 1) := by decide +kernel
theorem dX7_isItem_101 : decode cX7_isItem 101 = .ok (.bipush 7, 2) := by decide +kernel
theorem dX7_isItem_103 : decode cX7_isItem 103 = .ok (.invokevirtual 72, 3) := by decide +kernel
theorem dX7_isItem_106 : decode cX7_isItem 106 = .ok (.ifCond .eq 14, 3) := by decide +kernel
theorem dX7_isItem_109 : decode cX7_isItem 109 = .ok (.aload_n 0, 1) := by decide +kernel
theorem dX7_isItem_110 : decode cX7_isItem 110 = .ok (.invokevirtual 76, 3) := by decide +kernel
theorem dX7_isItem_113 : decode cX7_isItem 113 = .ok (.ifCond .eq 7, 3) := by decide +kernel
theorem dX7_isItem_116 : decode cX7_isItem 116 = .ok (.iconst 1, 1) := by decide +kernel
theorem dX7_isItem_117 : decode cX7_isItem 117 = .ok (.goto 4, 3) := by decide +kernel
theorem dX7_isItem_120 : decode cX7_isItem 120 = .ok (.iconst 0, 1) := by decide +kernel
theorem dX7_isItem_121 : decode cX7_isItem 121 = .ok (.ireturn, 1) := by decide +kernel
theorem dX7_isItem_122 : decode cX7_isItem 122 = .ok (.aload_n 1, 1) := by decide +kernel
theorem dX7_isItem_123 : decode cX7_isItem 123 = .ok (.getfield 80, 3) := by decide +kernel
theorem dX7_isItem_126 : decode cX7_isItem 126 = .ok (.bipush 6, 2) := by decide +kernel
theorem dX7_isItem_128 : decode cX7_isItem 128 = .ok (.if_icmp .ge 59, 3) := by decide +kernel
theorem dX7_isItem_131 : decode cX7_isItem 131 = .ok (.aload_n 0, 1) := by decide +kernel
theorem dX7_isItem_132 : decode cX7_isItem 132 = .ok (.iconst 0, 1) := by decide +kernel
theorem dX7_isItem_133 : decode cX7_isItem 133 = .ok (.iconst 0, 1) := by decide +kernel
theorem dX7_isItem_134 : decode cX7_isItem 134 = .ok (.iconst 5, 1) := by decide +kernel
theorem dX7_isItem_135 : decode cX7_isItem 135 = .ok (.invokevirtual 72, 3) := by decide +kernel
theorem dX7_isItem_138 : decode cX7_isItem 138 = .ok (.ifCond .eq 49, 3) := by decide +kernel
theorem dX7_isItem_141 : decode cX7_isItem 141 = .ok (.aload_n 0, 1) := by decide +kernel
theorem dX7_isItem_142 : decode cX7_isItem 142 = .ok (.iconst 1, 1) := by decide +kernel
theorem dX7_isItem_143 : decode cX7_isItem 143 = .ok (.iconst 1, 1) := by decide +kernel
theorem dX7_isItem_144 : decode cX7_isItem 144 = .ok (.bipush 9, 2) := by decide +kernel
theorem dX7_isItem_146 : decode cX7_isItem 146 = .ok (.invokevirtual 72, 3) := by decide +kernel
theorem dX7_isItem_149 : decode cX7_isItem 149 = .ok (.ifCond .eq 38, 3) := by decide +kernel
theorem dX7_isItem_152 : decode cX7_isItem 152 = .ok (.aload_n 0, 1) := by decide +kernel
theorem dX7_isItem_153 : decode cX7_isItem 153 = .ok (.iconst 2, 1) := by decide +kernel
theorem dX7_isItem_154 : decode cX7_isItem 154 = .ok (.iconst 0, 1) := by decide +kernel
theorem dX7_isItem_155 : decode cX7_isItem 155 = .ok (.iload_n 2, 1) := by decide +kernel
theorem dX7_isItem_156 : decode cX7_isItem 156 = .ok (.invokevirtual 72, 3) := by decide +kernel
theorem dX7_isItem_159 : decode cX7_isItem 159 = .ok (.ifCond .eq 28, 3) := by decide +kernel
theorem dX7_isItem_162 : decode cX7_isItem 162 = .ok (.aload_n 1, 1) := by decide +kernel
theorem dX7_isItem_163 : decode cX7_isItem 163 = .ok (.aload_n 0, 1) := by decide +kernel
theorem dX7_isItem_164 : decode cX7_isItem 164 = .ok (.getfield 15, 3) := by decide +kernel
theorem dX7_isItem_167 : decode cX7_isItem 167 = .ok (.iconst 2, 1) := by decide +kernel
theorem dX7_isItem_168 : decode cX7_isItem 168 = .ok (.iaload, 1) := by decide +kernel
theorem dX7_isItem_169 : decode cX7_isItem 169 = .ok (.invokevirtual 83, 3) := by decide +kernel
theorem dX7_isItem_172 : decode cX7_isItem 172 = .ok (.iconst (-1), 1) := by decide +kernel
theorem dX7_isItem_173 : decode cX7_isItem 173 = .ok (.if_icmp .ne 14, 3) := by decide +kernel
theorem dX7_isItem_176 : decode cX7_isItem 176 = .ok (.aload_n 0, 1) := by decide +kernel
theorem dX7_isItem_177 : decode cX7_isItem 177 = .ok (.invokevirtual 76, 3) := by decide +kernel
theorem dX7_isItem_180 : decode cX7_isItem 180 = .ok (.ifCond .eq 7, 3) := by decide +kernel
theorem dX7_isItem_183 : decode cX7_isItem 183 = .ok (.iconst 1, 1) := by decide +kernel
theorem dX7_isItem_184 : decode cX7_isItem 184 = .ok (.goto 4, 3) := by decide +kernel
theorem dX7_isItem_187 : decode cX7_isItem 187 = .ok (.iconst 0, 1) := by decide +kernel
theorem dX7_isItem_188 : decode cX7_isItem 188 = .ok (.ireturn, 1) := by decide +kernel
theorem dX7_isItem_189 : decode cX7_isItem 189 = .ok (.aload_n 0, 1) := by decide +kernel
theorem dX7_isItem_190 : decode cX7_isItem 190 = .ok (.iconst 0, 1) := by decide +kernel
theorem dX7_isItem_191 : decode cX7_isItem 191 = .ok (.iconst 0, 1) := by decide +kernel
theorem dX7_isItem_192 : decode cX7_isItem 192 = .ok (.bipush 20, 2) := by decide +kernel
theorem dX7_isItem_194 : decode cX7_isItem 194 = .ok (.invokevirtual 72, 3) := by decide +kernel
theorem dX7_isItem_197 : decode cX7_isItem 197 = .ok (.ifCond .eq 14, 3) := by decide +kernel
theorem dX7_isItem_200 : decode cX7_isItem 200 = .ok (.aload_n 0, 1) := by decide +kernel
theorem dX7_isItem_201 : decode cX7_isItem 201 = .ok (.invokevirtual 76, 3) := by decide +kernel
theorem dX7_isItem_204 : decode cX7_isItem 204 = .ok (.ifCond .eq 7, 3) := by decide +kernel
theorem dX7_isItem_207 : decode cX7_isItem 207 = .ok (.iconst 1, 1) := by decide +kernel
theorem dX7_isItem_208 : decode cX7_isItem 208 = .ok (.goto 4, 3) := by decide +kernel
theorem dX7_isItem_211 : decode cX7_isItem 211 = .ok (.iconst 0, 1) := by decide +kernel
theorem dX7_isItem_212 : decode cX7_isItem 212 = .ok (.ireturn, 1) := by decide +kernel
theorem dX7_isItem_213 : decode cX7_isItem 213 = .ok (.aload_n 0, 1) := by decide +kernel
theorem dX7_isItem_214 : decode cX7_isItem 214 = .ok (.iconst 0, 1) := by decide +kernel
theorem dX7_isItem_215 : decode cX7_isItem 215 = .ok (.iconst 1, 1) := by decide +kernel
theorem dX7_isItem_216 : decode cX7_isItem 216 = .ok (.bipush 99, 2) := by decide +kernel
theorem dX7_isItem_218 : decode cX7_isItem 218 = .ok (.invokevirtual 72, 3) := by decide +kernel
theorem dX7_isItem_221 : decode cX7_isItem 221 = .ok (.ifCond .eq 14, 3) := by decide +kernel
theorem dX7_isItem_224 : decode cX7_isItem 224 = .ok (.aload_n 0, 1) := by decide +kernel
theorem dX7_isItem_225 : decode cX7_isItem 225 = .ok (.invokevirtual 76, 3) := by decide +kernel
theorem dX7_isItem_228 : decode cX7_isItem 228 = .ok (.ifCond .eq 7, 3) := by decide +kernel
theorem dX7_isItem_231 : decode cX7_isItem 231 = .ok (.iconst 1, 1) := by decide +kernel
theorem dX7_isItem_232 : decode cX7_isItem 232 = .ok (.goto 4, 3) := by decide +kernel
theorem dX7_isItem_235 : decode cX7_isItem 235 = .ok (.iconst 0, 1) := by decide +kernel
theorem dX7_isItem_236 : decode cX7_isItem 236 = .ok (.ireturn, 1) := by decide +kernel
theorem dX7_isItem_237 : decode cX7_isItem 237 = .ok (.iconst 0, 1) := by decide +kernel
theorem dX7_isItem_238 : decode cX7_isItem 238 = .ok (.ireturn, 1) := by decide +kernel
theorem dX7_apply_0 : decode cX7_apply 0 = .ok (.aload_n 0, 1) := by decide +kernel
theorem dX7_apply_1 : decode cX7_apply 1 = .ok (.getfield 39, 3) := by decide +kernel
theorem dX7_apply_4 : decode cX7_apply 4 = .ok (.tableswitch 114 1 4 #[32, 51, 76, 101], 32) := by decide +kernel
theorem dX7_apply_36 : decode cX7_apply 36 = .ok (.aload_n 1, 1) := by decide +kernel
theorem dX7_apply_37 : decode cX7_apply 37 = .ok (.aload_n 0, 1) := by decide +kernel
theorem dX7_apply_38 : decode cX7_apply 38 = .ok (.getfield 15, 3) := by decide +kernel
theorem dX7_apply_41 : decode cX7_apply 41 = .ok (.iconst 0, 1) := by decide +kernel
theorem dX7_apply_42 : decode cX7_apply 42 = .ok (.iaload, 1) := by decide +kernel
theorem dX7_apply_43 : decode cX7_apply 43 = .ok (.aload_n 0, 1) := by decide +kernel
theorem dX7_apply_44 : decode cX7_apply 44 = .ok (.getfield 15, 3) := by decide +kernel
theorem dX7_apply_47 : decode cX7_apply 47 = .ok (.iconst 1, 1) := by decide +kernel
theorem dX7_apply_48 : decode cX7_apply 48 = .ok (.iaload, 1) := by decide +kernel
theorem dX7_apply_49 : decode cX7_apply 49 = .ok (.invokevirtual 87, 3) := by decide +kernel
theorem dX7_apply_52 : decode cX7_apply 52 = .ok (.goto 99, 3) := by decide +kernel
theorem dX7_apply_55 : decode cX7_apply 55 = .ok (.aload_n 1, 1) := by decide +kernel
theorem dX7_apply_56 : decode cX7_apply 56 = .ok (.aload_n 0, 1) := by decide +kernel
theorem dX7_apply_57 : decode cX7_apply 57 = .ok (.getfield 15, 3) := by decide +kernel
theorem dX7_apply_60 : decode cX7_apply 60 = .ok (.iconst 0, 1) := by decide +kernel
theorem dX7_apply_61 : decode cX7_apply 61 = .ok (.iaload, 1) := by decide +kernel
theorem dX7_apply_62 : decode cX7_apply 62 = .ok (.aload_n 0, 1) := by decide +kernel
theorem dX7_apply_63 : decode cX7_apply 63 = .ok (.getfield 15, 3) := by decide +kernel
theorem dX7_apply_66 : decode cX7_apply 66 = .ok (.iconst 1, 1) := by decide +kernel
theorem dX7_apply_67 : decode cX7_apply 67 = .ok (.iaload, 1) := by decide +kernel
theorem dX7_apply_68 : decode cX7_apply 68 = .ok (.aload_n 0, 1) := by decide +kernel
theorem dX7_apply_69 : decode cX7_apply 69 = .ok (.getfield 15, 3) := by decide +kernel
theorem dX7_apply_72 : decode cX7_apply 72 = .ok (.iconst 2, 1) := by decide +kernel
theorem dX7_apply_73 : decode cX7_apply 73 = .ok (.iaload, 1) := by decide +kernel
theorem dX7_apply_74 : decode cX7_apply 74 = .ok (.invokevirtual 91, 3) := by decide +kernel
theorem dX7_apply_77 : decode cX7_apply 77 = .ok (.goto 74, 3) := by decide +kernel
theorem dX7_apply_80 : decode cX7_apply 80 = .ok (.aload_n 1, 1) := by decide +kernel
theorem dX7_apply_81 : decode cX7_apply 81 = .ok (.aload_n 0, 1) := by decide +kernel
theorem dX7_apply_82 : decode cX7_apply 82 = .ok (.getfield 15, 3) := by decide +kernel
theorem dX7_apply_85 : decode cX7_apply 85 = .ok (.iconst 0, 1) := by decide +kernel
theorem dX7_apply_86 : decode cX7_apply 86 = .ok (.iaload, 1) := by decide +kernel
theorem dX7_apply_87 : decode cX7_apply 87 = .ok (.aload_n 0, 1) := by decide +kernel
theorem dX7_apply_88 : decode cX7_apply 88 = .ok (.getfield 15, 3) := by decide +kernel
theorem dX7_apply_91 : decode cX7_apply 91 = .ok (.iconst 1, 1) := by decide +kernel
theorem dX7_apply_92 : decode cX7_apply 92 = .ok (.iaload, 1) := by decide +kernel
theorem dX7_apply_93 : decode cX7_apply 93 = .ok (.aload_n 0, 1) := by decide +kernel
theorem dX7_apply_94 : decode cX7_apply 94 = .ok (.getfield 15, 3) := by decide +kernel
theorem dX7_apply_97 : decode cX7_apply 97 = .ok (.iconst 2, 1) := by decide +kernel
theorem dX7_apply_98 : decode cX7_apply 98 = .ok (.iaload, 1) := by decide +kernel
theorem dX7_apply_99 : decode cX7_apply 99 = .ok (.invokevirtual 95, 3) := by decide +kernel
theorem dX7_apply_102 : decode cX7_apply 102 = .ok (.goto 49, 3) := by decide +kernel
theorem dX7_apply_105 : decode cX7_apply 105 = .ok (.aload_n 1, 1) := by decide +kernel
theorem dX7_apply_106 : decode cX7_apply 106 = .ok (.aload_n 0, 1) := by decide +kernel
theorem dX7_apply_107 : decode cX7_apply 107 = .ok (.getfield 15, 3) := by decide +kernel
theorem dX7_apply_110 : decode cX7_apply 110 = .ok (.iconst 0, 1) := by decide +kernel
theorem dX7_apply_111 : decode cX7_apply 111 = .ok (.iaload, 1) := by decide +kernel
theorem dX7_apply_112 : decode cX7_apply 112 = .ok (.putfield 98, 3) := by decide +kernel
theorem dX7_apply_115 : decode cX7_apply 115 = .ok (.goto 36, 3) := by decide +kernel
theorem dX7_apply_118 : decode cX7_apply 118 = .ok (.iconst 0, 1) := by decide +kernel
theorem dX7_apply_119 : decode cX7_apply 119 = .ok (.istore_n 2, 1) := by decide +kernel
theorem dX7_apply_120 : decode cX7_apply 120 = .ok (.iload_n 2, 1) := by decide +kernel
theorem dX7_apply_121 : decode cX7_apply 121 = .ok (.aload_n 0, 1) := by decide +kernel
theorem dX7_apply_122 : decode cX7_apply 122 = .ok (.getfield 15, 3) := by decide +kernel
theorem dX7_apply_125 : decode cX7_apply 125 = .ok (.iconst 0, 1) := by decide +kernel
theorem dX7_apply_126 : decode cX7_apply 126 = .ok (.iaload, 1) := by decide +kernel
theorem dX7_apply_127 : decode cX7_apply 127 = .ok (.if_icmp .ge 24, 3) := by decide +kernel
theorem dX7_apply_130 : decode cX7_apply 130 = .ok (.aload_n 1, 1) := by decide +kernel
theorem dX7_apply_131 : decode cX7_apply 131 = .ok (.getfield 100, 3) := by decide +kernel
theorem dX7_apply_134 : decode cX7_apply 134 = .ok (.sipush 9999, 3) := by decide +kernel
theorem dX7_apply_137 : decode cX7_apply 137 = .ok (.if_icmp .ge 14, 3) := by decide +kernel
theorem dX7_apply_140 : decode cX7_apply 140 = .ok (.aload_n 1, 1) := by decide +kernel
theorem dX7_apply_141 : decode cX7_apply 141 = .ok (.invokevirtual 103, 3) := by decide +kernel
theorem dX7_apply_144 : decode cX7_apply 144 = .ok (.pop, 1) := by decide +kernel
theorem dX7_apply_145 : decode cX7_apply 145 = .ok (.iinc 2 1, 3) := by decide +kernel
theorem dX7_apply_148 : decode cX7_apply 148 = .ok (.goto (-28), 3) := by decide +kernel
theorem dX7_apply_151 : decode cX7_apply 151 = .ok (.return_, 1) := by decide +kernel
theorem dX7_isNumber_0 : decode cX7_isNumber 0 = .ok (.aload_n 0, 1) := by decide +kernel
theorem dX7_isNumber_1 : decode cX7_isNumber 1 = .ok (.invokevirtual 26, 3) := by decide +kernel
theorem dX7_isNumber_4 : decode cX7_isNumber 4 = .ok (.aload_n 0, 1) := by decide +kernel
theorem dX7_isNumber_5 : decode cX7_isNumber 5 = .ok (.getfield 15, 3) := by decide +kernel
theorem dX7_isNumber_8 : decode cX7_isNumber 8 = .ok (.iload_n 1, 1) := by decide +kernel
theorem dX7_isNumber_9 : decode cX7_isNumber 9 = .ok (.aload_n 0, 1) := by decide +kernel
theorem dX7_isNumber_10 : decode cX7_isNumber 10 = .ok (.getfield 106, 3) := by decide +kernel
theorem dX7_isNumber_13 : decode cX7_isNumber 13 = .ok (.iastore, 1) := by decide +kernel
theorem dX7_isNumber_14 : decode cX7_isNumber 14 = .ok (.aload_n 0, 1) := by decide +kernel
theorem dX7_isNumber_15 : decode cX7_isNumber 15 = .ok (.getfield 29, 3) := by decide +kernel
theorem dX7_isNumber_18 : decode cX7_isNumber 18 = .ok (.iconst 2, 1) := by decide +kernel
theorem dX7_isNumber_19 : decode cX7_isNumber 19 = .ok (.if_icmp .ne 19, 3) := by decide +kernel
theorem dX7_isNumber_22 : decode cX7_isNumber 22 = .ok (.aload_n 0, 1) := by decide +kernel
theorem dX7_isNumber_23 : decode cX7_isNumber 23 = .ok (.getfield 106, 3) := by decide +kernel
theorem dX7_isNumber_26 : decode cX7_isNumber 26 = .ok (.iload_n 2, 1) := by decide +kernel
theorem dX7_isNumber_27 : decode cX7_isNumber 27 = .ok (.iload_n 3, 1) := by decide +kernel
theorem dX7_isNumber_28 : decode cX7_isNumber 28 = .ok (.invokestatic 109, 3) := by decide +kernel
theorem dX7_isNumber_31 : decode cX7_isNumber 31 = .ok (.ifCond .eq 7, 3) := by decide +kernel
theorem dX7_isNumber_34 : decode cX7_isNumber 34 = .ok (.iconst 1, 1) := by decide +kernel
theorem dX7_isNumber_35 : decode cX7_isNumber 35 = .ok (.goto 4, 3) := by decide +kernel
theorem dX7_isNumber_38 : decode cX7_isNumber 38 = .ok (.iconst 0, 1) := by decide +kernel
theorem dX7_isNumber_39 : decode cX7_isNumber 39 = .ok (.ireturn, 1) := by decide +kernel
theorem dX7_isStop_0 : decode cX7_isStop 0 = .ok (.aload_n 0, 1) := by decide +kernel
theorem dX7_isStop_1 : decode cX7_isStop 1 = .ok (.invokevirtual 26, 3) := by decide +kernel
theorem dX7_isStop_4 : decode cX7_isStop 4 = .ok (.aload_n 0, 1) := by decide +kernel
theorem dX7_isStop_5 : decode cX7_isStop 5 = .ok (.getfield 29, 3) := by decide +kernel
theorem dX7_isStop_8 : decode cX7_isStop 8 = .ok (.iconst 3, 1) := by decide +kernel
theorem dX7_isStop_9 : decode cX7_isStop 9 = .ok (.if_icmp .ne 7, 3) := by decide +kernel
theorem dX7_isStop_12 : decode cX7_isStop 12 = .ok (.iconst 1, 1) := by decide +kernel
theorem dX7_isStop_13 : decode cX7_isStop 13 = .ok (.goto 4, 3) := by decide +kernel
theorem dX7_isStop_16 : decode cX7_isStop 16 = .ok (.iconst 0, 1) := by decide +kernel
theorem dX7_isStop_17 : decode cX7_isStop 17 = .ok (.ireturn, 1) := by decide +kernel
theorem dX7_isWord_0 : decode cX7_isWord 0 = .ok (.aload_n 0, 1) := by decide +kernel
theorem dX7_isWord_1 : decode cX7_isWord 1 = .ok (.getfield 29, 3) := by decide +kernel
theorem dX7_isWord_4 : decode cX7_isWord 4 = .ok (.iconst 1, 1) := by decide +kernel
theorem dX7_isWord_5 : decode cX7_isWord 5 = .ok (.if_icmp .ne 19, 3) := by decide +kernel
theorem dX7_isWord_8 : decode cX7_isWord 8 = .ok (.aload_n 0, 1) := by decide +kernel
theorem dX7_isWord_9 : decode cX7_isWord 9 = .ok (.getfield 23, 3) := by decide +kernel
theorem dX7_isWord_12 : decode cX7_isWord 12 = .ok (.aload_n 0, 1) := by decide +kernel
theorem dX7_isWord_13 : decode cX7_isWord 13 = .ok (.getfield 46, 3) := by decide +kernel
theorem dX7_isWord_16 : decode cX7_isWord 16 = .ok (.isub, 1) := by decide +kernel
theorem dX7_isWord_17 : decode cX7_isWord 17 = .ok (.aload_n 1, 1) := by decide +kernel
theorem dX7_isWord_18 : decode cX7_isWord 18 = .ok (.invokevirtual 112, 3) := by decide +kernel
theorem dX7_isWord_21 : decode cX7_isWord 21 = .ok (.if_icmp .eq 5, 3) := by decide +kernel
theorem dX7_isWord_24 : decode cX7_isWord 24 = .ok (.iconst 0, 1) := by decide +kernel
theorem dX7_isWord_25 : decode cX7_isWord 25 = .ok (.ireturn, 1) := by decide +kernel
theorem dX7_isWord_26 : decode cX7_isWord 26 = .ok (.iconst 0, 1) := by decide +kernel
theorem dX7_isWord_27 : decode cX7_isWord 27 = .ok (.istore_n 2, 1) := by decide +kernel
theorem dX7_isWord_28 : decode cX7_isWord 28 = .ok (.iload_n 2, 1) := by decide +kernel
theorem dX7_isWord_29 : decode cX7_isWord 29 = .ok (.aload_n 1, 1) := by decide +kernel
theorem dX7_isWord_30 : decode cX7_isWord 30 = .ok (.invokevirtual 112, 3) := by decide +kernel
theorem dX7_isWord_33 : decode cX7_isWord 33 = .ok (.if_icmp .ge 30, 3) := by decide +kernel
theorem dX7_isWord_36 : decode cX7_isWord 36 = .ok (.aload_n 0, 1) := by decide +kernel
theorem dX7_isWord_37 : decode cX7_isWord 37 = .ok (.getfield 9, 3) := by decide +kernel
theorem dX7_isWord_40 : decode cX7_isWord 40 = .ok (.aload_n 0, 1) := by decide +kernel
theorem dX7_isWord_41 : decode cX7_isWord 41 = .ok (.getfield 46, 3) := by decide +kernel
theorem dX7_isWord_44 : decode cX7_isWord 44 = .ok (.iload_n 2, 1) := by decide +kernel
theorem dX7_isWord_45 : decode cX7_isWord 45 = .ok (.iadd, 1) := by decide +kernel
theorem dX7_isWord_46 : decode cX7_isWord 46 = .ok (.baload, 1) := by decide +kernel
theorem dX7_isWord_47 : decode cX7_isWord 47 = .ok (.aload_n 1, 1) := by decide +kernel
theorem dX7_isWord_48 : decode cX7_isWord 48 = .ok (.iload_n 2, 1) := by decide +kernel
theorem dX7_isWord_49 : decode cX7_isWord 49 = .ok (.invokevirtual 117, 3) := by decide +kernel
theorem dX7_isWord_52 : decode cX7_isWord 52 = .ok (.if_icmp .eq 5, 3) := by decide +kernel
theorem dX7_isWord_55 : decode cX7_isWord 55 = .ok (.iconst 0, 1) := by decide +kernel
theorem dX7_isWord_56 : decode cX7_isWord 56 = .ok (.ireturn, 1) := by decide +kernel
theorem dX7_isWord_57 : decode cX7_isWord 57 = .ok (.iinc 2 1, 3) := by decide +kernel
theorem dX7_isWord_60 : decode cX7_isWord 60 = .ok (.goto (-32), 3) := by decide +kernel
theorem dX7_isWord_63 : decode cX7_isWord 63 = .ok (.iconst 1, 1) := by decide +kernel
theorem dX7_isWord_64 : decode cX7_isWord 64 = .ok (.ireturn, 1) := by decide +kernel
theorem dX7_next_0 : decode cX7_next 0 = .ok (.aload_n 0, 1) := by decide +kernel
theorem dX7_next_1 : decode cX7_next 1 = .ok (.aload_n 0, 1) := by decide +kernel
theorem dX7_next_2 : decode cX7_next 2 = .ok (.getfield 23, 3) := by decide +kernel
theorem dX7_next_5 : decode cX7_next 5 = .ok (.putfield 46, 3) := by decide +kernel
theorem dX7_next_8 : decode cX7_next 8 = .ok (.aload_n 0, 1) := by decide +kernel
theorem dX7_next_9 : decode cX7_next 9 = .ok (.getfield 46, 3) := by decide +kernel
theorem dX7_next_12 : decode cX7_next 12 = .ok (.aload_n 0, 1) := by decide +kernel
theorem dX7_next_13 : decode cX7_next 13 = .ok (.getfield 19, 3) := by decide +kernel
theorem dX7_next_16 : decode cX7_next 16 = .ok (.if_icmp .ge 30, 3) := by decide +kernel
theorem dX7_next_19 : decode cX7_next 19 = .ok (.aload_n 0, 1) := by decide +kernel
theorem dX7_next_20 : decode cX7_next 20 = .ok (.getfield 9, 3) := by decide +kernel
theorem dX7_next_23 : decode cX7_next 23 = .ok (.aload_n 0, 1) := by decide +kernel
theorem dX7_next_24 : decode cX7_next 24 = .ok (.getfield 46, 3) := by decide +kernel
theorem dX7_next_27 : decode cX7_next 27 = .ok (.baload, 1) := by decide +kernel
theorem dX7_next_28 : decode cX7_next 28 = .ok (.bipush 32, 2) := by decide +kernel
theorem dX7_next_30 : decode cX7_next 30 = .ok (.if_icmp .ne 16, 3) := by decide +kernel
theorem dX7_next_33 : decode cX7_next 33 = .ok (.aload_n 0, 1) := by decide +kernel
theorem dX7_next_34 : decode cX7_next 34 = .ok (.dup, 1) := by decide +kernel
theorem dX7_next_35 : decode cX7_next 35 = .ok (.getfield 46, 3) := by decide +kernel
theorem dX7_next_38 : decode cX7_next 38 = .ok (.iconst 1, 1) := by decide +kernel
theorem dX7_next_39 : decode cX7_next 39 = .ok (.iadd, 1) := by decide +kernel
theorem dX7_next_40 : decode cX7_next 40 = .ok (.putfield 46, 3) := by decide +kernel
theorem dX7_next_43 : decode cX7_next 43 = .ok (.goto (-35), 3) := by decide +kernel
theorem dX7_next_46 : decode cX7_next 46 = .ok (.aload_n 0, 1) := by decide +kernel
theorem dX7_next_47 : decode cX7_next 47 = .ok (.aload_n 0, 1) := by decide +kernel
theorem dX7_next_48 : decode cX7_next 48 = .ok (.getfield 46, 3) := by decide +kernel
theorem dX7_next_51 : decode cX7_next 51 = .ok (.putfield 23, 3) := by decide +kernel
theorem dX7_next_54 : decode cX7_next 54 = .ok (.aload_n 0, 1) := by decide +kernel
theorem dX7_next_55 : decode cX7_next 55 = .ok (.getfield 46, 3) := by decide +kernel
theorem dX7_next_58 : decode cX7_next 58 = .ok (.aload_n 0, 1) := by decide +kernel
theorem dX7_next_59 : decode cX7_next 59 = .ok (.getfield 19, 3) := by decide +kernel
theorem dX7_next_62 : decode cX7_next 62 = .ok (.if_icmp .lt 11, 3) := by decide +kernel
theorem dX7_next_65 : decode cX7_next 65 = .ok (.aload_n 0, 1) := by decide +kernel
theorem dX7_next_66 : decode cX7_next 66 = .ok (.iconst 0, 1) := by decide +kernel
theorem dX7_next_67 : decode cX7_next 67 = .ok (.putfield 29, 3) := by decide +kernel
theorem dX7_next_70 : decode cX7_next 70 = .ok (.goto 206, 3) := by decide +kernel
theorem dX7_next_73 : decode cX7_next 73 = .ok (.aload_n 0, 1) := by decide +kernel
theorem dX7_next_74 : decode cX7_next 74 = .ok (.getfield 9, 3) := by decide +kernel
theorem dX7_next_77 : decode cX7_next 77 = .ok (.aload_n 0, 1) := by decide +kernel
theorem dX7_next_78 : decode cX7_next 78 = .ok (.getfield 46, 3) := by decide +kernel
theorem dX7_next_81 : decode cX7_next 81 = .ok (.baload, 1) := by decide +kernel
theorem dX7_next_82 : decode cX7_next 82 = .ok (.invokestatic 121, 3) := by decide +kernel
theorem dX7_next_85 : decode cX7_next 85 = .ok (.ifCond .eq 50, 3) := by decide +kernel
theorem dX7_next_88 : decode cX7_next 88 = .ok (.aload_n 0, 1) := by decide +kernel
theorem dX7_next_89 : decode cX7_next 89 = .ok (.getfield 23, 3) := by decide +kernel
theorem dX7_next_92 : decode cX7_next 92 = .ok (.aload_n 0, 1) := by decide +kernel
theorem dX7_next_93 : decode cX7_next 93 = .ok (.getfield 19, 3) := by decide +kernel
theorem dX7_next_96 : decode cX7_next 96 = .ok (.if_icmp .ge 31, 3) := by decide +kernel
theorem dX7_next_99 : decode cX7_next 99 = .ok (.aload_n 0, 1) := by decide +kernel
theorem dX7_next_100 : decode cX7_next 100 = .ok (.getfield 9, 3) := by decide +kernel
theorem dX7_next_103 : decode cX7_next 103 = .ok (.aload_n 0, 1) := by decide +kernel
theorem dX7_next_104 : decode cX7_next 104 = .ok (.getfield 23, 3) := by decide +kernel
theorem dX7_next_107 : decode cX7_next 107 = .ok (.baload, 1) := by decide +kernel
theorem dX7_next_108 : decode cX7_next 108 = .ok (.invokestatic 121, 3) := by decide +kernel
theorem dX7_next_111 : decode cX7_next 111 = .ok (.ifCond .eq 16, 3) := by decide +kernel
theorem dX7_next_114 : decode cX7_next 114 = .ok (.aload_n 0, 1) := by decide +kernel
theorem dX7_next_115 : decode cX7_next 115 = .ok (.dup, 1) := by decide +kernel
theorem dX7_next_116 : decode cX7_next 116 = .ok (.getfield 23, 3) := by decide +kernel
theorem dX7_next_119 : decode cX7_next 119 = .ok (.iconst 1, 1) := by decide +kernel
theorem dX7_next_120 : decode cX7_next 120 = .ok (.iadd, 1) := by decide +kernel
theorem dX7_next_121 : decode cX7_next 121 = .ok (.putfield 23, 3) := by decide +kernel
theorem dX7_next_124 : decode cX7_next 124 = .ok (.goto (-36), 3) := by decide +kernel
theorem dX7_next_127 : decode cX7_next 127 = .ok (.aload_n 0, 1) := by decide +kernel
theorem dX7_next_128 : decode cX7_next 128 = .ok (.iconst 1, 1) := by decide +kernel
theorem dX7_next_129 : decode cX7_next 129 = .ok (.putfield 29, 3) := by decide +kernel
theorem dX7_next_132 : decode cX7_next 132 = .ok (.goto 144, 3) := by decide +kernel
theorem dX7_next_135 : decode cX7_next 135 = .ok (.aload_n 0, 1) := by decide +kernel
theorem dX7_next_136 : decode cX7_next 136 = .ok (.getfield 9, 3) := by decide +kernel
theorem dX7_next_139 : decode cX7_next 139 = .ok (.aload_n 0, 1) := by decide +kernel
theorem dX7_next_140 : decode cX7_next 140 = .ok (.getfield 46, 3) := by decide +kernel
theorem dX7_next_143 : decode cX7_next 143 = .ok (.baload, 1) := by decide +kernel
theorem dX7_next_144 : decode cX7_next 144 = .ok (.invokestatic 125, 3) := by decide +kernel
theorem dX7_next_147 : decode cX7_next 147 = .ok (.ifCond .eq 96, 3) := by decide +kernel
theorem dX7_next_150 : decode cX7_next 150 = .ok (.aload_n 0, 1) := by decide +kernel
theorem dX7_next_151 : decode cX7_next 151 = .ok (.iconst 0, 1) := by decide +kernel
theorem dX7_next_152 : decode cX7_next 152 = .ok (.putfield 106, 3) := by decide +kernel
theorem dX7_next_155 : decode cX7_next 155 = .ok (.aload_n 0, 1) := by decide +kernel
theorem dX7_next_156 : decode cX7_next 156 = .ok (.getfield 23, 3) := by decide +kernel
theorem dX7_next_159 : decode cX7_next 159 = .ok (.aload_n 0, 1) := by decide +kernel
theorem dX7_next_160 : decode cX7_next 160 = .ok (.getfield 19, 3) := by decide +kernel
theorem dX7_next_163 : decode cX7_next 163 = .ok (.if_icmp .ge 55, 3) := by decide +kernel
theorem dX7_next_166 : decode cX7_next 166 = .ok (.aload_n 0, 1) := by decide +kernel
theorem dX7_next_167 : decode cX7_next 167 = .ok (.getfield 9, 3) := by decide +kernel
theorem dX7_next_170 : decode cX7_next 170 = .ok (.aload_n 0, 1) := by decide +kernel
theorem dX7_next_171 : decode cX7_next 171 = .ok (.getfield 23, 3) := by decide +kernel
theorem dX7_next_174 : decode cX7_next 174 = .ok (.baload, 1) := by decide +kernel
theorem dX7_next_175 : decode cX7_next 175 = .ok (.invokestatic 125, 3) := by decide +kernel
theorem dX7_next_178 : decode cX7_next 178 = .ok (.ifCond .eq 40, 3) := by decide +kernel
theorem dX7_next_181 : decode cX7_next 181 = .ok (.aload_n 0, 1) := by decide +kernel
theorem dX7_next_182 : decode cX7_next 182 = .ok (.bipush 10, 2) := by decide +kernel
theorem dX7_next_184 : decode cX7_next 184 = .ok (.aload_n 0, 1) := by decide +kernel
theorem dX7_next_185 : decode cX7_next 185 = .ok (.getfield 106, 3) := by decide +kernel
theorem dX7_next_188 : decode cX7_next 188 = .ok (.imul, 1) := by decide +kernel
theorem dX7_next_189 : decode cX7_next 189 = .ok (.aload_n 0, 1) := by decide +kernel
theorem dX7_next_190 : decode cX7_next 190 = .ok (.getfield 9, 3) := by decide +kernel
theorem dX7_next_193 : decode cX7_next 193 = .ok (.aload_n 0, 1) := by decide +kernel
theorem dX7_next_194 : decode cX7_next 194 = .ok (.getfield 23, 3) := by decide +kernel
theorem dX7_next_197 : decode cX7_next 197 = .ok (.baload, 1) := by decide +kernel
theorem dX7_next_198 : decode cX7_next 198 = .ok (.bipush 48, 2) := by decide +kernel
theorem dX7_next_200 : decode cX7_next 200 = .ok (.isub, 1) := by decide +kernel
theorem dX7_next_201 : decode cX7_next 201 = .ok (.iadd, 1) := by decide +kernel
theorem dX7_next_202 : decode cX7_next 202 = .ok (.putfield 106, 3) := by decide +kernel
theorem dX7_next_205 : decode cX7_next 205 = .ok (.aload_n 0, 1) := by decide +kernel
theorem dX7_next_206 : decode cX7_next 206 = .ok (.dup, 1) := by decide +kernel
theorem dX7_next_207 : decode cX7_next 207 = .ok (.getfield 23, 3) := by decide +kernel
theorem dX7_next_210 : decode cX7_next 210 = .ok (.iconst 1, 1) := by decide +kernel
theorem dX7_next_211 : decode cX7_next 211 = .ok (.iadd, 1) := by decide +kernel
theorem dX7_next_212 : decode cX7_next 212 = .ok (.putfield 23, 3) := by decide +kernel
theorem dX7_next_215 : decode cX7_next 215 = .ok (.goto (-60), 3) := by decide +kernel
theorem dX7_next_218 : decode cX7_next 218 = .ok (.aload_n 0, 1) := by decide +kernel
theorem dX7_next_219 : decode cX7_next 219 = .ok (.aload_n 0, 1) := by decide +kernel
theorem dX7_next_220 : decode cX7_next 220 = .ok (.getfield 23, 3) := by decide +kernel
theorem dX7_next_223 : decode cX7_next 223 = .ok (.aload_n 0, 1) := by decide +kernel
theorem dX7_next_224 : decode cX7_next 224 = .ok (.getfield 46, 3) := by decide +kernel
theorem dX7_next_227 : decode cX7_next 227 = .ok (.isub, 1) := by decide +kernel
theorem dX7_next_228 : decode cX7_next 228 = .ok (.iconst 2, 1) := by decide +kernel
theorem dX7_next_229 : decode cX7_next 229 = .ok (.if_icmp .gt 7, 3) := by decide +kernel
theorem dX7_next_232 : decode cX7_next 232 = .ok (.iconst 2, 1) := by decide +kernel
theorem dX7_next_233 : decode cX7_next 233 = .ok (.goto 4, 3) := by decide +kernel
theorem dX7_next_236 : decode cX7_next 236 = .ok (.iconst 4, 1) := by decide +kernel
theorem dX7_next_237 : decode cX7_next 237 = .ok (.putfield 29, 3) := by decide +kernel
theorem dX7_next_240 : decode cX7_next 240 = .ok (.goto 36, 3) := by decide +kernel
theorem dX7_next_243 : decode cX7_next 243 = .ok (.aload_n 0, 1) := by decide +kernel
theorem dX7_next_244 : decode cX7_next 244 = .ok (.aload_n 0, 1) := by decide +kernel
theorem dX7_next_245 : decode cX7_next 245 = .ok (.getfield 9, 3) := by decide +kernel
theorem dX7_next_248 : decode cX7_next 248 = .ok (.aload_n 0, 1) := by decide +kernel
theorem dX7_next_249 : decode cX7_next 249 = .ok (.getfield 46, 3) := by decide +kernel
theorem dX7_next_252 : decode cX7_next 252 = .ok (.baload, 1) := by decide +kernel
theorem dX7_next_253 : decode cX7_next 253 = .ok (.bipush 59, 2) := by decide +kernel
theorem dX7_next_255 : decode cX7_next 255 = .ok (.if_icmp .ne 7, 3) := by decide +kernel
theorem dX7_next_258 : decode cX7_next 258 = .ok (.iconst 3, 1) := by decide +kernel
theorem dX7_next_259 : decode cX7_next 259 = .ok (.goto 4, 3) := by decide +kernel
theorem dX7_next_262 : decode cX7_next 262 = .ok (.iconst 4, 1) := by decide +kernel
theorem dX7_next_263 : decode cX7_next 263 = .ok (.putfield 29, 3) := by decide +kernel
theorem dX7_next_266 : decode cX7_next 266 = .ok (.aload_n 0, 1) := by decide +kernel
theorem dX7_next_267 : decode cX7_next 267 = .ok (.dup, 1) := by decide +kernel
theorem dX7_next_268 : decode cX7_next 268 = .ok (.getfield 23, 3) := by decide +kernel
theorem dX7_next_271 : decode cX7_next 271 = .ok (.iconst 1, 1) := by decide +kernel
theorem dX7_next_272 : decode cX7_next 272 = .ok (.iadd, 1) := by decide +kernel
theorem dX7_next_273 : decode cX7_next 273 = .ok (.putfield 23, 3) := by decide +kernel
theorem dX7_next_276 : decode cX7_next 276 = .ok (.return_, 1) := by decide +kernel
theorem dX7_isLetter_0 : decode cX7_isLetter 0 = .ok (.iload_n 0, 1) := by decide +kernel
theorem dX7_isLetter_1 : decode cX7_isLetter 1 = .ok (.bipush 97, 2) := by decide +kernel
theorem dX7_isLetter_3 : decode cX7_isLetter 3 = .ok (.if_icmp .lt 13, 3) := by decide +kernel
theorem dX7_isLetter_6 : decode cX7_isLetter 6 = .ok (.iload_n 0, 1) := by decide +kernel
theorem dX7_isLetter_7 : decode cX7_isLetter 7 = .ok (.bipush 122, 2) := by decide +kernel
theorem dX7_isLetter_9 : decode cX7_isLetter 9 = .ok (.if_icmp .gt 7, 3) := by decide +kernel
theorem dX7_isLetter_12 : decode cX7_isLetter 12 = .ok (.iconst 1, 1) := by decide +kernel
theorem dX7_isLetter_13 : decode cX7_isLetter 13 = .ok (.goto 4, 3) := by decide +kernel
theorem dX7_isLetter_16 : decode cX7_isLetter 16 = .ok (.iconst 0, 1) := by decide +kernel
theorem dX7_isLetter_17 : decode cX7_isLetter 17 = .ok (.ireturn, 1) := by decide +kernel
theorem dX7_isFigure_0 : decode cX7_isFigure 0 = .ok (.iload_n 0, 1) := by decide +kernel
theorem dX7_isFigure_1 : decode cX7_isFigure 1 = .ok (.bipush 48, 2) := by decide +kernel
theorem dX7_isFigure_3 : decode cX7_isFigure 3 = .ok (.if_icmp .lt 13, 3) := by decide +kernel
theorem dX7_isFigure_6 : decode cX7_isFigure 6 = .ok (.iload_n 0, 1) := by decide +kernel
theorem dX7_isFigure_7 : decode cX7_isFigure 7 = .ok (.bipush 57, 2) := by decide +kernel
theorem dX7_isFigure_9 : decode cX7_isFigure 9 = .ok (.if_icmp .gt 7, 3) := by decide +kernel
theorem dX7_isFigure_12 : decode cX7_isFigure 12 = .ok (.iconst 1, 1) := by decide +kernel
theorem dX7_isFigure_13 : decode cX7_isFigure 13 = .ok (.goto 4, 3) := by decide +kernel
theorem dX7_isFigure_16 : decode cX7_isFigure 16 = .ok (.iconst 0, 1) := by decide +kernel
theorem dX7_isFigure_17 : decode cX7_isFigure 17 = .ok (.ireturn, 1) := by decide +kernel
theorem dX8_init_0 : decode cX8_init 0 = .ok (.aload_n 0, 1) := by decide +kernel
theorem dX8_init_1 : decode cX8_init 1 = .ok (.invokespecial 1, 3) := by decide +kernel
theorem dX8_init_4 : decode cX8_init 4 = .ok (.aload_n 0, 1) := by decide +kernel
theorem dX8_init_5 : decode cX8_init 5 = .ok (.new 7, 3) := by decide +kernel
theorem dX8_init_8 : decode cX8_init 8 = .ok (.dup, 1) := by decide +kernel
theorem dX8_init_9 : decode cX8_init 9 = .ok (.invokespecial 9, 3) := by decide +kernel
theorem dX8_init_12 : decode cX8_init 12 = .ok (.putfield 10, 3) := by decide +kernel
theorem dX8_init_15 : decode cX8_init 15 = .ok (.aload_n 0, 1) := by decide +kernel
theorem dX8_init_16 : decode cX8_init 16 = .ok (.iconst 2, 1) := by decide +kernel
theorem dX8_init_17 : decode cX8_init 17 = .ok (.anewarray 7, 3) := by decide +kernel
theorem dX8_init_20 : decode cX8_init 20 = .ok (.putfield 16, 3) := by decide +kernel
theorem dX8_init_23 : decode cX8_init 23 = .ok (.aload_n 0, 1) := by decide +kernel
theorem dX8_init_24 : decode cX8_init 24 = .ok (.new 20, 3) := by decide +kernel
theorem dX8_init_27 : decode cX8_init 27 = .ok (.dup, 1) := by decide +kernel
theorem dX8_init_28 : decode cX8_init 28 = .ok (.invokespecial 22, 3) := by decide +kernel
theorem dX8_init_31 : decode cX8_init 31 = .ok (.putfield 23, 3) := by decide +kernel
theorem dX8_init_34 : decode cX8_init 34 = .ok (.aload_n 0, 1) := by decide +kernel
theorem dX8_init_35 : decode cX8_init 35 = .ok (.lconst 0, 1) := by decide +kernel
theorem dX8_init_36 : decode cX8_init 36 = .ok (.putfield 27, 3) := by decide +kernel
theorem dX8_init_39 : decode cX8_init 39 = .ok (.aload_n 0, 1) := by decide +kernel
theorem dX8_init_40 : decode cX8_init 40 = .ok (.lconst 1, 1) := by decide +kernel
theorem dX8_init_41 : decode cX8_init 41 = .ok (.putfield 31, 3) := by decide +kernel
theorem dX8_init_44 : decode cX8_init 44 = .ok (.aload_n 0, 1) := by decide +kernel
theorem dX8_init_45 : decode cX8_init 45 = .ok (.new 34, 3) := by decide +kernel
theorem dX8_init_48 : decode cX8_init 48 = .ok (.dup, 1) := by decide +kernel
theorem dX8_init_49 : decode cX8_init 49 = .ok (.invokespecial 36, 3) := by decide +kernel
theorem dX8_init_52 : decode cX8_init 52 = .ok (.putfield 37, 3) := by decide +kernel
theorem dX8_init_55 : decode cX8_init 55 = .ok (.aload_n 0, 1) := by decide +kernel
theorem dX8_init_56 : decode cX8_init 56 = .ok (.new 41, 3) := by decide +kernel
theorem dX8_init_59 : decode cX8_init 59 = .ok (.dup, 1) := by decide +kernel
theorem dX8_init_60 : decode cX8_init 60 = .ok (.invokespecial 43, 3) := by decide +kernel
theorem dX8_init_63 : decode cX8_init 63 = .ok (.putfield 44, 3) := by decide +kernel
theorem dX8_init_66 : decode cX8_init 66 = .ok (.aload_n 0, 1) := by decide +kernel
theorem dX8_init_67 : decode cX8_init 67 = .ok (.bipush 8, 2) := by decide +kernel
theorem dX8_init_69 : decode cX8_init 69 = .ok (.newarray .int, 2) := by decide +kernel
theorem dX8_init_71 : decode cX8_init 71 = .ok (.putfield 48, 3) := by decide +kernel
theorem dX8_init_74 : decode cX8_init 74 = .ok (.aload_n 0, 1) := by decide +kernel
theorem dX8_init_75 : decode cX8_init 75 = .ok (.iconst 4, 1) := by decide +kernel
theorem dX8_init_76 : decode cX8_init 76 = .ok (.newarray .int, 2) := by decide +kernel
theorem dX8_init_78 : decode cX8_init 78 = .ok (.putfield 52, 3) := by decide +kernel
theorem dX8_init_81 : decode cX8_init 81 = .ok (.aload_n 0, 1) := by decide +kernel
theorem dX8_init_82 : decode cX8_init 82 = .ok (.iconst 4, 1) := by decide +kernel
theorem dX8_init_83 : decode cX8_init 83 = .ok (.newarray .int, 2) := by decide +kernel
theorem dX8_init_85 : decode cX8_init 85 = .ok (.putfield 55, 3) := by decide +kernel
theorem dX8_init_88 : decode cX8_init 88 = .ok (.return_, 1) := by decide +kernel
theorem dX8_round_0 : decode cX8_round 0 = .ok (.iload_n 1, 1) := by decide +kernel
theorem dX8_round_1 : decode cX8_round 1 = .ok (.iconst 4, 1) := by decide +kernel
theorem dX8_round_2 : decode cX8_round 2 = .ok (.bipush 12, 2) := by decide +kernel
theorem dX8_round_4 : decode cX8_round 4 = .ok (.invokestatic 58, 3) := by decide +kernel
theorem dX8_round_7 : decode cX8_round 7 = .ok (.ifCond .eq 12, 3) := by decide +kernel
theorem dX8_round_10 : decode cX8_round 10 = .ok (.iload_n 2, 1) := by decide +kernel
theorem dX8_round_11 : decode cX8_round 11 = .ok (.iconst 0, 1) := by decide +kernel
theorem dX8_round_12 : decode cX8_round 12 = .ok (.iconst 3, 1) := by decide +kernel
theorem dX8_round_13 : decode cX8_round 13 = .ok (.invokestatic 58, 3) := by decide +kernel
theorem dX8_round_16 : decode cX8_round 16 = .ok (.ifCond .ne 8, 3) := by decide +kernel
theorem dX8_round_19 : decode cX8_round 19 = .ok (.aload_n 0, 1) := by decide +kernel
theorem dX8_round_20 : decode cX8_round 20 = .ok (.invokevirtual 62, 3) := by decide +kernel
theorem dX8_round_23 : decode cX8_round 23 = .ok (.ireturn, 1) := by decide +kernel
theorem dX8_round_24 : decode cX8_round 24 = .ok (.aload_n 0, 1) := by decide +kernel
theorem dX8_round_25 : decode cX8_round 25 = .ok (.getfield 10, 3) := by decide +kernel
theorem dX8_round_28 : decode cX8_round 28 = .ok (.getfield 66, 3) := by decide +kernel
theorem dX8_round_31 : decode cX8_round 31 = .ok (.getfield 69, 3) := by decide +kernel
theorem dX8_round_34 : decode cX8_round 34 = .ok (.istore_n 3, 1) := by decide +kernel
theorem dX8_round_35 : decode cX8_round 35 = .ok (.aload_n 0, 1) := by decide +kernel
theorem dX8_round_36 : decode cX8_round 36 = .ok (.getfield 10, 3) := by decide +kernel
theorem dX8_round_39 : decode cX8_round 39 = .ok (.getfield 66, 3) := by decide +kernel
theorem dX8_round_42 : decode cX8_round 42 = .ok (.iload_n 1, 1) := by decide +kernel
theorem dX8_round_43 : decode cX8_round 43 = .ok (.iload_n 2, 1) := by decide +kernel
theorem dX8_round_44 : decode cX8_round 44 = .ok (.invokevirtual 73, 3) := by decide +kernel
theorem dX8_round_47 : decode cX8_round 47 = .ok (.aload_n 0, 1) := by decide +kernel
theorem dX8_round_48 : decode cX8_round 48 = .ok (.getfield 10, 3) := by decide +kernel
theorem dX8_round_51 : decode cX8_round 51 = .ok (.invokevirtual 77, 3) := by decide +kernel
theorem dX8_round_54 : decode cX8_round 54 = .ok (.iload_n 3, 1) := by decide +kernel
theorem dX8_round_55 : decode cX8_round 55 = .ok (.ireturn, 1) := by decide +kernel
theorem dX8_horse_0 : decode cX8_horse 0 = .ok (.aload_n 0, 1) := by decide +kernel
theorem dX8_horse_1 : decode cX8_horse 1 = .ok (.iload_n 1, 1) := by decide +kernel
theorem dX8_horse_2 : decode cX8_horse 2 = .ok (.invokevirtual 80, 3) := by decide +kernel
theorem dX8_horse_5 : decode cX8_horse 5 = .ok (.ifCond .eq 22, 3) := by decide +kernel
theorem dX8_horse_8 : decode cX8_horse 8 = .ok (.iload_n 2, 1) := by decide +kernel
theorem dX8_horse_9 : decode cX8_horse 9 = .ok (.iconst 0, 1) := by decide +kernel
theorem dX8_horse_10 : decode cX8_horse 10 = .ok (.iconst 5, 1) := by decide +kernel
theorem dX8_horse_11 : decode cX8_horse 11 = .ok (.invokestatic 58, 3) := by decide +kernel
theorem dX8_horse_14 : decode cX8_horse 14 = .ok (.ifCond .eq 13, 3) := by decide +kernel
theorem dX8_horse_17 : decode cX8_horse 17 = .ok (.iload_n 3, 1) := by decide +kernel
theorem dX8_horse_18 : decode cX8_horse 18 = .ok (.iconst 0, 1) := by decide +kernel
theorem dX8_horse_19 : decode cX8_horse 19 = .ok (.bipush 7, 2) := by decide +kernel
theorem dX8_horse_21 : decode cX8_horse 21 = .ok (.invokestatic 58, 3) := by decide +kernel
theorem dX8_horse_24 : decode cX8_horse 24 = .ok (.ifCond .ne 8, 3) := by decide +kernel
theorem dX8_horse_27 : decode cX8_horse 27 = .ok (.aload_n 0, 1) := by decide +kernel
theorem dX8_horse_28 : decode cX8_horse 28 = .ok (.invokevirtual 62, 3) := by decide +kernel
theorem dX8_horse_31 : decode cX8_horse 31 = .ok (.ireturn, 1) := by decide +kernel
theorem dX8_horse_32 : decode cX8_horse 32 = .ok (.aload_n 0, 1) := by decide +kernel
theorem dX8_horse_33 : decode cX8_horse 33 = .ok (.getfield 10, 3) := by decide +kernel
theorem dX8_horse_36 : decode cX8_horse 36 = .ok (.getfield 66, 3) := by decide +kernel
theorem dX8_horse_39 : decode cX8_horse 39 = .ok (.getfield 84, 3) := by decide +kernel
theorem dX8_horse_42 : decode cX8_horse 42 = .ok (.iload_n 1, 1) := by decide +kernel
theorem dX8_horse_43 : decode cX8_horse 43 = .ok (.iaload, 1) := by decide +kernel
theorem dX8_horse_44 : decode cX8_horse 44 = .ok (.istore 4, 2) := by decide +kernel
theorem dX8_horse_46 : decode cX8_horse 46 = .ok (.aload_n 0, 1) := by decide +kernel
theorem dX8_horse_47 : decode cX8_horse 47 = .ok (.getfield 10, 3) := by decide +kernel
theorem dX8_horse_50 : decode cX8_horse 50 = .ok (.getfield 66, 3) := by decide +kernel
theorem dX8_horse_53 : decode cX8_horse 53 = .ok (.iload_n 1, 1) := by decide +kernel
theorem dX8_horse_54 : decode cX8_horse 54 = .ok (.iload_n 2, 1) := by decide +kernel
theorem dX8_horse_55 : decode cX8_horse 55 = .ok (.iload_n 3, 1) := by decide +kernel
theorem dX8_horse_56 : decode cX8_horse 56 = .ok (.invokevirtual 87, 3) := by decide +kernel
theorem dX8_horse_59 : decode cX8_horse 59 = .ok (.aload_n 0, 1) := by decide +kernel
theorem dX8_horse_60 : decode cX8_horse 60 = .ok (.getfield 10, 3) := by decide +kernel
theorem dX8_horse_63 : decode cX8_horse 63 = .ok (.getfield 91, 3) := by decide +kernel
theorem dX8_horse_66 : decode cX8_horse 66 = .ok (.iconst 0, 1) := by decide +kernel
theorem dX8_horse_67 : decode cX8_horse 67 = .ok (.putfield 95, 3) := by decide +kernel
theorem dX8_horse_70 : decode cX8_horse 70 = .ok (.iload 4, 2) := by decide +kernel
theorem dX8_horse_72 : decode cX8_horse 72 = .ok (.ireturn, 1) := by decide +kernel
theorem dX8_rider_0 : decode cX8_rider 0 = .ok (.iload_n 1, 1) := by decide +kernel
theorem dX8_rider_1 : decode cX8_rider 1 = .ok (.iconst 0, 1) := by decide +kernel
theorem dX8_rider_2 : decode cX8_rider 2 = .ok (.iconst 5, 1) := by decide +kernel
theorem dX8_rider_3 : decode cX8_rider 3 = .ok (.invokestatic 58, 3) := by decide +kernel
theorem dX8_rider_6 : decode cX8_rider 6 = .ok (.ifCond .eq 21, 3) := by decide +kernel
theorem dX8_rider_9 : decode cX8_rider 9 = .ok (.iload_n 2, 1) := by decide +kernel
theorem dX8_rider_10 : decode cX8_rider 10 = .ok (.iconst 1, 1) := by decide +kernel
theorem dX8_rider_11 : decode cX8_rider 11 = .ok (.bipush 9, 2) := by decide +kernel
theorem dX8_rider_13 : decode cX8_rider 13 = .ok (.invokestatic 58, 3) := by decide +kernel
theorem dX8_rider_16 : decode cX8_rider 16 = .ok (.ifCond .eq 11, 3) := by decide +kernel
theorem dX8_rider_19 : decode cX8_rider 19 = .ok (.aload_n 0, 1) := by decide +kernel
theorem dX8_rider_20 : decode cX8_rider 20 = .ok (.iload_n 3, 1) := by decide +kernel
theorem dX8_rider_21 : decode cX8_rider 21 = .ok (.invokevirtual 80, 3) := by decide +kernel
theorem dX8_rider_24 : decode cX8_rider 24 = .ok (.ifCond .ne 8, 3) := by decide +kernel
theorem dX8_rider_27 : decode cX8_rider 27 = .ok (.aload_n 0, 1) := by decide +kernel
theorem dX8_rider_28 : decode cX8_rider 28 = .ok (.invokevirtual 62, 3) := by decide +kernel
theorem dX8_rider_31 : decode cX8_rider 31 = .ok (.ireturn, 1) := by decide +kernel
theorem dX8_rider_32 : decode cX8_rider 32 = .ok (.aload_n 0, 1) := by decide +kernel
theorem dX8_rider_33 : decode cX8_rider 33 = .ok (.getfield 10, 3) := by decide +kernel
theorem dX8_rider_36 : decode cX8_rider 36 = .ok (.getfield 66, 3) := by decide +kernel
theorem dX8_rider_39 : decode cX8_rider 39 = .ok (.iload_n 3, 1) := by decide +kernel
theorem dX8_rider_40 : decode cX8_rider 40 = .ok (.invokevirtual 100, 3) := by decide +kernel
theorem dX8_rider_43 : decode cX8_rider 43 = .ok (.iconst (-1), 1) := by decide +kernel
theorem dX8_rider_44 : decode cX8_rider 44 = .ok (.if_icmp .eq 8, 3) := by decide +kernel
theorem dX8_rider_47 : decode cX8_rider 47 = .ok (.aload_n 0, 1) := by decide +kernel
theorem dX8_rider_48 : decode cX8_rider 48 = .ok (.invokevirtual 104, 3) := by decide +kernel
theorem dX8_rider_51 : decode cX8_rider 51 = .ok (.ireturn, 1) := by decide +kernel
theorem dX8_rider_52 : decode cX8_rider 52 = .ok (.aload_n 0, 1) := by decide +kernel
theorem dX8_rider_53 : decode cX8_rider 53 = .ok (.getfield 10, 3) := by decide +kernel
theorem dX8_rider_56 : decode cX8_rider 56 = .ok (.getfield 66, 3) := by decide +kernel
theorem dX8_rider_59 : decode cX8_rider 59 = .ok (.getfield 69, 3) := by decide +kernel
theorem dX8_rider_62 : decode cX8_rider 62 = .ok (.bipush 6, 2) := by decide +kernel
theorem dX8_rider_64 : decode cX8_rider 64 = .ok (.if_icmp .lt 8, 3) := by decide +kernel
theorem dX8_rider_67 : decode cX8_rider 67 = .ok (.aload_n 0, 1) := by decide +kernel
theorem dX8_rider_68 : decode cX8_rider 68 = .ok (.invokevirtual 107, 3) := by decide +kernel
theorem dX8_rider_71 : decode cX8_rider 71 = .ok (.ireturn, 1) := by decide +kernel
theorem dX8_rider_72 : decode cX8_rider 72 = .ok (.aload_n 0, 1) := by decide +kernel
theorem dX8_rider_73 : decode cX8_rider 73 = .ok (.getfield 10, 3) := by decide +kernel
theorem dX8_rider_76 : decode cX8_rider 76 = .ok (.getfield 66, 3) := by decide +kernel
theorem dX8_rider_79 : decode cX8_rider 79 = .ok (.iload_n 1, 1) := by decide +kernel
theorem dX8_rider_80 : decode cX8_rider 80 = .ok (.iload_n 2, 1) := by decide +kernel
theorem dX8_rider_81 : decode cX8_rider 81 = .ok (.iload_n 3, 1) := by decide +kernel
theorem dX8_rider_82 : decode cX8_rider 82 = .ok (.invokevirtual 110, 3) := by decide +kernel
theorem dX8_rider_85 : decode cX8_rider 85 = .ok (.aload_n 0, 1) := by decide +kernel
theorem dX8_rider_86 : decode cX8_rider 86 = .ok (.getfield 10, 3) := by decide +kernel
theorem dX8_rider_89 : decode cX8_rider 89 = .ok (.getfield 91, 3) := by decide +kernel
theorem dX8_rider_92 : decode cX8_rider 92 = .ok (.iconst 0, 1) := by decide +kernel
theorem dX8_rider_93 : decode cX8_rider 93 = .ok (.putfield 95, 3) := by decide +kernel
theorem dX8_rider_96 : decode cX8_rider 96 = .ok (.aload_n 0, 1) := by decide +kernel
theorem dX8_rider_97 : decode cX8_rider 97 = .ok (.getfield 10, 3) := by decide +kernel
theorem dX8_rider_100 : decode cX8_rider 100 = .ok (.getfield 66, 3) := by decide +kernel
theorem dX8_rider_103 : decode cX8_rider 103 = .ok (.getfield 69, 3) := by decide +kernel
theorem dX8_rider_106 : decode cX8_rider 106 = .ok (.iconst 1, 1) := by decide +kernel
theorem dX8_rider_107 : decode cX8_rider 107 = .ok (.isub, 1) := by decide +kernel
theorem dX8_rider_108 : decode cX8_rider 108 = .ok (.ireturn, 1) := by decide +kernel
theorem dX8_type_0 : decode cX8_type 0 = .ok (.iload_n 1, 1) := by decide +kernel
theorem dX8_type_1 : decode cX8_type 1 = .ok (.iconst 0, 1) := by decide +kernel
theorem dX8_type_2 : decode cX8_type 2 = .ok (.bipush 127, 2) := by decide +kernel
theorem dX8_type_4 : decode cX8_type 4 = .ok (.invokestatic 58, 3) := by decide +kernel
theorem dX8_type_7 : decode cX8_type 7 = .ok (.ifCond .ne 8, 3) := by decide +kernel
theorem dX8_type_10 : decode cX8_type 10 = .ok (.aload_n 0, 1) := by decide +kernel
theorem dX8_type_11 : decode cX8_type 11 = .ok (.invokevirtual 62, 3) := by decide +kernel
theorem dX8_type_14 : decode cX8_type 14 = .ok (.ireturn, 1) := by decide +kernel
theorem dX8_type_15 : decode cX8_type 15 = .ok (.aload_n 0, 1) := by decide +kernel
theorem dX8_type_16 : decode cX8_type 16 = .ok (.getfield 23, 3) := by decide +kernel
theorem dX8_type_19 : decode cX8_type 19 = .ok (.getfield 113, 3) := by decide +kernel
theorem dX8_type_22 : decode cX8_type 22 = .ok (.sipush 150, 3) := by decide +kernel
theorem dX8_type_25 : decode cX8_type 25 = .ok (.if_icmp .lt 8, 3) := by decide +kernel
theorem dX8_type_28 : decode cX8_type 28 = .ok (.aload_n 0, 1) := by decide +kernel
theorem dX8_type_29 : decode cX8_type 29 = .ok (.invokevirtual 107, 3) := by decide +kernel
theorem dX8_type_32 : decode cX8_type 32 = .ok (.ireturn, 1) := by decide +kernel
theorem dX8_type_33 : decode cX8_type 33 = .ok (.aload_n 0, 1) := by decide +kernel
theorem dX8_type_34 : decode cX8_type 34 = .ok (.getfield 23, 3) := by decide +kernel
theorem dX8_type_37 : decode cX8_type 37 = .ok (.iload_n 1, 1) := by decide +kernel
theorem dX8_type_38 : decode cX8_type 38 = .ok (.invokevirtual 114, 3) := by decide +kernel
theorem dX8_type_41 : decode cX8_type 41 = .ok (.aload_n 0, 1) := by decide +kernel
theorem dX8_type_42 : decode cX8_type 42 = .ok (.getfield 23, 3) := by decide +kernel
theorem dX8_type_45 : decode cX8_type 45 = .ok (.getfield 113, 3) := by decide +kernel
theorem dX8_type_48 : decode cX8_type 48 = .ok (.ireturn, 1) := by decide +kernel
theorem dX8_clear_0 : decode cX8_clear 0 = .ok (.aload_n 0, 1) := by decide +kernel
theorem dX8_clear_1 : decode cX8_clear 1 = .ok (.getfield 23, 3) := by decide +kernel
theorem dX8_clear_4 : decode cX8_clear 4 = .ok (.getfield 113, 3) := by decide +kernel
theorem dX8_clear_7 : decode cX8_clear 7 = .ok (.istore_n 1, 1) := by decide +kernel
theorem dX8_clear_8 : decode cX8_clear 8 = .ok (.aload_n 0, 1) := by decide +kernel
theorem dX8_clear_9 : decode cX8_clear 9 = .ok (.getfield 23, 3) := by decide +kernel
theorem dX8_clear_12 : decode cX8_clear 12 = .ok (.iconst 0, 1) := by decide +kernel
theorem dX8_clear_13 : decode cX8_clear 13 = .ok (.putfield 113, 3) := by decide +kernel
theorem dX8_clear_16 : decode cX8_clear 16 = .ok (.iload_n 1, 1) := by decide +kernel
theorem dX8_clear_17 : decode cX8_clear 17 = .ok (.ireturn, 1) := by decide +kernel
theorem dX8_read_0 : decode cX8_read 0 = .ok (.aload_n 0, 1) := by decide +kernel
theorem dX8_read_1 : decode cX8_read 1 = .ok (.getfield 23, 3) := by decide +kernel
theorem dX8_read_4 : decode cX8_read 4 = .ok (.aload_n 0, 1) := by decide +kernel
theorem dX8_read_5 : decode cX8_read 5 = .ok (.getfield 37, 3) := by decide +kernel
theorem dX8_read_8 : decode cX8_read 8 = .ok (.invokevirtual 118, 3) := by decide +kernel
theorem dX8_read_11 : decode cX8_read 11 = .ok (.istore_n 1, 1) := by decide +kernel
theorem dX8_read_12 : decode cX8_read 12 = .ok (.iload_n 1, 1) := by decide +kernel
theorem dX8_read_13 : decode cX8_read 13 = .ok (.ifCond .le 24, 3) := by decide +kernel
theorem dX8_read_16 : decode cX8_read 16 = .ok (.aload_n 0, 1) := by decide +kernel
theorem dX8_read_17 : decode cX8_read 17 = .ok (.getfield 10, 3) := by decide +kernel
theorem dX8_read_20 : decode cX8_read 20 = .ok (.getfield 66, 3) := by decide +kernel
theorem dX8_read_23 : decode cX8_read 23 = .ok (.aload_n 0, 1) := by decide +kernel
theorem dX8_read_24 : decode cX8_read 24 = .ok (.getfield 37, 3) := by decide +kernel
theorem dX8_read_27 : decode cX8_read 27 = .ok (.invokevirtual 122, 3) := by decide +kernel
theorem dX8_read_30 : decode cX8_read 30 = .ok (.aload_n 0, 1) := by decide +kernel
theorem dX8_read_31 : decode cX8_read 31 = .ok (.getfield 10, 3) := by decide +kernel
theorem dX8_read_34 : decode cX8_read 34 = .ok (.invokevirtual 77, 3) := by decide +kernel
theorem dX8_read_37 : decode cX8_read 37 = .ok (.iload_n 1, 1) := by decide +kernel
theorem dX8_read_38 : decode cX8_read 38 = .ok (.ireturn, 1) := by decide +kernel
theorem dX8_ticks_0 : decode cX8_ticks 0 = .ok (.iload_n 1, 1) := by decide +kernel
theorem dX8_ticks_1 : decode cX8_ticks 1 = .ok (.iconst 1, 1) := by decide +kernel
theorem dX8_ticks_2 : decode cX8_ticks 2 = .ok (.bipush 60, 2) := by decide +kernel
theorem dX8_ticks_4 : decode cX8_ticks 4 = .ok (.invokestatic 58, 3) := by decide +kernel
theorem dX8_ticks_7 : decode cX8_ticks 7 = .ok (.ifCond .ne 8, 3) := by decide +kernel
theorem dX8_ticks_10 : decode cX8_ticks 10 = .ok (.aload_n 0, 1) := by decide +kernel
theorem dX8_ticks_11 : decode cX8_ticks 11 = .ok (.invokevirtual 62, 3) := by decide +kernel
theorem dX8_ticks_14 : decode cX8_ticks 14 = .ok (.ireturn, 1) := by decide +kernel
theorem dX8_ticks_15 : decode cX8_ticks 15 = .ok (.aload_n 0, 1) := by decide +kernel
theorem dX8_ticks_16 : decode cX8_ticks 16 = .ok (.getfield 10, 3) := by decide +kernel
theorem dX8_ticks_19 : decode cX8_ticks 19 = .ok (.getfield 91, 3) := by decide +kernel
theorem dX8_ticks_22 : decode cX8_ticks 22 = .ok (.aload_n 0, 1) := by decide +kernel
theorem dX8_ticks_23 : decode cX8_ticks 23 = .ok (.getfield 10, 3) := by decide +kernel
theorem dX8_ticks_26 : decode cX8_ticks 26 = .ok (.getfield 66, 3) := by decide +kernel
theorem dX8_ticks_29 : decode cX8_ticks 29 = .ok (.invokevirtual 126, 3) := by decide +kernel
theorem dX8_ticks_32 : decode cX8_ticks 32 = .ok (.iconst 0, 1) := by decide +kernel
theorem dX8_ticks_33 : decode cX8_ticks 33 = .ok (.istore_n 2, 1) := by decide +kernel
theorem dX8_ticks_34 : decode cX8_ticks 34 = .ok (.iload_n 2, 1) := by decide +kernel
theorem dX8_ticks_35 : decode cX8_ticks 35 = .ok (.iload_n 1, 1) := by decide +kernel
theorem dX8_ticks_36 : decode cX8_ticks 36 = .ok (.if_icmp .ge 36, 3) := by decide +kernel
theorem dX8_ticks_39 : decode cX8_ticks 39 = .ok (.aload_n 0, 1) := by decide +kernel
theorem dX8_ticks_40 : decode cX8_ticks 40 = .ok (.getfield 10, 3) := by decide +kernel
theorem dX8_ticks_43 : decode cX8_ticks 43 = .ok (.getfield 66, 3) := by decide +kernel
theorem dX8_ticks_46 : decode cX8_ticks 46 = .ok (.getfield 129, 3) := by decide +kernel
theorem dX8_ticks_49 : decode cX8_ticks 49 = .ok (.sipush 9999, 3) := by decide +kernel
theorem dX8_ticks_52 : decode cX8_ticks 52 = .ok (.if_icmp .ge 20, 3) := by decide +kernel
theorem dX8_ticks_55 : decode cX8_ticks 55 = .ok (.aload_n 0, 1) := by decide +kernel
theorem dX8_ticks_56 : decode cX8_ticks 56 = .ok (.getfield 10, 3) := by decide +kernel
theorem dX8_ticks_59 : decode cX8_ticks 59 = .ok (.getfield 66, 3) := by decide +kernel
theorem dX8_ticks_62 : decode cX8_ticks 62 = .ok (.invokevirtual 132, 3) := by decide +kernel
theorem dX8_ticks_65 : decode cX8_ticks 65 = .ok (.pop, 1) := by decide +kernel
theorem dX8_ticks_66 : decode cX8_ticks 66 = .ok (.iinc 2 1, 3) := by decide +kernel
theorem dX8_ticks_69 : decode cX8_ticks 69 = .ok (.goto (-35), 3) := by decide +kernel
theorem dX8_ticks_72 : decode cX8_ticks 72 = .ok (.aload_n 0, 1) := by decide +kernel
theorem dX8_ticks_73 : decode cX8_ticks 73 = .ok (.getfield 10, 3) := by decide +kernel
theorem dX8_ticks_76 : decode cX8_ticks 76 = .ok (.getfield 66, 3) := by decide +kernel
theorem dX8_ticks_79 : decode cX8_ticks 79 = .ok (.getfield 135, 3) := by decide +kernel
theorem dX8_ticks_82 : decode cX8_ticks 82 = .ok (.ireturn, 1) := by decide +kernel
theorem dX8_speed_0 : decode cX8_speed 0 = .ok (.iload_n 1, 1) := by decide +kernel
theorem dX8_speed_1 : decode cX8_speed 1 = .ok (.iconst 0, 1) := by decide +kernel
theorem dX8_speed_2 : decode cX8_speed 2 = .ok (.iconst 3, 1) := by decide +kernel
theorem dX8_speed_3 : decode cX8_speed 3 = .ok (.invokestatic 58, 3) := by decide +kernel
theorem dX8_speed_6 : decode cX8_speed 6 = .ok (.ifCond .ne 8, 3) := by decide +kernel
theorem dX8_speed_9 : decode cX8_speed 9 = .ok (.aload_n 0, 1) := by decide +kernel
theorem dX8_speed_10 : decode cX8_speed 10 = .ok (.invokevirtual 62, 3) := by decide +kernel
theorem dX8_speed_13 : decode cX8_speed 13 = .ok (.ireturn, 1) := by decide +kernel
theorem dX8_speed_14 : decode cX8_speed 14 = .ok (.aload_n 0, 1) := by decide +kernel
theorem dX8_speed_15 : decode cX8_speed 15 = .ok (.getfield 10, 3) := by decide +kernel
theorem dX8_speed_18 : decode cX8_speed 18 = .ok (.getfield 66, 3) := by decide +kernel
theorem dX8_speed_21 : decode cX8_speed 21 = .ok (.getfield 138, 3) := by decide +kernel
theorem dX8_speed_24 : decode cX8_speed 24 = .ok (.istore_n 2, 1) := by decide +kernel
theorem dX8_speed_25 : decode cX8_speed 25 = .ok (.iload_n 2, 1) := by decide +kernel
theorem dX8_speed_26 : decode cX8_speed 26 = .ok (.iload_n 1, 1) := by decide +kernel
theorem dX8_speed_27 : decode cX8_speed 27 = .ok (.if_icmp .ne 8, 3) := by decide +kernel
theorem dX8_speed_30 : decode cX8_speed 30 = .ok (.aload_n 0, 1) := by decide +kernel
theorem dX8_speed_31 : decode cX8_speed 31 = .ok (.invokevirtual 104, 3) := by decide +kernel
theorem dX8_speed_34 : decode cX8_speed 34 = .ok (.ireturn, 1) := by decide +kernel
theorem dX8_speed_35 : decode cX8_speed 35 = .ok (.aload_n 0, 1) := by decide +kernel
theorem dX8_speed_36 : decode cX8_speed 36 = .ok (.getfield 10, 3) := by decide +kernel
theorem dX8_speed_39 : decode cX8_speed 39 = .ok (.getfield 91, 3) := by decide +kernel
theorem dX8_speed_42 : decode cX8_speed 42 = .ok (.aload_n 0, 1) := by decide +kernel
theorem dX8_speed_43 : decode cX8_speed 43 = .ok (.getfield 10, 3) := by decide +kernel
theorem dX8_speed_46 : decode cX8_speed 46 = .ok (.getfield 66, 3) := by decide +kernel
theorem dX8_speed_49 : decode cX8_speed 49 = .ok (.invokevirtual 126, 3) := by decide +kernel
theorem dX8_speed_52 : decode cX8_speed 52 = .ok (.aload_n 0, 1) := by decide +kernel
theorem dX8_speed_53 : decode cX8_speed 53 = .ok (.getfield 10, 3) := by decide +kernel
theorem dX8_speed_56 : decode cX8_speed 56 = .ok (.getfield 66, 3) := by decide +kernel
theorem dX8_speed_59 : decode cX8_speed 59 = .ok (.iload_n 1, 1) := by decide +kernel
theorem dX8_speed_60 : decode cX8_speed 60 = .ok (.putfield 138, 3) := by decide +kernel
theorem dX8_speed_63 : decode cX8_speed 63 = .ok (.iload_n 2, 1) := by decide +kernel
theorem dX8_speed_64 : decode cX8_speed 64 = .ok (.ireturn, 1) := by decide +kernel
theorem dX8_changes_0 : decode cX8_changes 0 = .ok (.aload_n 0, 1) := by decide +kernel
theorem dX8_changes_1 : decode cX8_changes 1 = .ok (.iload_n 1, 1) := by decide +kernel
theorem dX8_changes_2 : decode cX8_changes 2 = .ok (.invokevirtual 141, 3) := by decide +kernel
theorem dX8_changes_5 : decode cX8_changes 5 = .ok (.ifCond .eq 11, 3) := by decide +kernel
theorem dX8_changes_8 : decode cX8_changes 8 = .ok (.aload_n 0, 1) := by decide +kernel
theorem dX8_changes_9 : decode cX8_changes 9 = .ok (.iload_n 2, 1) := by decide +kernel
theorem dX8_changes_10 : decode cX8_changes 10 = .ok (.invokevirtual 80, 3) := by decide +kernel
theorem dX8_changes_13 : decode cX8_changes 13 = .ok (.ifCond .ne 8, 3) := by decide +kernel
theorem dX8_changes_16 : decode cX8_changes 16 = .ok (.aload_n 0, 1) := by decide +kernel
theorem dX8_changes_17 : decode cX8_changes 17 = .ok (.invokevirtual 62, 3) := by decide +kernel
theorem dX8_changes_20 : decode cX8_changes 20 = .ok (.ireturn, 1) := by decide +kernel
theorem dX8_changes_21 : decode cX8_changes 21 = .ok (.aload_n 0, 1) := by decide +kernel
theorem dX8_changes_22 : decode cX8_changes 22 = .ok (.getfield 10, 3) := by decide +kernel
theorem dX8_changes_25 : decode cX8_changes 25 = .ok (.getfield 66, 3) := by decide +kernel
theorem dX8_changes_28 : decode cX8_changes 28 = .ok (.iload_n 2, 1) := by decide +kernel
theorem dX8_changes_29 : decode cX8_changes 29 = .ok (.invokevirtual 100, 3) := by decide +kernel
theorem dX8_changes_32 : decode cX8_changes 32 = .ok (.iconst (-1), 1) := by decide +kernel
theorem dX8_changes_33 : decode cX8_changes 33 = .ok (.if_icmp .eq 8, 3) := by decide +kernel
theorem dX8_changes_36 : decode cX8_changes 36 = .ok (.aload_n 0, 1) := by decide +kernel
theorem dX8_changes_37 : decode cX8_changes 37 = .ok (.invokevirtual 104, 3) := by decide +kernel
theorem dX8_changes_40 : decode cX8_changes 40 = .ok (.ireturn, 1) := by decide +kernel
theorem dX8_changes_41 : decode cX8_changes 41 = .ok (.aload_n 0, 1) := by decide +kernel
theorem dX8_changes_42 : decode cX8_changes 42 = .ok (.getfield 10, 3) := by decide +kernel
theorem dX8_changes_45 : decode cX8_changes 45 = .ok (.getfield 66, 3) := by decide +kernel
theorem dX8_changes_48 : decode cX8_changes 48 = .ok (.getfield 144, 3) := by decide +kernel
theorem dX8_changes_51 : decode cX8_changes 51 = .ok (.iload_n 1, 1) := by decide +kernel
theorem dX8_changes_52 : decode cX8_changes 52 = .ok (.iaload, 1) := by decide +kernel
theorem dX8_changes_53 : decode cX8_changes 53 = .ok (.istore_n 3, 1) := by decide +kernel
theorem dX8_changes_54 : decode cX8_changes 54 = .ok (.aload_n 0, 1) := by decide +kernel
theorem dX8_changes_55 : decode cX8_changes 55 = .ok (.getfield 10, 3) := by decide +kernel
theorem dX8_changes_58 : decode cX8_changes 58 = .ok (.getfield 91, 3) := by decide +kernel
theorem dX8_changes_61 : decode cX8_changes 61 = .ok (.aload_n 0, 1) := by decide +kernel
theorem dX8_changes_62 : decode cX8_changes 62 = .ok (.getfield 10, 3) := by decide +kernel
theorem dX8_changes_65 : decode cX8_changes 65 = .ok (.getfield 66, 3) := by decide +kernel
theorem dX8_changes_68 : decode cX8_changes 68 = .ok (.invokevirtual 126, 3) := by decide +kernel
theorem dX8_changes_71 : decode cX8_changes 71 = .ok (.aload_n 0, 1) := by decide +kernel
theorem dX8_changes_72 : decode cX8_changes 72 = .ok (.getfield 10, 3) := by decide +kernel
theorem dX8_changes_75 : decode cX8_changes 75 = .ok (.getfield 66, 3) := by decide +kernel
theorem dX8_changes_78 : decode cX8_changes 78 = .ok (.getfield 144, 3) := by decide +kernel
theorem dX8_changes_81 : decode cX8_changes 81 = .ok (.iload_n 1, 1) := by decide +kernel
theorem dX8_changes_82 : decode cX8_changes 82 = .ok (.iload_n 2, 1) := by decide +kernel
theorem dX8_changes_83 : decode cX8_changes 83 = .ok (.iastore, 1) := by decide +kernel
theorem dX8_changes_84 : decode cX8_changes 84 = .ok (.iload_n 3, 1) := by decide +kernel
theorem dX8_changes_85 : decode cX8_changes 85 = .ok (.ireturn, 1) := by decide +kernel
theorem dX8_hangs_0 : decode cX8_hangs 0 = .ok (.iload_n 1, 1) := by decide +kernel
theorem dX8_hangs_1 : decode cX8_hangs 1 = .ok (.iconst 0, 1) := by decide +kernel
theorem dX8_hangs_2 : decode cX8_hangs 2 = .ok (.bipush 20, 2) := by decide +kernel
theorem dX8_hangs_4 : decode cX8_hangs 4 = .ok (.invokestatic 58, 3) := by decide +kernel
theorem dX8_hangs_7 : decode cX8_hangs 7 = .ok (.ifCond .ne 8, 3) := by decide +kernel
theorem dX8_hangs_10 : decode cX8_hangs 10 = .ok (.aload_n 0, 1) := by decide +kernel
theorem dX8_hangs_11 : decode cX8_hangs 11 = .ok (.invokevirtual 62, 3) := by decide +kernel
theorem dX8_hangs_14 : decode cX8_hangs 14 = .ok (.ireturn, 1) := by decide +kernel
theorem dX8_hangs_15 : decode cX8_hangs 15 = .ok (.aload_n 0, 1) := by decide +kernel
theorem dX8_hangs_16 : decode cX8_hangs 16 = .ok (.getfield 10, 3) := by decide +kernel
theorem dX8_hangs_19 : decode cX8_hangs 19 = .ok (.getfield 66, 3) := by decide +kernel
theorem dX8_hangs_22 : decode cX8_hangs 22 = .ok (.getfield 147, 3) := by decide +kernel
theorem dX8_hangs_25 : decode cX8_hangs 25 = .ok (.istore_n 2, 1) := by decide +kernel
theorem dX8_hangs_26 : decode cX8_hangs 26 = .ok (.iload_n 2, 1) := by decide +kernel
theorem dX8_hangs_27 : decode cX8_hangs 27 = .ok (.iload_n 1, 1) := by decide +kernel
theorem dX8_hangs_28 : decode cX8_hangs 28 = .ok (.if_icmp .ne 8, 3) := by decide +kernel
theorem dX8_hangs_31 : decode cX8_hangs 31 = .ok (.aload_n 0, 1) := by decide +kernel
theorem dX8_hangs_32 : decode cX8_hangs 32 = .ok (.invokevirtual 104, 3) := by decide +kernel
theorem dX8_hangs_35 : decode cX8_hangs 35 = .ok (.ireturn, 1) := by decide +kernel
theorem dX8_hangs_36 : decode cX8_hangs 36 = .ok (.aload_n 0, 1) := by decide +kernel
theorem dX8_hangs_37 : decode cX8_hangs 37 = .ok (.getfield 10, 3) := by decide +kernel
theorem dX8_hangs_40 : decode cX8_hangs 40 = .ok (.getfield 91, 3) := by decide +kernel
theorem dX8_hangs_43 : decode cX8_hangs 43 = .ok (.aload_n 0, 1) := by decide +kernel
theorem dX8_hangs_44 : decode cX8_hangs 44 = .ok (.getfield 10, 3) := by decide +kernel
theorem dX8_hangs_47 : decode cX8_hangs 47 = .ok (.getfield 66, 3) := by decide +kernel
theorem dX8_hangs_50 : decode cX8_hangs 50 = .ok (.invokevirtual 126, 3) := by decide +kernel
theorem dX8_hangs_53 : decode cX8_hangs 53 = .ok (.aload_n 0, 1) := by decide +kernel
theorem dX8_hangs_54 : decode cX8_hangs 54 = .ok (.getfield 10, 3) := by decide +kernel
theorem dX8_hangs_57 : decode cX8_hangs 57 = .ok (.getfield 66, 3) := by decide +kernel
theorem dX8_hangs_60 : decode cX8_hangs 60 = .ok (.iload_n 1, 1) := by decide +kernel
theorem dX8_hangs_61 : decode cX8_hangs 61 = .ok (.putfield 147, 3) := by decide +kernel
theorem dX8_hangs_64 : decode cX8_hangs 64 = .ok (.iload_n 2, 1) := by decide +kernel
theorem dX8_hangs_65 : decode cX8_hangs 65 = .ok (.ireturn, 1) := by decide +kernel
theorem dX8_undo_0 : decode cX8_undo 0 = .ok (.aload_n 0, 1) := by decide +kernel
theorem dX8_undo_1 : decode cX8_undo 1 = .ok (.getfield 10, 3) := by decide +kernel
theorem dX8_undo_4 : decode cX8_undo 4 = .ok (.getfield 91, 3) := by decide +kernel
theorem dX8_undo_7 : decode cX8_undo 7 = .ok (.getfield 95, 3) := by decide +kernel
theorem dX8_undo_10 : decode cX8_undo 10 = .ok (.ifCond .ne 8, 3) := by decide +kernel
theorem dX8_undo_13 : decode cX8_undo 13 = .ok (.aload_n 0, 1) := by decide +kernel
theorem dX8_undo_14 : decode cX8_undo 14 = .ok (.invokevirtual 104, 3) := by decide +kernel
theorem dX8_undo_17 : decode cX8_undo 17 = .ok (.ireturn, 1) := by decide +kernel
theorem dX8_undo_18 : decode cX8_undo 18 = .ok (.aload_n 0, 1) := by decide +kernel
theorem dX8_undo_19 : decode cX8_undo 19 = .ok (.getfield 10, 3) := by decide +kernel
theorem dX8_undo_22 : decode cX8_undo 22 = .ok (.getfield 91, 3) := by decide +kernel
theorem dX8_undo_25 : decode cX8_undo 25 = .ok (.aload_n 0, 1) := by decide +kernel
theorem dX8_undo_26 : decode cX8_undo 26 = .ok (.getfield 10, 3) := by decide +kernel
theorem dX8_undo_29 : decode cX8_undo 29 = .ok (.getfield 66, 3) := by decide +kernel
theorem dX8_undo_32 : decode cX8_undo 32 = .ok (.invokevirtual 150, 3) := by decide +kernel
theorem dX8_undo_35 : decode cX8_undo 35 = .ok (.aload_n 0, 1) := by decide +kernel
theorem dX8_undo_36 : decode cX8_undo 36 = .ok (.getfield 10, 3) := by decide +kernel
theorem dX8_undo_39 : decode cX8_undo 39 = .ok (.getfield 66, 3) := by decide +kernel
theorem dX8_undo_42 : decode cX8_undo 42 = .ok (.getfield 129, 3) := by decide +kernel
theorem dX8_undo_45 : decode cX8_undo 45 = .ok (.ireturn, 1) := by decide +kernel
theorem dX8_of_0 : decode cX8_of 0 = .ok (.aload_n 0, 1) := by decide +kernel
theorem dX8_of_1 : decode cX8_of 1 = .ok (.iload_n 1, 1) := by decide +kernel
theorem dX8_of_2 : decode cX8_of 2 = .ok (.invokevirtual 141, 3) := by decide +kernel
theorem dX8_of_5 : decode cX8_of 5 = .ok (.ifCond .ne 8, 3) := by decide +kernel
theorem dX8_of_8 : decode cX8_of 8 = .ok (.aload_n 0, 1) := by decide +kernel
theorem dX8_of_9 : decode cX8_of 9 = .ok (.invokevirtual 62, 3) := by decide +kernel
theorem dX8_of_12 : decode cX8_of 12 = .ok (.ireturn, 1) := by decide +kernel
theorem dX8_of_13 : decode cX8_of 13 = .ok (.aload_n 0, 1) := by decide +kernel
theorem dX8_of_14 : decode cX8_of 14 = .ok (.getfield 10, 3) := by decide +kernel
theorem dX8_of_17 : decode cX8_of 17 = .ok (.getfield 66, 3) := by decide +kernel
theorem dX8_of_20 : decode cX8_of 20 = .ok (.astore_n 3, 1) := by decide +kernel
theorem dX8_of_21 : decode cX8_of 21 = .ok (.iload_n 2, 1) := by decide +kernel
theorem dX8_of_22 : decode cX8_of 22 = .ok (.tableswitch 95 0 6 #[42, 49, 56, 63, 70, 77, 89], 42) := by decide +kernel
theorem dX8_of_64 : decode cX8_of 64 = .ok (.aload_n 3, 1) := by decide +kernel
theorem dX8_of_65 : decode cX8_of 65 = .ok (.getfield 153, 3) := by decide +kernel
theorem dX8_of_68 : decode cX8_of 68 = .ok (.iload_n 1, 1) := by decide +kernel
theorem dX8_of_69 : decode cX8_of 69 = .ok (.iaload, 1) := by decide +kernel
theorem dX8_of_70 : decode cX8_of 70 = .ok (.ireturn, 1) := by decide +kernel
theorem dX8_of_71 : decode cX8_of 71 = .ok (.aload_n 3, 1) := by decide +kernel
theorem dX8_of_72 : decode cX8_of 72 = .ok (.getfield 156, 3) := by decide +kernel
theorem dX8_of_75 : decode cX8_of 75 = .ok (.iload_n 1, 1) := by decide +kernel
theorem dX8_of_76 : decode cX8_of 76 = .ok (.iaload, 1) := by decide +kernel
theorem dX8_of_77 : decode cX8_of 77 = .ok (.ireturn, 1) := by decide +kernel
theorem dX8_of_78 : decode cX8_of 78 = .ok (.aload_n 3, 1) := by decide +kernel
theorem dX8_of_79 : decode cX8_of 79 = .ok (.getfield 144, 3) := by decide +kernel
theorem dX8_of_82 : decode cX8_of 82 = .ok (.iload_n 1, 1) := by decide +kernel
theorem dX8_of_83 : decode cX8_of 83 = .ok (.iaload, 1) := by decide +kernel
theorem dX8_of_84 : decode cX8_of 84 = .ok (.ireturn, 1) := by decide +kernel
theorem dX8_of_85 : decode cX8_of 85 = .ok (.aload_n 3, 1) := by decide +kernel
theorem dX8_of_86 : decode cX8_of 86 = .ok (.getfield 159, 3) := by decide +kernel
theorem dX8_of_89 : decode cX8_of 89 = .ok (.iload_n 1, 1) := by decide +kernel
theorem dX8_of_90 : decode cX8_of 90 = .ok (.iaload, 1) := by decide +kernel
theorem dX8_of_91 : decode cX8_of 91 = .ok (.ireturn, 1) := by decide +kernel
theorem dX8_of_92 : decode cX8_of 92 = .ok (.aload_n 3, 1) := by decide +kernel
theorem dX8_of_93 : decode cX8_of 93 = .ok (.iload_n 1, 1) := by decide +kernel
theorem dX8_of_94 : decode cX8_of 94 = .ok (.iconst 0, 1) := by decide +kernel
theorem dX8_of_95 : decode cX8_of 95 = .ok (.invokevirtual 162, 3) := by decide +kernel
theorem dX8_of_98 : decode cX8_of 98 = .ok (.ireturn, 1) := by decide +kernel
theorem dX8_of_99 : decode cX8_of 99 = .ok (.aload_n 3, 1) := by decide +kernel
theorem dX8_of_100 : decode cX8_of 100 = .ok (.aload_n 3, 1) := by decide +kernel
theorem dX8_of_101 : decode cX8_of 101 = .ok (.getfield 144, 3) := by decide +kernel
theorem dX8_of_104 : decode cX8_of 104 = .ok (.iload_n 1, 1) := by decide +kernel
theorem dX8_of_105 : decode cX8_of 105 = .ok (.iaload, 1) := by decide +kernel
theorem dX8_of_106 : decode cX8_of 106 = .ok (.iconst 0, 1) := by decide +kernel
theorem dX8_of_107 : decode cX8_of 107 = .ok (.invokevirtual 166, 3) := by decide +kernel
theorem dX8_of_110 : decode cX8_of 110 = .ok (.ireturn, 1) := by decide +kernel
theorem dX8_of_111 : decode cX8_of 111 = .ok (.aload_n 3, 1) := by decide +kernel
theorem dX8_of_112 : decode cX8_of 112 = .ok (.iload_n 1, 1) := by decide +kernel
theorem dX8_of_113 : decode cX8_of 113 = .ok (.invokevirtual 169, 3) := by decide +kernel
theorem dX8_of_116 : decode cX8_of 116 = .ok (.ireturn, 1) := by decide +kernel
theorem dX8_of_117 : decode cX8_of 117 = .ok (.aload_n 0, 1) := by decide +kernel
theorem dX8_of_118 : decode cX8_of 118 = .ok (.invokevirtual 62, 3) := by decide +kernel
theorem dX8_of_121 : decode cX8_of 121 = .ok (.ireturn, 1) := by decide +kernel
