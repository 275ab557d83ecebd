theorem dX9_type_0 : decode cX9_type 0 = .ok (.iload_n 1, 1) := by decide +kernel
theorem dX9_type_1 : decode cX9_type 1 = .ok (.i2l, 1) := by decide +kernel
theorem dX9_type_2 : decode cX9_type 2 = .ok (.lconst 0, 1) := by decide +kernel
theorem dX9_type_3 : decode cX9_type 3 = .ok (.ldc2_w 206, 3) := by decide +kernel
theorem dX9_type_6 : decode cX9_type 6 = .ok (.invokestatic 53, 3) := by decide +kernel
theorem dX9_type_9 : decode cX9_type 9 = .ok (.ifCond .ne 10, 3) := by decide +kernel
theorem dX9_type_12 : decode cX9_type 12 = .ok (.aload_n 0, 1) := by decide +kernel
theorem dX9_type_13 : decode cX9_type 13 = .ok (.bipush (-2), 2) := by decide +kernel
theorem dX9_type_15 : decode cX9_type 15 = .ok (.invokevirtual 73, 3) := by decide +kernel
theorem dX9_type_18 : decode cX9_type 18 = .ok (.ireturn, 1) := by decide +kernel
theorem dX9_type_19 : decode cX9_type 19 = .ok (.aload_n 0, 1) := by decide +kernel
theorem dX9_type_20 : decode cX9_type 20 = .ok (.getfield 208, 3) := by decide +kernel
theorem dX9_type_23 : decode cX9_type 23 = .ok (.sipush 150, 3) := by decide +kernel
theorem dX9_type_26 : decode cX9_type 26 = .ok (.if_icmp .ne 8, 3) := by decide +kernel
theorem dX9_type_29 : decode cX9_type 29 = .ok (.aload_n 0, 1) := by decide +kernel
theorem dX9_type_30 : decode cX9_type 30 = .ok (.invokevirtual 96, 3) := by decide +kernel
theorem dX9_type_33 : decode cX9_type 33 = .ok (.ireturn, 1) := by decide +kernel
theorem dX9_type_34 : decode cX9_type 34 = .ok (.aload_n 0, 1) := by decide +kernel
theorem dX9_type_35 : decode cX9_type 35 = .ok (.getfield 36, 3) := by decide +kernel
theorem dX9_type_38 : decode cX9_type 38 = .ok (.aload_n 0, 1) := by decide +kernel
theorem dX9_type_39 : decode cX9_type 39 = .ok (.getfield 208, 3) := by decide +kernel
theorem dX9_type_42 : decode cX9_type 42 = .ok (.iload_n 1, 1) := by decide +kernel
theorem dX9_type_43 : decode cX9_type 43 = .ok (.iastore, 1) := by decide +kernel
theorem dX9_type_44 : decode cX9_type 44 = .ok (.aload_n 0, 1) := by decide +kernel
theorem dX9_type_45 : decode cX9_type 45 = .ok (.dup, 1) := by decide +kernel
theorem dX9_type_46 : decode cX9_type 46 = .ok (.getfield 208, 3) := by decide +kernel
theorem dX9_type_49 : decode cX9_type 49 = .ok (.iconst 1, 1) := by decide +kernel
theorem dX9_type_50 : decode cX9_type 50 = .ok (.iadd, 1) := by decide +kernel
theorem dX9_type_51 : decode cX9_type 51 = .ok (.putfield 208, 3) := by decide +kernel
theorem dX9_type_54 : decode cX9_type 54 = .ok (.aload_n 0, 1) := by decide +kernel
theorem dX9_type_55 : decode cX9_type 55 = .ok (.getfield 208, 3) := by decide +kernel
theorem dX9_type_58 : decode cX9_type 58 = .ok (.ireturn, 1) := by decide +kernel
theorem dX9_clear_0 : decode cX9_clear 0 = .ok (.aload_n 0, 1) := by decide +kernel
theorem dX9_clear_1 : decode cX9_clear 1 = .ok (.getfield 208, 3) := by decide +kernel
theorem dX9_clear_4 : decode cX9_clear 4 = .ok (.istore_n 1, 1) := by decide +kernel
theorem dX9_clear_5 : decode cX9_clear 5 = .ok (.aload_n 0, 1) := by decide +kernel
theorem dX9_clear_6 : decode cX9_clear 6 = .ok (.iconst 0, 1) := by decide +kernel
theorem dX9_clear_7 : decode cX9_clear 7 = .ok (.putfield 208, 3) := by decide +kernel
theorem dX9_clear_10 : decode cX9_clear 10 = .ok (.iload_n 1, 1) := by decide +kernel
theorem dX9_clear_11 : decode cX9_clear 11 = .ok (.ireturn, 1) := by decide +kernel
theorem dX9_isSmall_0 : decode cX9_isSmall 0 = .ok (.iload_n 0, 1) := by decide +kernel
theorem dX9_isSmall_1 : decode cX9_isSmall 1 = .ok (.i2l, 1) := by decide +kernel
theorem dX9_isSmall_2 : decode cX9_isSmall 2 = .ok (.ldc2_w 212, 3) := by decide +kernel
theorem dX9_isSmall_5 : decode cX9_isSmall 5 = .ok (.ldc2_w 214, 3) := by decide +kernel
theorem dX9_isSmall_8 : decode cX9_isSmall 8 = .ok (.invokestatic 53, 3) := by decide +kernel
theorem dX9_isSmall_11 : decode cX9_isSmall 11 = .ok (.ireturn, 1) := by decide +kernel
theorem dX9_isFigure_0 : decode cX9_isFigure 0 = .ok (.iload_n 0, 1) := by decide +kernel
theorem dX9_isFigure_1 : decode cX9_isFigure 1 = .ok (.i2l, 1) := by decide +kernel
theorem dX9_isFigure_2 : decode cX9_isFigure 2 = .ok (.ldc2_w 216, 3) := by decide +kernel
theorem dX9_isFigure_5 : decode cX9_isFigure 5 = .ok (.ldc2_w 218, 3) := by decide +kernel
theorem dX9_isFigure_8 : decode cX9_isFigure 8 = .ok (.invokestatic 53, 3) := by decide +kernel
theorem dX9_isFigure_11 : decode cX9_isFigure 11 = .ok (.ireturn, 1) := by decide +kernel
theorem dX9_lookAt_0 : decode cX9_lookAt 0 = .ok (.aload_n 0, 1) := by decide +kernel
theorem dX9_lookAt_1 : decode cX9_lookAt 1 = .ok (.iload_n 1, 1) := by decide +kernel
theorem dX9_lookAt_2 : decode cX9_lookAt 2 = .ok (.putfield 220, 3) := by decide +kernel
theorem dX9_lookAt_5 : decode cX9_lookAt 5 = .ok (.aload_n 0, 1) := by decide +kernel
theorem dX9_lookAt_6 : decode cX9_lookAt 6 = .ok (.getfield 220, 3) := by decide +kernel
theorem dX9_lookAt_9 : decode cX9_lookAt 9 = .ok (.aload_n 0, 1) := by decide +kernel
theorem dX9_lookAt_10 : decode cX9_lookAt 10 = .ok (.getfield 208, 3) := by decide +kernel
theorem dX9_lookAt_13 : decode cX9_lookAt 13 = .ok (.if_icmp .ge 30, 3) := by decide +kernel
theorem dX9_lookAt_16 : decode cX9_lookAt 16 = .ok (.aload_n 0, 1) := by decide +kernel
theorem dX9_lookAt_17 : decode cX9_lookAt 17 = .ok (.getfield 36, 3) := by decide +kernel
theorem dX9_lookAt_20 : decode cX9_lookAt 20 = .ok (.aload_n 0, 1) := by decide +kernel
theorem dX9_lookAt_21 : decode cX9_lookAt 21 = .ok (.getfield 220, 3) := by decide +kernel
theorem dX9_lookAt_24 : decode cX9_lookAt 24 = .ok (.iaload, 1) := by decide +kernel
theorem dX9_lookAt_25 : decode cX9_lookAt 25 = .ok (.bipush 32, 2) := by decide +kernel
theorem dX9_lookAt_27 : decode cX9_lookAt 27 = .ok (.if_icmp .ne 16, 3) := by decide +kernel
theorem dX9_lookAt_30 : decode cX9_lookAt 30 = .ok (.aload_n 0, 1) := by decide +kernel
theorem dX9_lookAt_31 : decode cX9_lookAt 31 = .ok (.dup, 1) := by decide +kernel
theorem dX9_lookAt_32 : decode cX9_lookAt 32 = .ok (.getfield 220, 3) := by decide +kernel
theorem dX9_lookAt_35 : decode cX9_lookAt 35 = .ok (.iconst 1, 1) := by decide +kernel
theorem dX9_lookAt_36 : decode cX9_lookAt 36 = .ok (.iadd, 1) := by decide +kernel
theorem dX9_lookAt_37 : decode cX9_lookAt 37 = .ok (.putfield 220, 3) := by decide +kernel
theorem dX9_lookAt_40 : decode cX9_lookAt 40 = .ok (.goto (-35), 3) := by decide +kernel
theorem dX9_lookAt_43 : decode cX9_lookAt 43 = .ok (.aload_n 0, 1) := by decide +kernel
theorem dX9_lookAt_44 : decode cX9_lookAt 44 = .ok (.iconst 0, 1) := by decide +kernel
theorem dX9_lookAt_45 : decode cX9_lookAt 45 = .ok (.putfield 223, 3) := by decide +kernel
theorem dX9_lookAt_48 : decode cX9_lookAt 48 = .ok (.aload_n 0, 1) := by decide +kernel
theorem dX9_lookAt_49 : decode cX9_lookAt 49 = .ok (.iconst 0, 1) := by decide +kernel
theorem dX9_lookAt_50 : decode cX9_lookAt 50 = .ok (.putfield 226, 3) := by decide +kernel
theorem dX9_lookAt_53 : decode cX9_lookAt 53 = .ok (.aload_n 0, 1) := by decide +kernel
theorem dX9_lookAt_54 : decode cX9_lookAt 54 = .ok (.iconst 0, 1) := by decide +kernel
theorem dX9_lookAt_55 : decode cX9_lookAt 55 = .ok (.putfield 229, 3) := by decide +kernel
theorem dX9_lookAt_58 : decode cX9_lookAt 58 = .ok (.aload_n 0, 1) := by decide +kernel
theorem dX9_lookAt_59 : decode cX9_lookAt 59 = .ok (.getfield 220, 3) := by decide +kernel
theorem dX9_lookAt_62 : decode cX9_lookAt 62 = .ok (.aload_n 0, 1) := by decide +kernel
theorem dX9_lookAt_63 : decode cX9_lookAt 63 = .ok (.getfield 208, 3) := by decide +kernel
theorem dX9_lookAt_66 : decode cX9_lookAt 66 = .ok (.if_icmp .ne 4, 3) := by decide +kernel
theorem dX9_lookAt_69 : decode cX9_lookAt 69 = .ok (.return_, 1) := by decide +kernel
theorem dX9_lookAt_70 : decode cX9_lookAt 70 = .ok (.aload_n 0, 1) := by decide +kernel
theorem dX9_lookAt_71 : decode cX9_lookAt 71 = .ok (.getfield 36, 3) := by decide +kernel
theorem dX9_lookAt_74 : decode cX9_lookAt 74 = .ok (.aload_n 0, 1) := by decide +kernel
theorem dX9_lookAt_75 : decode cX9_lookAt 75 = .ok (.getfield 220, 3) := by decide +kernel
theorem dX9_lookAt_78 : decode cX9_lookAt 78 = .ok (.iaload, 1) := by decide +kernel
theorem dX9_lookAt_79 : decode cX9_lookAt 79 = .ok (.istore_n 2, 1) := by decide +kernel
theorem dX9_lookAt_80 : decode cX9_lookAt 80 = .ok (.aload_n 0, 1) := by decide +kernel
theorem dX9_lookAt_81 : decode cX9_lookAt 81 = .ok (.iload_n 2, 1) := by decide +kernel
theorem dX9_lookAt_82 : decode cX9_lookAt 82 = .ok (.invokestatic 232, 3) := by decide +kernel
theorem dX9_lookAt_85 : decode cX9_lookAt 85 = .ok (.ifCond .eq 7, 3) := by decide +kernel
theorem dX9_lookAt_88 : decode cX9_lookAt 88 = .ok (.iconst 1, 1) := by decide +kernel
theorem dX9_lookAt_89 : decode cX9_lookAt 89 = .ok (.goto 25, 3) := by decide +kernel
theorem dX9_lookAt_92 : decode cX9_lookAt 92 = .ok (.iload_n 2, 1) := by decide +kernel
theorem dX9_lookAt_93 : decode cX9_lookAt 93 = .ok (.invokestatic 235, 3) := by decide +kernel
theorem dX9_lookAt_96 : decode cX9_lookAt 96 = .ok (.ifCond .eq 7, 3) := by decide +kernel
theorem dX9_lookAt_99 : decode cX9_lookAt 99 = .ok (.iconst 2, 1) := by decide +kernel
theorem dX9_lookAt_100 : decode cX9_lookAt 100 = .ok (.goto 14, 3) := by decide +kernel
theorem dX9_lookAt_103 : decode cX9_lookAt 103 = .ok (.iload_n 2, 1) := by decide +kernel
theorem dX9_lookAt_104 : decode cX9_lookAt 104 = .ok (.bipush 59, 2) := by decide +kernel
theorem dX9_lookAt_106 : decode cX9_lookAt 106 = .ok (.if_icmp .ne 7, 3) := by decide +kernel
theorem dX9_lookAt_109 : decode cX9_lookAt 109 = .ok (.iconst 3, 1) := by decide +kernel
theorem dX9_lookAt_110 : decode cX9_lookAt 110 = .ok (.goto 4, 3) := by decide +kernel
theorem dX9_lookAt_113 : decode cX9_lookAt 113 = .ok (.iconst 4, 1) := by decide +kernel
theorem dX9_lookAt_114 : decode cX9_lookAt 114 = .ok (.putfield 226, 3) := by decide +kernel
theorem dX9_lookAt_117 : decode cX9_lookAt 117 = .ok (.aload_n 0, 1) := by decide +kernel
theorem dX9_lookAt_118 : decode cX9_lookAt 118 = .ok (.iconst 1, 1) := by decide +kernel
theorem dX9_lookAt_119 : decode cX9_lookAt 119 = .ok (.putfield 223, 3) := by decide +kernel
theorem dX9_lookAt_122 : decode cX9_lookAt 122 = .ok (.aload_n 0, 1) := by decide +kernel
theorem dX9_lookAt_123 : decode cX9_lookAt 123 = .ok (.getfield 226, 3) := by decide +kernel
theorem dX9_lookAt_126 : decode cX9_lookAt 126 = .ok (.iconst 3, 1) := by decide +kernel
theorem dX9_lookAt_127 : decode cX9_lookAt 127 = .ok (.if_icmp .ge 7, 3) := by decide +kernel
theorem dX9_lookAt_130 : decode cX9_lookAt 130 = .ok (.iconst 1, 1) := by decide +kernel
theorem dX9_lookAt_131 : decode cX9_lookAt 131 = .ok (.goto 4, 3) := by decide +kernel
theorem dX9_lookAt_134 : decode cX9_lookAt 134 = .ok (.iconst 0, 1) := by decide +kernel
theorem dX9_lookAt_135 : decode cX9_lookAt 135 = .ok (.istore_n 3, 1) := by decide +kernel
theorem dX9_lookAt_136 : decode cX9_lookAt 136 = .ok (.iload_n 3, 1) := by decide +kernel
theorem dX9_lookAt_137 : decode cX9_lookAt 137 = .ok (.ifCond .eq 78, 3) := by decide +kernel
theorem dX9_lookAt_140 : decode cX9_lookAt 140 = .ok (.aload_n 0, 1) := by decide +kernel
theorem dX9_lookAt_141 : decode cX9_lookAt 141 = .ok (.getfield 220, 3) := by decide +kernel
theorem dX9_lookAt_144 : decode cX9_lookAt 144 = .ok (.aload_n 0, 1) := by decide +kernel
theorem dX9_lookAt_145 : decode cX9_lookAt 145 = .ok (.getfield 223, 3) := by decide +kernel
theorem dX9_lookAt_148 : decode cX9_lookAt 148 = .ok (.iadd, 1) := by decide +kernel
theorem dX9_lookAt_149 : decode cX9_lookAt 149 = .ok (.aload_n 0, 1) := by decide +kernel
theorem dX9_lookAt_150 : decode cX9_lookAt 150 = .ok (.getfield 208, 3) := by decide +kernel
theorem dX9_lookAt_153 : decode cX9_lookAt 153 = .ok (.if_icmp .ge 62, 3) := by decide +kernel
theorem dX9_lookAt_156 : decode cX9_lookAt 156 = .ok (.aload_n 0, 1) := by decide +kernel
theorem dX9_lookAt_157 : decode cX9_lookAt 157 = .ok (.getfield 36, 3) := by decide +kernel
theorem dX9_lookAt_160 : decode cX9_lookAt 160 = .ok (.aload_n 0, 1) := by decide +kernel
theorem dX9_lookAt_161 : decode cX9_lookAt 161 = .ok (.getfield 220, 3) := by decide +kernel
theorem dX9_lookAt_164 : decode cX9_lookAt 164 = .ok (.aload_n 0, 1) := by decide +kernel
theorem dX9_lookAt_165 : decode cX9_lookAt 165 = .ok (.getfield 223, 3) := by decide +kernel
theorem dX9_lookAt_168 : decode cX9_lookAt 168 = .ok (.iadd, 1) := by decide +kernel
theorem dX9_lookAt_169 : decode cX9_lookAt 169 = .ok (.iaload, 1) := by decide +kernel
theorem dX9_lookAt_170 : decode cX9_lookAt 170 = .ok (.istore 4, 2) := by decide +kernel
theorem dX9_lookAt_172 : decode cX9_lookAt 172 = .ok (.aload_n 0, 1) := by decide +kernel
theorem dX9_lookAt_173 : decode cX9_lookAt 173 = .ok (.getfield 226, 3) := by decide +kernel
theorem dX9_lookAt_176 : decode cX9_lookAt 176 = .ok (.iconst 1, 1) := by decide +kernel
theorem dX9_lookAt_177 : decode cX9_lookAt 177 = .ok (.if_icmp .ne 11, 3) := by decide +kernel
theorem dX9_lookAt_180 : decode cX9_lookAt 180 = .ok (.iload 4, 2) := by decide +kernel
theorem dX9_lookAt_182 : decode cX9_lookAt 182 = .ok (.invokestatic 232, 3) := by decide +kernel
theorem dX9_lookAt_185 : decode cX9_lookAt 185 = .ok (.goto 8, 3) := by decide +kernel
theorem dX9_lookAt_188 : decode cX9_lookAt 188 = .ok (.iload 4, 2) := by decide +kernel
theorem dX9_lookAt_190 : decode cX9_lookAt 190 = .ok (.invokestatic 235, 3) := by decide +kernel
theorem dX9_lookAt_193 : decode cX9_lookAt 193 = .ok (.istore_n 3, 1) := by decide +kernel
theorem dX9_lookAt_194 : decode cX9_lookAt 194 = .ok (.aload_n 0, 1) := by decide +kernel
theorem dX9_lookAt_195 : decode cX9_lookAt 195 = .ok (.dup, 1) := by decide +kernel
theorem dX9_lookAt_196 : decode cX9_lookAt 196 = .ok (.getfield 223, 3) := by decide +kernel
theorem dX9_lookAt_199 : decode cX9_lookAt 199 = .ok (.iload_n 3, 1) := by decide +kernel
theorem dX9_lookAt_200 : decode cX9_lookAt 200 = .ok (.ifCond .eq 7, 3) := by decide +kernel
theorem dX9_lookAt_203 : decode cX9_lookAt 203 = .ok (.iconst 1, 1) := by decide +kernel
theorem dX9_lookAt_204 : decode cX9_lookAt 204 = .ok (.goto 4, 3) := by decide +kernel
theorem dX9_lookAt_207 : decode cX9_lookAt 207 = .ok (.iconst 0, 1) := by decide +kernel
theorem dX9_lookAt_208 : decode cX9_lookAt 208 = .ok (.iadd, 1) := by decide +kernel
theorem dX9_lookAt_209 : decode cX9_lookAt 209 = .ok (.putfield 223, 3) := by decide +kernel
theorem dX9_lookAt_212 : decode cX9_lookAt 212 = .ok (.goto (-76), 3) := by decide +kernel
theorem dX9_lookAt_215 : decode cX9_lookAt 215 = .ok (.iconst 0, 1) := by decide +kernel
theorem dX9_lookAt_216 : decode cX9_lookAt 216 = .ok (.istore 4, 2) := by decide +kernel
theorem dX9_lookAt_218 : decode cX9_lookAt 218 = .ok (.iload 4, 2) := by decide +kernel
theorem dX9_lookAt_220 : decode cX9_lookAt 220 = .ok (.aload_n 0, 1) := by decide +kernel
theorem dX9_lookAt_221 : decode cX9_lookAt 221 = .ok (.getfield 223, 3) := by decide +kernel
theorem dX9_lookAt_224 : decode cX9_lookAt 224 = .ok (.if_icmp .ge 50, 3) := by decide +kernel
theorem dX9_lookAt_227 : decode cX9_lookAt 227 = .ok (.iload 4, 2) := by decide +kernel
theorem dX9_lookAt_229 : decode cX9_lookAt 229 = .ok (.iconst 2, 1) := by decide +kernel
theorem dX9_lookAt_230 : decode cX9_lookAt 230 = .ok (.if_icmp .ge 44, 3) := by decide +kernel
theorem dX9_lookAt_233 : decode cX9_lookAt 233 = .ok (.aload_n 0, 1) := by decide +kernel
theorem dX9_lookAt_234 : decode cX9_lookAt 234 = .ok (.getfield 226, 3) := by decide +kernel
theorem dX9_lookAt_237 : decode cX9_lookAt 237 = .ok (.iconst 2, 1) := by decide +kernel
theorem dX9_lookAt_238 : decode cX9_lookAt 238 = .ok (.if_icmp .ne 36, 3) := by decide +kernel
theorem dX9_lookAt_241 : decode cX9_lookAt 241 = .ok (.aload_n 0, 1) := by decide +kernel
theorem dX9_lookAt_242 : decode cX9_lookAt 242 = .ok (.bipush 10, 2) := by decide +kernel
theorem dX9_lookAt_244 : decode cX9_lookAt 244 = .ok (.aload_n 0, 1) := by decide +kernel
theorem dX9_lookAt_245 : decode cX9_lookAt 245 = .ok (.getfield 229, 3) := by decide +kernel
theorem dX9_lookAt_248 : decode cX9_lookAt 248 = .ok (.imul, 1) := by decide +kernel
theorem dX9_lookAt_249 : decode cX9_lookAt 249 = .ok (.aload_n 0, 1) := by decide +kernel
theorem dX9_lookAt_250 : decode cX9_lookAt 250 = .ok (.getfield 36, 3) := by decide +kernel
theorem dX9_lookAt_253 : decode cX9_lookAt 253 = .ok (.aload_n 0, 1) := by decide +kernel
theorem dX9_lookAt_254 : decode cX9_lookAt 254 = .ok (.getfield 220, 3) := by decide +kernel
theorem dX9_lookAt_257 : decode cX9_lookAt 257 = .ok (.iload 4, 2) := by decide +kernel
theorem dX9_lookAt_259 : decode cX9_lookAt 259 = .ok (.iadd, 1) := by decide +kernel
theorem dX9_lookAt_260 : decode cX9_lookAt 260 = .ok (.iaload, 1) := by decide +kernel
theorem dX9_lookAt_261 : decode cX9_lookAt 261 = .ok (.iadd, 1) := by decide +kernel
theorem dX9_lookAt_262 : decode cX9_lookAt 262 = .ok (.bipush 48, 2) := by decide +kernel
theorem dX9_lookAt_264 : decode cX9_lookAt 264 = .ok (.isub, 1) := by decide +kernel
theorem dX9_lookAt_265 : decode cX9_lookAt 265 = .ok (.putfield 229, 3) := by decide +kernel
theorem dX9_lookAt_268 : decode cX9_lookAt 268 = .ok (.iinc 4 1, 3) := by decide +kernel
theorem dX9_lookAt_271 : decode cX9_lookAt 271 = .ok (.goto (-53), 3) := by decide +kernel
theorem dX9_lookAt_274 : decode cX9_lookAt 274 = .ok (.aload_n 0, 1) := by decide +kernel
theorem dX9_lookAt_275 : decode cX9_lookAt 275 = .ok (.aload_n 0, 1) := by decide +kernel
theorem dX9_lookAt_276 : decode cX9_lookAt 276 = .ok (.getfield 226, 3) := by decide +kernel
theorem dX9_lookAt_279 : decode cX9_lookAt 279 = .ok (.iconst 2, 1) := by decide +kernel
theorem dX9_lookAt_280 : decode cX9_lookAt 280 = .ok (.if_icmp .ne 15, 3) := by decide +kernel
theorem dX9_lookAt_283 : decode cX9_lookAt 283 = .ok (.aload_n 0, 1) := by decide +kernel
theorem dX9_lookAt_284 : decode cX9_lookAt 284 = .ok (.getfield 223, 3) := by decide +kernel
theorem dX9_lookAt_287 : decode cX9_lookAt 287 = .ok (.iconst 2, 1) := by decide +kernel
theorem dX9_lookAt_288 : decode cX9_lookAt 288 = .ok (.if_icmp .le 7, 3) := by decide +kernel
theorem dX9_lookAt_291 : decode cX9_lookAt 291 = .ok (.iconst 4, 1) := by decide +kernel
theorem dX9_lookAt_292 : decode cX9_lookAt 292 = .ok (.goto 7, 3) := by decide +kernel
theorem dX9_lookAt_295 : decode cX9_lookAt 295 = .ok (.aload_n 0, 1) := by decide +kernel
theorem dX9_lookAt_296 : decode cX9_lookAt 296 = .ok (.getfield 226, 3) := by decide +kernel
theorem dX9_lookAt_299 : decode cX9_lookAt 299 = .ok (.putfield 226, 3) := by decide +kernel
theorem dX9_lookAt_302 : decode cX9_lookAt 302 = .ok (.return_, 1) := by decide +kernel
theorem dX9_goBehind_0 : decode cX9_goBehind 0 = .ok (.aload_n 0, 1) := by decide +kernel
theorem dX9_goBehind_1 : decode cX9_goBehind 1 = .ok (.aload_n 0, 1) := by decide +kernel
theorem dX9_goBehind_2 : decode cX9_goBehind 2 = .ok (.getfield 220, 3) := by decide +kernel
theorem dX9_goBehind_5 : decode cX9_goBehind 5 = .ok (.aload_n 0, 1) := by decide +kernel
theorem dX9_goBehind_6 : decode cX9_goBehind 6 = .ok (.getfield 223, 3) := by decide +kernel
theorem dX9_goBehind_9 : decode cX9_goBehind 9 = .ok (.iadd, 1) := by decide +kernel
theorem dX9_goBehind_10 : decode cX9_goBehind 10 = .ok (.invokevirtual 238, 3) := by decide +kernel
theorem dX9_goBehind_13 : decode cX9_goBehind 13 = .ok (.return_, 1) := by decide +kernel
theorem dX9_spells_0 : decode cX9_spells 0 = .ok (.aload_n 0, 1) := by decide +kernel
theorem dX9_spells_1 : decode cX9_spells 1 = .ok (.getfield 226, 3) := by decide +kernel
theorem dX9_spells_4 : decode cX9_spells 4 = .ok (.iconst 1, 1) := by decide +kernel
theorem dX9_spells_5 : decode cX9_spells 5 = .ok (.if_icmp .ne 15, 3) := by decide +kernel
theorem dX9_spells_8 : decode cX9_spells 8 = .ok (.aload_n 0, 1) := by decide +kernel
theorem dX9_spells_9 : decode cX9_spells 9 = .ok (.getfield 223, 3) := by decide +kernel
theorem dX9_spells_12 : decode cX9_spells 12 = .ok (.iload_n 1, 1) := by decide +kernel
theorem dX9_spells_13 : decode cX9_spells 13 = .ok (.if_icmp .ne 7, 3) := by decide +kernel
theorem dX9_spells_16 : decode cX9_spells 16 = .ok (.iconst 1, 1) := by decide +kernel
theorem dX9_spells_17 : decode cX9_spells 17 = .ok (.goto 4, 3) := by decide +kernel
theorem dX9_spells_20 : decode cX9_spells 20 = .ok (.iconst 0, 1) := by decide +kernel
theorem dX9_spells_21 : decode cX9_spells 21 = .ok (.istore 8, 2) := by decide +kernel
theorem dX9_spells_23 : decode cX9_spells 23 = .ok (.iconst 0, 1) := by decide +kernel
theorem dX9_spells_24 : decode cX9_spells 24 = .ok (.istore 9, 2) := by decide +kernel
theorem dX9_spells_26 : decode cX9_spells 26 = .ok (.iload 9, 2) := by decide +kernel
theorem dX9_spells_28 : decode cX9_spells 28 = .ok (.iload_n 1, 1) := by decide +kernel
theorem dX9_spells_29 : decode cX9_spells 29 = .ok (.if_icmp .ge 90, 3) := by decide +kernel
theorem dX9_spells_32 : decode cX9_spells 32 = .ok (.iload 8, 2) := by decide +kernel
theorem dX9_spells_34 : decode cX9_spells 34 = .ok (.ifCond .eq 85, 3) := by decide +kernel
theorem dX9_spells_37 : decode cX9_spells 37 = .ok (.aload_n 0, 1) := by decide +kernel
theorem dX9_spells_38 : decode cX9_spells 38 = .ok (.getfield 36, 3) := by decide +kernel
theorem dX9_spells_41 : decode cX9_spells 41 = .ok (.aload_n 0, 1) := by decide +kernel
theorem dX9_spells_42 : decode cX9_spells 42 = .ok (.getfield 220, 3) := by decide +kernel
theorem dX9_spells_45 : decode cX9_spells 45 = .ok (.iload 9, 2) := by decide +kernel
theorem dX9_spells_47 : decode cX9_spells 47 = .ok (.iadd, 1) := by decide +kernel
theorem dX9_spells_48 : decode cX9_spells 48 = .ok (.iaload, 1) := by decide +kernel
theorem dX9_spells_49 : decode cX9_spells 49 = .ok (.iload 9, 2) := by decide +kernel
theorem dX9_spells_51 : decode cX9_spells 51 = .ok (.ifCond .ne 7, 3) := by decide +kernel
theorem dX9_spells_54 : decode cX9_spells 54 = .ok (.iload_n 2, 1) := by decide +kernel
theorem dX9_spells_55 : decode cX9_spells 55 = .ok (.goto 48, 3) := by decide +kernel
theorem dX9_spells_58 : decode cX9_spells 58 = .ok (.iload 9, 2) := by decide +kernel
theorem dX9_spells_60 : decode cX9_spells 60 = .ok (.iconst 1, 1) := by decide +kernel
theorem dX9_spells_61 : decode cX9_spells 61 = .ok (.if_icmp .ne 7, 3) := by decide +kernel
theorem dX9_spells_64 : decode cX9_spells 64 = .ok (.iload_n 3, 1) := by decide +kernel
theorem dX9_spells_65 : decode cX9_spells 65 = .ok (.goto 38, 3) := by decide +kernel
theorem dX9_spells_68 : decode cX9_spells 68 = .ok (.iload 9, 2) := by decide +kernel
theorem dX9_spells_70 : decode cX9_spells 70 = .ok (.iconst 2, 1) := by decide +kernel
theorem dX9_spells_71 : decode cX9_spells 71 = .ok (.if_icmp .ne 8, 3) := by decide +kernel
theorem dX9_spells_74 : decode cX9_spells 74 = .ok (.iload 4, 2) := by decide +kernel
theorem dX9_spells_76 : decode cX9_spells 76 = .ok (.goto 27, 3) := by decide +kernel
theorem dX9_spells_79 : decode cX9_spells 79 = .ok (.iload 9, 2) := by decide +kernel
theorem dX9_spells_81 : decode cX9_spells 81 = .ok (.iconst 3, 1) := by decide +kernel
theorem dX9_spells_82 : decode cX9_spells 82 = .ok (.if_icmp .ne 8, 3) := by decide +kernel
theorem dX9_spells_85 : decode cX9_spells 85 = .ok (.iload 5, 2) := by decide +kernel
theorem dX9_spells_87 : decode cX9_spells 87 = .ok (.goto 16, 3) := by decide +kernel
theorem dX9_spells_90 : decode cX9_spells 90 = .ok (.iload 9, 2) := by decide +kernel
theorem dX9_spells_92 : decode cX9_spells 92 = .ok (.iconst 4, 1) := by decide +kernel
theorem dX9_spells_93 : decode cX9_spells 93 = .ok (.if_icmp .ne 8, 3) := by decide +kernel
theorem dX9_spells_96 : decode cX9_spells 96 = .ok (.iload 6, 2) := by decide +kernel
theorem dX9_spells_98 : decode cX9_spells 98 = .ok (.goto 5, 3) := by decide +kernel
theorem dX9_spells_101 : decode cX9_spells 101 = .ok (.iload 7, 2) := by decide +kernel
theorem dX9_spells_103 : decode cX9_spells 103 = .ok (.if_icmp .ne 7, 3) := by decide +kernel
theorem dX9_spells_106 : decode cX9_spells 106 = .ok (.iconst 1, 1) := by decide +kernel
theorem dX9_spells_107 : decode cX9_spells 107 = .ok (.goto 4, 3) := by decide +kernel
theorem dX9_spells_110 : decode cX9_spells 110 = .ok (.iconst 0, 1) := by decide +kernel
theorem dX9_spells_111 : decode cX9_spells 111 = .ok (.istore 8, 2) := by decide +kernel
theorem dX9_spells_113 : decode cX9_spells 113 = .ok (.iinc 9 1, 3) := by decide +kernel
theorem dX9_spells_116 : decode cX9_spells 116 = .ok (.goto (-90), 3) := by decide +kernel
theorem dX9_spells_119 : decode cX9_spells 119 = .ok (.iload 8, 2) := by decide +kernel
theorem dX9_spells_121 : decode cX9_spells 121 = .ok (.ireturn, 1) := by decide +kernel
theorem dX9_takesNumber_0 : decode cX9_takesNumber 0 = .ok (.aload_n 0, 1) := by decide +kernel
theorem dX9_takesNumber_1 : decode cX9_takesNumber 1 = .ok (.getfield 226, 3) := by decide +kernel
theorem dX9_takesNumber_4 : decode cX9_takesNumber 4 = .ok (.iconst 2, 1) := by decide +kernel
theorem dX9_takesNumber_5 : decode cX9_takesNumber 5 = .ok (.if_icmp .ne 18, 3) := by decide +kernel
theorem dX9_takesNumber_8 : decode cX9_takesNumber 8 = .ok (.aload_n 0, 1) := by decide +kernel
theorem dX9_takesNumber_9 : decode cX9_takesNumber 9 = .ok (.getfield 229, 3) := by decide +kernel
theorem dX9_takesNumber_12 : decode cX9_takesNumber 12 = .ok (.i2l, 1) := by decide +kernel
theorem dX9_takesNumber_13 : decode cX9_takesNumber 13 = .ok (.iload_n 2, 1) := by decide +kernel
theorem dX9_takesNumber_14 : decode cX9_takesNumber 14 = .ok (.i2l, 1) := by decide +kernel
theorem dX9_takesNumber_15 : decode cX9_takesNumber 15 = .ok (.iload_n 3, 1) := by decide +kernel
theorem dX9_takesNumber_16 : decode cX9_takesNumber 16 = .ok (.i2l, 1) := by decide +kernel
theorem dX9_takesNumber_17 : decode cX9_takesNumber 17 = .ok (.invokestatic 53, 3) := by decide +kernel
theorem dX9_takesNumber_20 : decode cX9_takesNumber 20 = .ok (.ifCond .ne 5, 3) := by decide +kernel
theorem dX9_takesNumber_23 : decode cX9_takesNumber 23 = .ok (.iconst 0, 1) := by decide +kernel
theorem dX9_takesNumber_24 : decode cX9_takesNumber 24 = .ok (.ireturn, 1) := by decide +kernel
theorem dX9_takesNumber_25 : decode cX9_takesNumber 25 = .ok (.aload_n 0, 1) := by decide +kernel
theorem dX9_takesNumber_26 : decode cX9_takesNumber 26 = .ok (.getfield 42, 3) := by decide +kernel
theorem dX9_takesNumber_29 : decode cX9_takesNumber 29 = .ok (.iload_n 1, 1) := by decide +kernel
theorem dX9_takesNumber_30 : decode cX9_takesNumber 30 = .ok (.aload_n 0, 1) := by decide +kernel
theorem dX9_takesNumber_31 : decode cX9_takesNumber 31 = .ok (.getfield 229, 3) := by decide +kernel
theorem dX9_takesNumber_34 : decode cX9_takesNumber 34 = .ok (.iastore, 1) := by decide +kernel
theorem dX9_takesNumber_35 : decode cX9_takesNumber 35 = .ok (.aload_n 0, 1) := by decide +kernel
theorem dX9_takesNumber_36 : decode cX9_takesNumber 36 = .ok (.invokevirtual 242, 3) := by decide +kernel
theorem dX9_takesNumber_39 : decode cX9_takesNumber 39 = .ok (.iconst 1, 1) := by decide +kernel
theorem dX9_takesNumber_40 : decode cX9_takesNumber 40 = .ok (.ireturn, 1) := by decide +kernel
theorem dX9_takesHorse_0 : decode cX9_takesHorse 0 = .ok (.aload_n 0, 1) := by decide +kernel
theorem dX9_takesHorse_1 : decode cX9_takesHorse 1 = .ok (.invokevirtual 242, 3) := by decide +kernel
theorem dX9_takesHorse_4 : decode cX9_takesHorse 4 = .ok (.aload_n 0, 1) := by decide +kernel
theorem dX9_takesHorse_5 : decode cX9_takesHorse 5 = .ok (.iconst 0, 1) := by decide +kernel
theorem dX9_takesHorse_6 : decode cX9_takesHorse 6 = .ok (.iconst 0, 1) := by decide +kernel
theorem dX9_takesHorse_7 : decode cX9_takesHorse 7 = .ok (.aload_n 0, 1) := by decide +kernel
theorem dX9_takesHorse_8 : decode cX9_takesHorse 8 = .ok (.getfield 39, 3) := by decide +kernel
theorem dX9_takesHorse_11 : decode cX9_takesHorse 11 = .ok (.bipush 21, 2) := by decide +kernel
theorem dX9_takesHorse_13 : decode cX9_takesHorse 13 = .ok (.iaload, 1) := by decide +kernel
theorem dX9_takesHorse_14 : decode cX9_takesHorse 14 = .ok (.iconst 1, 1) := by decide +kernel
theorem dX9_takesHorse_15 : decode cX9_takesHorse 15 = .ok (.isub, 1) := by decide +kernel
theorem dX9_takesHorse_16 : decode cX9_takesHorse 16 = .ok (.invokevirtual 245, 3) := by decide +kernel
theorem dX9_takesHorse_19 : decode cX9_takesHorse 19 = .ok (.ifCond .eq 24, 3) := by decide +kernel
theorem dX9_takesHorse_22 : decode cX9_takesHorse 22 = .ok (.aload_n 0, 1) := by decide +kernel
theorem dX9_takesHorse_23 : decode cX9_takesHorse 23 = .ok (.iconst 1, 1) := by decide +kernel
theorem dX9_takesHorse_24 : decode cX9_takesHorse 24 = .ok (.iconst 0, 1) := by decide +kernel
theorem dX9_takesHorse_25 : decode cX9_takesHorse 25 = .ok (.iconst 5, 1) := by decide +kernel
theorem dX9_takesHorse_26 : decode cX9_takesHorse 26 = .ok (.invokevirtual 245, 3) := by decide +kernel
theorem dX9_takesHorse_29 : decode cX9_takesHorse 29 = .ok (.ifCond .eq 14, 3) := by decide +kernel
theorem dX9_takesHorse_32 : decode cX9_takesHorse 32 = .ok (.aload_n 0, 1) := by decide +kernel
theorem dX9_takesHorse_33 : decode cX9_takesHorse 33 = .ok (.iconst 2, 1) := by decide +kernel
theorem dX9_takesHorse_34 : decode cX9_takesHorse 34 = .ok (.iconst 0, 1) := by decide +kernel
theorem dX9_takesHorse_35 : decode cX9_takesHorse 35 = .ok (.bipush 7, 2) := by decide +kernel
theorem dX9_takesHorse_37 : decode cX9_takesHorse 37 = .ok (.invokevirtual 245, 3) := by decide +kernel
theorem dX9_takesHorse_40 : decode cX9_takesHorse 40 = .ok (.ifCond .ne 5, 3) := by decide +kernel
theorem dX9_takesHorse_43 : decode cX9_takesHorse 43 = .ok (.iconst 0, 1) := by decide +kernel
theorem dX9_takesHorse_44 : decode cX9_takesHorse 44 = .ok (.ireturn, 1) := by decide +kernel
theorem dX9_takesHorse_45 : decode cX9_takesHorse 45 = .ok (.aload_n 0, 1) := by decide +kernel
theorem dX9_takesHorse_46 : decode cX9_takesHorse 46 = .ok (.getfield 39, 3) := by decide +kernel
theorem dX9_takesHorse_49 : decode cX9_takesHorse 49 = .ok (.bipush 34, 2) := by decide +kernel
theorem dX9_takesHorse_51 : decode cX9_takesHorse 51 = .ok (.aload_n 0, 1) := by decide +kernel
theorem dX9_takesHorse_52 : decode cX9_takesHorse 52 = .ok (.getfield 42, 3) := by decide +kernel
theorem dX9_takesHorse_55 : decode cX9_takesHorse 55 = .ok (.iconst 0, 1) := by decide +kernel
theorem dX9_takesHorse_56 : decode cX9_takesHorse 56 = .ok (.iaload, 1) := by decide +kernel
theorem dX9_takesHorse_57 : decode cX9_takesHorse 57 = .ok (.iadd, 1) := by decide +kernel
theorem dX9_takesHorse_58 : decode cX9_takesHorse 58 = .ok (.aload_n 0, 1) := by decide +kernel
theorem dX9_takesHorse_59 : decode cX9_takesHorse 59 = .ok (.getfield 42, 3) := by decide +kernel
theorem dX9_takesHorse_62 : decode cX9_takesHorse 62 = .ok (.iconst 1, 1) := by decide +kernel
theorem dX9_takesHorse_63 : decode cX9_takesHorse 63 = .ok (.iaload, 1) := by decide +kernel
theorem dX9_takesHorse_64 : decode cX9_takesHorse 64 = .ok (.iastore, 1) := by decide +kernel
theorem dX9_takesHorse_65 : decode cX9_takesHorse 65 = .ok (.aload_n 0, 1) := by decide +kernel
theorem dX9_takesHorse_66 : decode cX9_takesHorse 66 = .ok (.getfield 39, 3) := by decide +kernel
theorem dX9_takesHorse_69 : decode cX9_takesHorse 69 = .ok (.bipush 46, 2) := by decide +kernel
theorem dX9_takesHorse_71 : decode cX9_takesHorse 71 = .ok (.aload_n 0, 1) := by decide +kernel
theorem dX9_takesHorse_72 : decode cX9_takesHorse 72 = .ok (.getfield 42, 3) := by decide +kernel
theorem dX9_takesHorse_75 : decode cX9_takesHorse 75 = .ok (.iconst 0, 1) := by decide +kernel
theorem dX9_takesHorse_76 : decode cX9_takesHorse 76 = .ok (.iaload, 1) := by decide +kernel
theorem dX9_takesHorse_77 : decode cX9_takesHorse 77 = .ok (.iadd, 1) := by decide +kernel
theorem dX9_takesHorse_78 : decode cX9_takesHorse 78 = .ok (.aload_n 0, 1) := by decide +kernel
theorem dX9_takesHorse_79 : decode cX9_takesHorse 79 = .ok (.getfield 42, 3) := by decide +kernel
theorem dX9_takesHorse_82 : decode cX9_takesHorse 82 = .ok (.iconst 2, 1) := by decide +kernel
theorem dX9_takesHorse_83 : decode cX9_takesHorse 83 = .ok (.iaload, 1) := by decide +kernel
theorem dX9_takesHorse_84 : decode cX9_takesHorse 84 = .ok (.iastore, 1) := by decide +kernel
theorem dX9_takesHorse_85 : decode cX9_takesHorse 85 = .ok (.iconst 1, 1) := by decide +kernel
theorem dX9_takesHorse_86 : decode cX9_takesHorse 86 = .ok (.ireturn, 1) := by decide +kernel
theorem dX9_takesRider_0 : decode cX9_takesRider 0 = .ok (.aload_n 0, 1) := by decide +kernel
theorem dX9_takesRider_1 : decode cX9_takesRider 1 = .ok (.getfield 39, 3) := by decide +kernel
theorem dX9_takesRider_4 : decode cX9_takesRider 4 = .ok (.iconst 0, 1) := by decide +kernel
theorem dX9_takesRider_5 : decode cX9_takesRider 5 = .ok (.iaload, 1) := by decide +kernel
theorem dX9_takesRider_6 : decode cX9_takesRider 6 = .ok (.bipush 6, 2) := by decide +kernel
theorem dX9_takesRider_8 : decode cX9_takesRider 8 = .ok (.if_icmp .ne 5, 3) := by decide +kernel
theorem dX9_takesRider_11 : decode cX9_takesRider 11 = .ok (.iconst 0, 1) := by decide +kernel
theorem dX9_takesRider_12 : decode cX9_takesRider 12 = .ok (.ireturn, 1) := by decide +kernel
theorem dX9_takesRider_13 : decode cX9_takesRider 13 = .ok (.aload_n 0, 1) := by decide +kernel
theorem dX9_takesRider_14 : decode cX9_takesRider 14 = .ok (.invokevirtual 242, 3) := by decide +kernel
theorem dX9_takesRider_17 : decode cX9_takesRider 17 = .ok (.aload_n 0, 1) := by decide +kernel
theorem dX9_takesRider_18 : decode cX9_takesRider 18 = .ok (.iconst 0, 1) := by decide +kernel
theorem dX9_takesRider_19 : decode cX9_takesRider 19 = .ok (.iconst 0, 1) := by decide +kernel
theorem dX9_takesRider_20 : decode cX9_takesRider 20 = .ok (.iconst 5, 1) := by decide +kernel
theorem dX9_takesRider_21 : decode cX9_takesRider 21 = .ok (.invokevirtual 245, 3) := by decide +kernel
theorem dX9_takesRider_24 : decode cX9_takesRider 24 = .ok (.ifCond .eq 55, 3) := by decide +kernel
theorem dX9_takesRider_27 : decode cX9_takesRider 27 = .ok (.aload_n 0, 1) := by decide +kernel
theorem dX9_takesRider_28 : decode cX9_takesRider 28 = .ok (.iconst 1, 1) := by decide +kernel
theorem dX9_takesRider_29 : decode cX9_takesRider 29 = .ok (.iconst 1, 1) := by decide +kernel
theorem dX9_takesRider_30 : decode cX9_takesRider 30 = .ok (.bipush 9, 2) := by decide +kernel
theorem dX9_takesRider_32 : decode cX9_takesRider 32 = .ok (.invokevirtual 245, 3) := by decide +kernel
theorem dX9_takesRider_35 : decode cX9_takesRider 35 = .ok (.ifCond .eq 44, 3) := by decide +kernel
theorem dX9_takesRider_38 : decode cX9_takesRider 38 = .ok (.aload_n 0, 1) := by decide +kernel
theorem dX9_takesRider_39 : decode cX9_takesRider 39 = .ok (.getfield 226, 3) := by decide +kernel
theorem dX9_takesRider_42 : decode cX9_takesRider 42 = .ok (.iconst 2, 1) := by decide +kernel
theorem dX9_takesRider_43 : decode cX9_takesRider 43 = .ok (.if_icmp .ne 36, 3) := by decide +kernel
theorem dX9_takesRider_46 : decode cX9_takesRider 46 = .ok (.aload_n 0, 1) := by decide +kernel
theorem dX9_takesRider_47 : decode cX9_takesRider 47 = .ok (.getfield 39, 3) := by decide +kernel
theorem dX9_takesRider_50 : decode cX9_takesRider 50 = .ok (.aload_n 0, 1) := by decide +kernel
theorem dX9_takesRider_51 : decode cX9_takesRider 51 = .ok (.getfield 229, 3) := by decide +kernel
theorem dX9_takesRider_54 : decode cX9_takesRider 54 = .ok (.invokestatic 89, 3) := by decide +kernel
theorem dX9_takesRider_57 : decode cX9_takesRider 57 = .ok (.iconst (-1), 1) := by decide +kernel
theorem dX9_takesRider_58 : decode cX9_takesRider 58 = .ok (.if_icmp .ne 21, 3) := by decide +kernel
theorem dX9_takesRider_61 : decode cX9_takesRider 61 = .ok (.aload_n 0, 1) := by decide +kernel
theorem dX9_takesRider_62 : decode cX9_takesRider 62 = .ok (.iconst 2, 1) := by decide +kernel
theorem dX9_takesRider_63 : decode cX9_takesRider 63 = .ok (.iconst 0, 1) := by decide +kernel
theorem dX9_takesRider_64 : decode cX9_takesRider 64 = .ok (.aload_n 0, 1) := by decide +kernel
theorem dX9_takesRider_65 : decode cX9_takesRider 65 = .ok (.getfield 39, 3) := by decide +kernel
theorem dX9_takesRider_68 : decode cX9_takesRider 68 = .ok (.bipush 21, 2) := by decide +kernel
theorem dX9_takesRider_70 : decode cX9_takesRider 70 = .ok (.iaload, 1) := by decide +kernel
theorem dX9_takesRider_71 : decode cX9_takesRider 71 = .ok (.iconst 1, 1) := by decide +kernel
theorem dX9_takesRider_72 : decode cX9_takesRider 72 = .ok (.isub, 1) := by decide +kernel
theorem dX9_takesRider_73 : decode cX9_takesRider 73 = .ok (.invokevirtual 245, 3) := by decide +kernel
theorem dX9_takesRider_76 : decode cX9_takesRider 76 = .ok (.ifCond .ne 5, 3) := by decide +kernel
theorem dX9_takesRider_79 : decode cX9_takesRider 79 = .ok (.iconst 0, 1) := by decide +kernel
theorem dX9_takesRider_80 : decode cX9_takesRider 80 = .ok (.ireturn, 1) := by decide +kernel
theorem dX9_takesRider_81 : decode cX9_takesRider 81 = .ok (.aload_n 0, 1) := by decide +kernel
theorem dX9_takesRider_82 : decode cX9_takesRider 82 = .ok (.getfield 39, 3) := by decide +kernel
theorem dX9_takesRider_85 : decode cX9_takesRider 85 = .ok (.aload_n 0, 1) := by decide +kernel
theorem dX9_takesRider_86 : decode cX9_takesRider 86 = .ok (.getfield 42, 3) := by decide +kernel
theorem dX9_takesRider_89 : decode cX9_takesRider 89 = .ok (.iconst 0, 1) := by decide +kernel
theorem dX9_takesRider_90 : decode cX9_takesRider 90 = .ok (.iaload, 1) := by decide +kernel
theorem dX9_takesRider_91 : decode cX9_takesRider 91 = .ok (.aload_n 0, 1) := by decide +kernel
theorem dX9_takesRider_92 : decode cX9_takesRider 92 = .ok (.getfield 42, 3) := by decide +kernel
theorem dX9_takesRider_95 : decode cX9_takesRider 95 = .ok (.iconst 1, 1) := by decide +kernel
theorem dX9_takesRider_96 : decode cX9_takesRider 96 = .ok (.iaload, 1) := by decide +kernel
theorem dX9_takesRider_97 : decode cX9_takesRider 97 = .ok (.aload_n 0, 1) := by decide +kernel
theorem dX9_takesRider_98 : decode cX9_takesRider 98 = .ok (.getfield 42, 3) := by decide +kernel
theorem dX9_takesRider_101 : decode cX9_takesRider 101 = .ok (.iconst 2, 1) := by decide +kernel
theorem dX9_takesRider_102 : decode cX9_takesRider 102 = .ok (.iaload, 1) := by decide +kernel
theorem dX9_takesRider_103 : decode cX9_takesRider 103 = .ok (.invokestatic 99, 3) := by decide +kernel
theorem dX9_takesRider_106 : decode cX9_takesRider 106 = .ok (.iconst 1, 1) := by decide +kernel
theorem dX9_takesRider_107 : decode cX9_takesRider 107 = .ok (.ireturn, 1) := by decide +kernel
theorem dX9_takesRing_0 : decode cX9_takesRing 0 = .ok (.aload_n 0, 1) := by decide +kernel
theorem dX9_takesRing_1 : decode cX9_takesRing 1 = .ok (.invokevirtual 242, 3) := by decide +kernel
theorem dX9_takesRing_4 : decode cX9_takesRing 4 = .ok (.aload_n 0, 1) := by decide +kernel
theorem dX9_takesRing_5 : decode cX9_takesRing 5 = .ok (.iconst 0, 1) := by decide +kernel
theorem dX9_takesRing_6 : decode cX9_takesRing 6 = .ok (.iconst 0, 1) := by decide +kernel
theorem dX9_takesRing_7 : decode cX9_takesRing 7 = .ok (.bipush 20, 2) := by decide +kernel
theorem dX9_takesRing_9 : decode cX9_takesRing 9 = .ok (.invokevirtual 245, 3) := by decide +kernel
theorem dX9_takesRing_12 : decode cX9_takesRing 12 = .ok (.ifCond .ne 5, 3) := by decide +kernel
theorem dX9_takesRing_15 : decode cX9_takesRing 15 = .ok (.iconst 0, 1) := by decide +kernel
theorem dX9_takesRing_16 : decode cX9_takesRing 16 = .ok (.ireturn, 1) := by decide +kernel
theorem dX9_takesRing_17 : decode cX9_takesRing 17 = .ok (.aload_n 0, 1) := by decide +kernel
theorem dX9_takesRing_18 : decode cX9_takesRing 18 = .ok (.getfield 39, 3) := by decide +kernel
theorem dX9_takesRing_21 : decode cX9_takesRing 21 = .ok (.bipush 7, 2) := by decide +kernel
theorem dX9_takesRing_23 : decode cX9_takesRing 23 = .ok (.aload_n 0, 1) := by decide +kernel
theorem dX9_takesRing_24 : decode cX9_takesRing 24 = .ok (.getfield 42, 3) := by decide +kernel
theorem dX9_takesRing_27 : decode cX9_takesRing 27 = .ok (.iconst 0, 1) := by decide +kernel
theorem dX9_takesRing_28 : decode cX9_takesRing 28 = .ok (.iaload, 1) := by decide +kernel
theorem dX9_takesRing_29 : decode cX9_takesRing 29 = .ok (.iastore, 1) := by decide +kernel
theorem dX9_takesRing_30 : decode cX9_takesRing 30 = .ok (.iconst 1, 1) := by decide +kernel
theorem dX9_takesRing_31 : decode cX9_takesRing 31 = .ok (.ireturn, 1) := by decide +kernel
theorem dX9_takesGo_0 : decode cX9_takesGo 0 = .ok (.aload_n 0, 1) := by decide +kernel
theorem dX9_takesGo_1 : decode cX9_takesGo 1 = .ok (.invokevirtual 242, 3) := by decide +kernel
theorem dX9_takesGo_4 : decode cX9_takesGo 4 = .ok (.aload_n 0, 1) := by decide +kernel
theorem dX9_takesGo_5 : decode cX9_takesGo 5 = .ok (.iconst 0, 1) := by decide +kernel
theorem dX9_takesGo_6 : decode cX9_takesGo 6 = .ok (.iconst 1, 1) := by decide +kernel
theorem dX9_takesGo_7 : decode cX9_takesGo 7 = .ok (.bipush 99, 2) := by decide +kernel
theorem dX9_takesGo_9 : decode cX9_takesGo 9 = .ok (.invokevirtual 245, 3) := by decide +kernel
theorem dX9_takesGo_12 : decode cX9_takesGo 12 = .ok (.ifCond .ne 5, 3) := by decide +kernel
theorem dX9_takesGo_15 : decode cX9_takesGo 15 = .ok (.iconst 0, 1) := by decide +kernel
theorem dX9_takesGo_16 : decode cX9_takesGo 16 = .ok (.ireturn, 1) := by decide +kernel
theorem dX9_takesGo_17 : decode cX9_takesGo 17 = .ok (.aload_n 0, 1) := by decide +kernel
theorem dX9_takesGo_18 : decode cX9_takesGo 18 = .ok (.getfield 39, 3) := by decide +kernel
theorem dX9_takesGo_21 : decode cX9_takesGo 21 = .ok (.aload_n 0, 1) := by decide +kernel
theorem dX9_takesGo_22 : decode cX9_takesGo 22 = .ok (.getfield 42, 3) := by decide +kernel
theorem dX9_takesGo_25 : decode cX9_takesGo 25 = .ok (.iconst 0, 1) := by decide +kernel
theorem dX9_takesGo_26 : decode cX9_takesGo 26 = .ok (.iaload, 1) := by decide +kernel
theorem dX9_takesGo_27 : decode cX9_takesGo 27 = .ok (.invokestatic 125, 3) := by decide +kernel
theorem dX9_takesGo_30 : decode cX9_takesGo 30 = .ok (.iconst 1, 1) := by decide +kernel
theorem dX9_takesGo_31 : decode cX9_takesGo 31 = .ok (.ireturn, 1) := by decide +kernel
theorem dX9_takesItem_0 : decode cX9_takesItem 0 = .ok (.aload_n 0, 1) := by decide +kernel
theorem dX9_takesItem_1 : decode cX9_takesItem 1 = .ok (.iconst 5, 1) := by decide +kernel
theorem dX9_takesItem_2 : decode cX9_takesItem 2 = .ok (.bipush 104, 2) := by decide +kernel
theorem dX9_takesItem_4 : decode cX9_takesItem 4 = .ok (.bipush 111, 2) := by decide +kernel
theorem dX9_takesItem_6 : decode cX9_takesItem 6 = .ok (.bipush 114, 2) := by decide +kernel
theorem dX9_takesItem_8 : decode cX9_takesItem 8 = .ok (.bipush 115, 2) := by decide +kernel
theorem dX9_takesItem_10 : decode cX9_takesItem 10 = .ok (.bipush 101, 2) := by decide +kernel
theorem dX9_takesItem_12 : decode cX9_takesItem 12 = .ok (.iconst 0, 1) := by decide +kernel
theorem dX9_takesItem_13 : decode cX9_takesItem 13 = .ok (.invokevirtual 249, 3) := by decide +kernel
theorem dX9_takesItem_16 : decode cX9_takesItem 16 = .ok (.ifCond .eq 8, 3) := by decide +kernel
theorem dX9_takesItem_19 : decode cX9_takesItem 19 = .ok (.aload_n 0, 1) := by decide +kernel
theorem dX9_takesItem_20 : decode cX9_takesItem 20 = .ok (.invokevirtual 253, 3) := by decide +kernel
theorem dX9_takesItem_23 : decode cX9_takesItem 23 = .ok (.ireturn, 1) := by decide +kernel
theorem dX9_takesItem_24 : decode cX9_takesItem 24 = .ok (.aload_n 0, 1) := by decide +kernel
theorem dX9_takesItem_25 : decode cX9_takesItem 25 = .ok (.iconst 5, 1) := by decide +kernel
theorem dX9_takesItem_26 : decode cX9_takesItem 26 = .ok (.bipush 114, 2) := by decide +kernel
theorem dX9_takesItem_28 : decode cX9_takesItem 28 = .ok (.bipush 105, 2) := by decide +kernel
theorem dX9_takesItem_30 : decode cX9_takesItem 30 = .ok (.bipush 100, 2) := by decide +kernel
theorem dX9_takesItem_32 : decode cX9_takesItem 32 = .ok (.bipush 101, 2) := by decide +kernel
theorem dX9_takesItem_34 : decode cX9_takesItem 34 = .ok (.bipush 114, 2) := by decide +kernel
theorem dX9_takesItem_36 : decode cX9_takesItem 36 = .ok (.iconst 0, 1) := by decide +kernel
theorem dX9_takesItem_37 : decode cX9_takesItem 37 = .ok (.invokevirtual 249, 3) := by decide +kernel
theorem dX9_takesItem_40 : decode cX9_takesItem 40 = .ok (.ifCond .eq 8, 3) := by decide +kernel
theorem dX9_takesItem_43 : decode cX9_takesItem 43 = .ok (.aload_n 0, 1) := by decide +kernel
theorem dX9_takesItem_44 : decode cX9_takesItem 44 = .ok (.invokevirtual 257, 3) := by decide +kernel
theorem dX9_takesItem_47 : decode cX9_takesItem 47 = .ok (.ireturn, 1) := by decide +kernel
theorem dX9_takesItem_48 : decode cX9_takesItem 48 = .ok (.aload_n 0, 1) := by decide +kernel
theorem dX9_takesItem_49 : decode cX9_takesItem 49 = .ok (.iconst 4, 1) := by decide +kernel
theorem dX9_takesItem_50 : decode cX9_takesItem 50 = .ok (.bipush 114, 2) := by decide +kernel
theorem dX9_takesItem_52 : decode cX9_takesItem 52 = .ok (.bipush 105, 2) := by decide +kernel
theorem dX9_takesItem_54 : decode cX9_takesItem 54 = .ok (.bipush 110, 2) := by decide +kernel
theorem dX9_takesItem_56 : decode cX9_takesItem 56 = .ok (.bipush 103, 2) := by decide +kernel
theorem dX9_takesItem_58 : decode cX9_takesItem 58 = .ok (.iconst 0, 1) := by decide +kernel
theorem dX9_takesItem_59 : decode cX9_takesItem 59 = .ok (.iconst 0, 1) := by decide +kernel
theorem dX9_takesItem_60 : decode cX9_takesItem 60 = .ok (.invokevirtual 249, 3) := by decide +kernel
theorem dX9_takesItem_63 : decode cX9_takesItem 63 = .ok (.ifCond .eq 8, 3) := by decide +kernel
theorem dX9_takesItem_66 : decode cX9_takesItem 66 = .ok (.aload_n 0, 1) := by decide +kernel
theorem dX9_takesItem_67 : decode cX9_takesItem 67 = .ok (.invokevirtual 260, 3) := by decide +kernel
theorem dX9_takesItem_70 : decode cX9_takesItem 70 = .ok (.ireturn, 1) := by decide +kernel
theorem dX9_takesItem_71 : decode cX9_takesItem 71 = .ok (.aload_n 0, 1) := by decide +kernel
theorem dX9_takesItem_72 : decode cX9_takesItem 72 = .ok (.iconst 2, 1) := by decide +kernel
theorem dX9_takesItem_73 : decode cX9_takesItem 73 = .ok (.bipush 103, 2) := by decide +kernel
theorem dX9_takesItem_75 : decode cX9_takesItem 75 = .ok (.bipush 111, 2) := by decide +kernel
theorem dX9_takesItem_77 : decode cX9_takesItem 77 = .ok (.iconst 0, 1) := by decide +kernel
theorem dX9_takesItem_78 : decode cX9_takesItem 78 = .ok (.iconst 0, 1) := by decide +kernel
theorem dX9_takesItem_79 : decode cX9_takesItem 79 = .ok (.iconst 0, 1) := by decide +kernel
theorem dX9_takesItem_80 : decode cX9_takesItem 80 = .ok (.iconst 0, 1) := by decide +kernel
theorem dX9_takesItem_81 : decode cX9_takesItem 81 = .ok (.invokevirtual 249, 3) := by decide +kernel
theorem dX9_takesItem_84 : decode cX9_takesItem 84 = .ok (.ifCond .eq 14, 3) := by decide +kernel
theorem dX9_takesItem_87 : decode cX9_takesItem 87 = .ok (.aload_n 0, 1) := by decide +kernel
theorem dX9_takesItem_88 : decode cX9_takesItem 88 = .ok (.invokevirtual 263, 3) := by decide +kernel
theorem dX9_takesItem_91 : decode cX9_takesItem 91 = .ok (.ifCond .eq 7, 3) := by decide +kernel
theorem dX9_takesItem_94 : decode cX9_takesItem 94 = .ok (.iconst 1, 1) := by decide +kernel
theorem dX9_takesItem_95 : decode cX9_takesItem 95 = .ok (.goto 4, 3) := by decide +kernel
theorem dX9_takesItem_98 : decode cX9_takesItem 98 = .ok (.iconst 0, 1) := by decide +kernel
theorem dX9_takesItem_99 : decode cX9_takesItem 99 = .ok (.ireturn, 1) := by decide +kernel
theorem dX9_read_0 : decode cX9_read 0 = .ok (.aload_n 0, 1) := by decide +kernel
theorem dX9_read_1 : decode cX9_read 1 = .ok (.iconst 0, 1) := by decide +kernel
theorem dX9_read_2 : decode cX9_read 2 = .ok (.invokevirtual 238, 3) := by decide +kernel
theorem dX9_read_5 : decode cX9_read 5 = .ok (.aload_n 0, 1) := by decide +kernel
theorem dX9_read_6 : decode cX9_read 6 = .ok (.iconst 5, 1) := by decide +kernel
theorem dX9_read_7 : decode cX9_read 7 = .ok (.bipush 114, 2) := by decide +kernel
theorem dX9_read_9 : decode cX9_read 9 = .ok (.bipush 111, 2) := by decide +kernel
theorem dX9_read_11 : decode cX9_read 11 = .ok (.bipush 117, 2) := by decide +kernel
theorem dX9_read_13 : decode cX9_read 13 = .ok (.bipush 110, 2) := by decide +kernel
theorem dX9_read_15 : decode cX9_read 15 = .ok (.bipush 100, 2) := by decide +kernel
theorem dX9_read_17 : decode cX9_read 17 = .ok (.iconst 0, 1) := by decide +kernel
theorem dX9_read_18 : decode cX9_read 18 = .ok (.invokevirtual 249, 3) := by decide +kernel
theorem dX9_read_21 : decode cX9_read 21 = .ok (.ifCond .ne 11, 3) := by decide +kernel
theorem dX9_read_24 : decode cX9_read 24 = .ok (.bipush (-10), 2) := by decide +kernel
theorem dX9_read_26 : decode cX9_read 26 = .ok (.aload_n 0, 1) := by decide +kernel
theorem dX9_read_27 : decode cX9_read 27 = .ok (.getfield 220, 3) := by decide +kernel
theorem dX9_read_30 : decode cX9_read 30 = .ok (.isub, 1) := by decide +kernel
theorem dX9_read_31 : decode cX9_read 31 = .ok (.ireturn, 1) := by decide +kernel
theorem dX9_read_32 : decode cX9_read 32 = .ok (.aload_n 0, 1) := by decide +kernel
theorem dX9_read_33 : decode cX9_read 33 = .ok (.invokevirtual 242, 3) := by decide +kernel
theorem dX9_read_36 : decode cX9_read 36 = .ok (.aload_n 0, 1) := by decide +kernel
theorem dX9_read_37 : decode cX9_read 37 = .ok (.iconst 0, 1) := by decide +kernel
theorem dX9_read_38 : decode cX9_read 38 = .ok (.iconst 4, 1) := by decide +kernel
theorem dX9_read_39 : decode cX9_read 39 = .ok (.bipush 12, 2) := by decide +kernel
theorem dX9_read_41 : decode cX9_read 41 = .ok (.invokevirtual 245, 3) := by decide +kernel
theorem dX9_read_44 : decode cX9_read 44 = .ok (.ifCond .eq 21, 3) := by decide +kernel
theorem dX9_read_47 : decode cX9_read 47 = .ok (.aload_n 0, 1) := by decide +kernel
theorem dX9_read_48 : decode cX9_read 48 = .ok (.iconst 1, 1) := by decide +kernel
theorem dX9_read_49 : decode cX9_read 49 = .ok (.iconst 0, 1) := by decide +kernel
theorem dX9_read_50 : decode cX9_read 50 = .ok (.iconst 3, 1) := by decide +kernel
theorem dX9_read_51 : decode cX9_read 51 = .ok (.invokevirtual 245, 3) := by decide +kernel
theorem dX9_read_54 : decode cX9_read 54 = .ok (.ifCond .eq 11, 3) := by decide +kernel
theorem dX9_read_57 : decode cX9_read 57 = .ok (.aload_n 0, 1) := by decide +kernel
theorem dX9_read_58 : decode cX9_read 58 = .ok (.getfield 226, 3) := by decide +kernel
theorem dX9_read_61 : decode cX9_read 61 = .ok (.iconst 3, 1) := by decide +kernel
theorem dX9_read_62 : decode cX9_read 62 = .ok (.if_icmp .eq 11, 3) := by decide +kernel
theorem dX9_read_65 : decode cX9_read 65 = .ok (.bipush (-10), 2) := by decide +kernel
theorem dX9_read_67 : decode cX9_read 67 = .ok (.aload_n 0, 1) := by decide +kernel
theorem dX9_read_68 : decode cX9_read 68 = .ok (.getfield 220, 3) := by decide +kernel
theorem dX9_read_71 : decode cX9_read 71 = .ok (.isub, 1) := by decide +kernel
theorem dX9_read_72 : decode cX9_read 72 = .ok (.ireturn, 1) := by decide +kernel
theorem dX9_read_73 : decode cX9_read 73 = .ok (.aload_n 0, 1) := by decide +kernel
theorem dX9_read_74 : decode cX9_read 74 = .ok (.invokevirtual 242, 3) := by decide +kernel
theorem dX9_read_77 : decode cX9_read 77 = .ok (.aload_n 0, 1) := by decide +kernel
theorem dX9_read_78 : decode cX9_read 78 = .ok (.getfield 39, 3) := by decide +kernel
theorem dX9_read_81 : decode cX9_read 81 = .ok (.aload_n 0, 1) := by decide +kernel
theorem dX9_read_82 : decode cX9_read 82 = .ok (.getfield 42, 3) := by decide +kernel
theorem dX9_read_85 : decode cX9_read 85 = .ok (.iconst 0, 1) := by decide +kernel
theorem dX9_read_86 : decode cX9_read 86 = .ok (.iaload, 1) := by decide +kernel
theorem dX9_read_87 : decode cX9_read 87 = .ok (.aload_n 0, 1) := by decide +kernel
theorem dX9_read_88 : decode cX9_read 88 = .ok (.getfield 42, 3) := by decide +kernel
theorem dX9_read_91 : decode cX9_read 91 = .ok (.iconst 1, 1) := by decide +kernel
theorem dX9_read_92 : decode cX9_read 92 = .ok (.iaload, 1) := by decide +kernel
theorem dX9_read_93 : decode cX9_read 93 = .ok (.invokestatic 45, 3) := by decide +kernel
theorem dX9_read_96 : decode cX9_read 96 = .ok (.iconst 1, 1) := by decide +kernel
theorem dX9_read_97 : decode cX9_read 97 = .ok (.istore_n 1, 1) := by decide +kernel
theorem dX9_read_98 : decode cX9_read 98 = .ok (.aload_n 0, 1) := by decide +kernel
theorem dX9_read_99 : decode cX9_read 99 = .ok (.getfield 226, 3) := by decide +kernel
theorem dX9_read_102 : decode cX9_read 102 = .ok (.ifCond .eq 36, 3) := by decide +kernel
theorem dX9_read_105 : decode cX9_read 105 = .ok (.aload_n 0, 1) := by decide +kernel
theorem dX9_read_106 : decode cX9_read 106 = .ok (.invokevirtual 266, 3) := by decide +kernel
theorem dX9_read_109 : decode cX9_read 109 = .ok (.ifCond .eq 11, 3) := by decide +kernel
theorem dX9_read_112 : decode cX9_read 112 = .ok (.aload_n 0, 1) := by decide +kernel
theorem dX9_read_113 : decode cX9_read 113 = .ok (.getfield 226, 3) := by decide +kernel
theorem dX9_read_116 : decode cX9_read 116 = .ok (.iconst 3, 1) := by decide +kernel
theorem dX9_read_117 : decode cX9_read 117 = .ok (.if_icmp .eq 11, 3) := by decide +kernel
theorem dX9_read_120 : decode cX9_read 120 = .ok (.bipush (-10), 2) := by decide +kernel
theorem dX9_read_122 : decode cX9_read 122 = .ok (.aload_n 0, 1) := by decide +kernel
theorem dX9_read_123 : decode cX9_read 123 = .ok (.getfield 220, 3) := by decide +kernel
theorem dX9_read_126 : decode cX9_read 126 = .ok (.isub, 1) := by decide +kernel
theorem dX9_read_127 : decode cX9_read 127 = .ok (.ireturn, 1) := by decide +kernel
theorem dX9_read_128 : decode cX9_read 128 = .ok (.aload_n 0, 1) := by decide +kernel
theorem dX9_read_129 : decode cX9_read 129 = .ok (.invokevirtual 242, 3) := by decide +kernel
theorem dX9_read_132 : decode cX9_read 132 = .ok (.iinc 1 1, 3) := by decide +kernel
theorem dX9_read_135 : decode cX9_read 135 = .ok (.goto (-37), 3) := by decide +kernel
theorem dX9_read_138 : decode cX9_read 138 = .ok (.iconst 0, 1) := by decide +kernel
theorem dX9_read_139 : decode cX9_read 139 = .ok (.istore_n 2, 1) := by decide +kernel
theorem dX9_read_140 : decode cX9_read 140 = .ok (.iload_n 2, 1) := by decide +kernel
theorem dX9_read_141 : decode cX9_read 141 = .ok (.sipush 138, 3) := by decide +kernel
theorem dX9_read_144 : decode cX9_read 144 = .ok (.if_icmp .ge 21, 3) := by decide +kernel
theorem dX9_read_147 : decode cX9_read 147 = .ok (.aload_n 0, 1) := by decide +kernel
theorem dX9_read_148 : decode cX9_read 148 = .ok (.getfield 7, 3) := by decide +kernel
theorem dX9_read_151 : decode cX9_read 151 = .ok (.iload_n 2, 1) := by decide +kernel
theorem dX9_read_152 : decode cX9_read 152 = .ok (.aload_n 0, 1) := by decide +kernel
theorem dX9_read_153 : decode cX9_read 153 = .ok (.getfield 39, 3) := by decide +kernel
theorem dX9_read_156 : decode cX9_read 156 = .ok (.iload_n 2, 1) := by decide +kernel
theorem dX9_read_157 : decode cX9_read 157 = .ok (.iaload, 1) := by decide +kernel
theorem dX9_read_158 : decode cX9_read 158 = .ok (.iastore, 1) := by decide +kernel
theorem dX9_read_159 : decode cX9_read 159 = .ok (.iinc 2 1, 3) := by decide +kernel
theorem dX9_read_162 : decode cX9_read 162 = .ok (.goto (-22), 3) := by decide +kernel
theorem dX9_read_165 : decode cX9_read 165 = .ok (.iload_n 1, 1) := by decide +kernel
theorem dX9_read_166 : decode cX9_read 166 = .ok (.ireturn, 1) := by decide +kernel
theorem dX9_part_0 : decode cX9_part 0 = .ok (.iload_n 1, 1) := by decide +kernel
theorem dX9_part_1 : decode cX9_part 1 = .ok (.ifCond .ne 10, 3) := by decide +kernel
theorem dX9_part_4 : decode cX9_part 4 = .ok (.aload_n 0, 1) := by decide +kernel
theorem dX9_part_5 : decode cX9_part 5 = .ok (.getfield 187, 3) := by decide +kernel
theorem dX9_part_8 : decode cX9_part 8 = .ok (.goto 22, 3) := by decide +kernel
theorem dX9_part_11 : decode cX9_part 11 = .ok (.iload_n 1, 1) := by decide +kernel
theorem dX9_part_12 : decode cX9_part 12 = .ok (.iconst 1, 1) := by decide +kernel
theorem dX9_part_13 : decode cX9_part 13 = .ok (.if_icmp .ne 10, 3) := by decide +kernel
theorem dX9_part_16 : decode cX9_part 16 = .ok (.aload_n 0, 1) := by decide +kernel
theorem dX9_part_17 : decode cX9_part 17 = .ok (.getfield 23, 3) := by decide +kernel
theorem dX9_part_20 : decode cX9_part 20 = .ok (.goto 10, 3) := by decide +kernel
theorem dX9_part_23 : decode cX9_part 23 = .ok (.aload_n 0, 1) := by decide +kernel
theorem dX9_part_24 : decode cX9_part 24 = .ok (.bipush (-2), 2) := by decide +kernel
theorem dX9_part_26 : decode cX9_part 26 = .ok (.invokevirtual 73, 3) := by decide +kernel
theorem dX9_part_29 : decode cX9_part 29 = .ok (.i2l, 1) := by decide +kernel
theorem dX9_part_30 : decode cX9_part 30 = .ok (.lreturn, 1) := by decide +kernel
theorem dX9_image_0 : decode cX9_image 0 = .ok (.iload_n 1, 1) := by decide +kernel
theorem dX9_image_1 : decode cX9_image 1 = .ok (.i2l, 1) := by decide +kernel
theorem dX9_image_2 : decode cX9_image 2 = .ok (.lconst 0, 1) := by decide +kernel
theorem dX9_image_3 : decode cX9_image 3 = .ok (.lconst 1, 1) := by decide +kernel
theorem dX9_image_4 : decode cX9_image 4 = .ok (.invokestatic 53, 3) := by decide +kernel
theorem dX9_image_7 : decode cX9_image 7 = .ok (.ifCond .ne 10, 3) := by decide +kernel
theorem dX9_image_10 : decode cX9_image 10 = .ok (.aload_n 0, 1) := by decide +kernel
theorem dX9_image_11 : decode cX9_image 11 = .ok (.bipush (-2), 2) := by decide +kernel
theorem dX9_image_13 : decode cX9_image 13 = .ok (.invokevirtual 73, 3) := by decide +kernel
theorem dX9_image_16 : decode cX9_image 16 = .ok (.ireturn, 1) := by decide +kernel
theorem dX9_image_17 : decode cX9_image 17 = .ok (.iconst 0, 1) := by decide +kernel
theorem dX9_image_18 : decode cX9_image 18 = .ok (.istore_n 2, 1) := by decide +kernel
theorem dX9_image_19 : decode cX9_image 19 = .ok (.iload_n 2, 1) := by decide +kernel
theorem dX9_image_20 : decode cX9_image 20 = .ok (.sipush 266, 3) := by decide +kernel
theorem dX9_image_23 : decode cX9_image 23 = .ok (.if_icmp .ge 27, 3) := by decide +kernel
theorem dX9_image_26 : decode cX9_image 26 = .ok (.aload_n 0, 1) := by decide +kernel
theorem dX9_image_27 : decode cX9_image 27 = .ok (.getfield 13, 3) := by decide +kernel
theorem dX9_image_30 : decode cX9_image 30 = .ok (.sipush 266, 3) := by decide +kernel
theorem dX9_image_33 : decode cX9_image 33 = .ok (.iload_n 1, 1) := by decide +kernel
theorem dX9_image_34 : decode cX9_image 34 = .ok (.imul, 1) := by decide +kernel
theorem dX9_image_35 : decode cX9_image 35 = .ok (.iload_n 2, 1) := by decide +kernel
theorem dX9_image_36 : decode cX9_image 36 = .ok (.iadd, 1) := by decide +kernel
theorem dX9_image_37 : decode cX9_image 37 = .ok (.aload_n 0, 1) := by decide +kernel
theorem dX9_image_38 : decode cX9_image 38 = .ok (.getfield 7, 3) := by decide +kernel
theorem dX9_image_41 : decode cX9_image 41 = .ok (.iload_n 2, 1) := by decide +kernel
theorem dX9_image_42 : decode cX9_image 42 = .ok (.iaload, 1) := by decide +kernel
theorem dX9_image_43 : decode cX9_image 43 = .ok (.iastore, 1) := by decide +kernel
theorem dX9_image_44 : decode cX9_image 44 = .ok (.iinc 2 1, 3) := by decide +kernel
theorem dX9_image_47 : decode cX9_image 47 = .ok (.goto (-28), 3) := by decide +kernel
theorem dX9_image_50 : decode cX9_image 50 = .ok (.aload_n 0, 1) := by decide +kernel
theorem dX9_image_51 : decode cX9_image 51 = .ok (.getfield 16, 3) := by decide +kernel
theorem dX9_image_54 : decode cX9_image 54 = .ok (.iload_n 1, 1) := by decide +kernel
theorem dX9_image_55 : decode cX9_image 55 = .ok (.iconst 1, 1) := by decide +kernel
theorem dX9_image_56 : decode cX9_image 56 = .ok (.bastore, 1) := by decide +kernel
theorem dX9_image_57 : decode cX9_image 57 = .ok (.iconst 1, 1) := by decide +kernel
theorem dX9_image_58 : decode cX9_image 58 = .ok (.ireturn, 1) := by decide +kernel
theorem dX9_from_0 : decode cX9_from 0 = .ok (.iload_n 1, 1) := by decide +kernel
theorem dX9_from_1 : decode cX9_from 1 = .ok (.i2l, 1) := by decide +kernel
theorem dX9_from_2 : decode cX9_from 2 = .ok (.lconst 0, 1) := by decide +kernel
theorem dX9_from_3 : decode cX9_from 3 = .ok (.lconst 1, 1) := by decide +kernel
theorem dX9_from_4 : decode cX9_from 4 = .ok (.invokestatic 53, 3) := by decide +kernel
theorem dX9_from_7 : decode cX9_from 7 = .ok (.ifCond .ne 10, 3) := by decide +kernel
theorem dX9_from_10 : decode cX9_from 10 = .ok (.aload_n 0, 1) := by decide +kernel
theorem dX9_from_11 : decode cX9_from 11 = .ok (.bipush (-2), 2) := by decide +kernel
theorem dX9_from_13 : decode cX9_from 13 = .ok (.invokevirtual 73, 3) := by decide +kernel
theorem dX9_from_16 : decode cX9_from 16 = .ok (.ireturn, 1) := by decide +kernel
theorem dX9_from_17 : decode cX9_from 17 = .ok (.aload_n 0, 1) := by decide +kernel
theorem dX9_from_18 : decode cX9_from 18 = .ok (.getfield 16, 3) := by decide +kernel
theorem dX9_from_21 : decode cX9_from 21 = .ok (.iload_n 1, 1) := by decide +kernel
theorem dX9_from_22 : decode cX9_from 22 = .ok (.baload, 1) := by decide +kernel
theorem dX9_from_23 : decode cX9_from 23 = .ok (.ifCond .ne 8, 3) := by decide +kernel
theorem dX9_from_26 : decode cX9_from 26 = .ok (.aload_n 0, 1) := by decide +kernel
theorem dX9_from_27 : decode cX9_from 27 = .ok (.invokevirtual 93, 3) := by decide +kernel
theorem dX9_from_30 : decode cX9_from 30 = .ok (.ireturn, 1) := by decide +kernel
theorem dX9_from_31 : decode cX9_from 31 = .ok (.iconst 0, 1) := by decide +kernel
theorem dX9_from_32 : decode cX9_from 32 = .ok (.istore_n 2, 1) := by decide +kernel
theorem dX9_from_33 : decode cX9_from 33 = .ok (.iload_n 2, 1) := by decide +kernel
theorem dX9_from_34 : decode cX9_from 34 = .ok (.sipush 266, 3) := by decide +kernel
theorem dX9_from_37 : decode cX9_from 37 = .ok (.if_icmp .ge 27, 3) := by decide +kernel
theorem dX9_from_40 : decode cX9_from 40 = .ok (.aload_n 0, 1) := by decide +kernel
theorem dX9_from_41 : decode cX9_from 41 = .ok (.getfield 7, 3) := by decide +kernel
theorem dX9_from_44 : decode cX9_from 44 = .ok (.iload_n 2, 1) := by decide +kernel
theorem dX9_from_45 : decode cX9_from 45 = .ok (.aload_n 0, 1) := by decide +kernel
theorem dX9_from_46 : decode cX9_from 46 = .ok (.getfield 13, 3) := by decide +kernel
theorem dX9_from_49 : decode cX9_from 49 = .ok (.sipush 266, 3) := by decide +kernel
theorem dX9_from_52 : decode cX9_from 52 = .ok (.iload_n 1, 1) := by decide +kernel
theorem dX9_from_53 : decode cX9_from 53 = .ok (.imul, 1) := by decide +kernel
theorem dX9_from_54 : decode cX9_from 54 = .ok (.iload_n 2, 1) := by decide +kernel
theorem dX9_from_55 : decode cX9_from 55 = .ok (.iadd, 1) := by decide +kernel
theorem dX9_from_56 : decode cX9_from 56 = .ok (.iaload, 1) := by decide +kernel
theorem dX9_from_57 : decode cX9_from 57 = .ok (.iastore, 1) := by decide +kernel
theorem dX9_from_58 : decode cX9_from 58 = .ok (.iinc 2 1, 3) := by decide +kernel
theorem dX9_from_61 : decode cX9_from 61 = .ok (.goto (-28), 3) := by decide +kernel
theorem dX9_from_64 : decode cX9_from 64 = .ok (.iconst 1, 1) := by decide +kernel
theorem dX9_from_65 : decode cX9_from 65 = .ok (.ireturn, 1) := by decide +kernel
theorem dX9_status_0 : decode cX9_status 0 = .ok (.iload_n 1, 1) := by decide +kernel
theorem dX9_status_1 : decode cX9_status 1 = .ok (.i2l, 1) := by decide +kernel
theorem dX9_status_2 : decode cX9_status 2 = .ok (.lconst 0, 1) := by decide +kernel
theorem dX9_status_3 : decode cX9_status 3 = .ok (.ldc2_w 169, 3) := by decide +kernel
theorem dX9_status_6 : decode cX9_status 6 = .ok (.invokestatic 53, 3) := by decide +kernel
theorem dX9_status_9 : decode cX9_status 9 = .ok (.ifCond .eq 12, 3) := by decide +kernel
theorem dX9_status_12 : decode cX9_status 12 = .ok (.aload_n 0, 1) := by decide +kernel
theorem dX9_status_13 : decode cX9_status 13 = .ok (.getfield 20, 3) := by decide +kernel
theorem dX9_status_16 : decode cX9_status 16 = .ok (.iload_n 1, 1) := by decide +kernel
theorem dX9_status_17 : decode cX9_status 17 = .ok (.iaload, 1) := by decide +kernel
theorem dX9_status_18 : decode cX9_status 18 = .ok (.goto 8, 3) := by decide +kernel
theorem dX9_status_21 : decode cX9_status 21 = .ok (.aload_n 0, 1) := by decide +kernel
theorem dX9_status_22 : decode cX9_status 22 = .ok (.iconst (-1), 1) := by decide +kernel
theorem dX9_status_23 : decode cX9_status 23 = .ok (.invokevirtual 73, 3) := by decide +kernel
theorem dX9_status_26 : decode cX9_status 26 = .ok (.ireturn, 1) := by decide +kernel
theorem dX9_counted_0 : decode cX9_counted 0 = .ok (.iconst 0, 1) := by decide +kernel
theorem dX9_counted_1 : decode cX9_counted 1 = .ok (.istore_n 2, 1) := by decide +kernel
theorem dX9_counted_2 : decode cX9_counted 2 = .ok (.iconst 0, 1) := by decide +kernel
theorem dX9_counted_3 : decode cX9_counted 3 = .ok (.istore_n 3, 1) := by decide +kernel
theorem dX9_counted_4 : decode cX9_counted 4 = .ok (.iload_n 3, 1) := by decide +kernel
theorem dX9_counted_5 : decode cX9_counted 5 = .ok (.aload_n 0, 1) := by decide +kernel
theorem dX9_counted_6 : decode cX9_counted 6 = .ok (.invokevirtual 49, 3) := by decide +kernel
theorem dX9_counted_9 : decode cX9_counted 9 = .ok (.if_icmp .ge 21, 3) := by decide +kernel
theorem dX9_counted_12 : decode cX9_counted 12 = .ok (.iload_n 2, 1) := by decide +kernel
theorem dX9_counted_13 : decode cX9_counted 13 = .ok (.aload_n 0, 1) := by decide +kernel
theorem dX9_counted_14 : decode cX9_counted 14 = .ok (.getfield 7, 3) := by decide +kernel
theorem dX9_counted_17 : decode cX9_counted 17 = .ok (.bipush 9, 2) := by decide +kernel
theorem dX9_counted_19 : decode cX9_counted 19 = .ok (.iload_n 3, 1) := by decide +kernel
theorem dX9_counted_20 : decode cX9_counted 20 = .ok (.iadd, 1) := by decide +kernel
theorem dX9_counted_21 : decode cX9_counted 21 = .ok (.iaload, 1) := by decide +kernel
theorem dX9_counted_22 : decode cX9_counted 22 = .ok (.iadd, 1) := by decide +kernel
theorem dX9_counted_23 : decode cX9_counted 23 = .ok (.istore_n 2, 1) := by decide +kernel
theorem dX9_counted_24 : decode cX9_counted 24 = .ok (.iinc 3 1, 3) := by decide +kernel
theorem dX9_counted_27 : decode cX9_counted 27 = .ok (.goto (-23), 3) := by decide +kernel
theorem dX9_counted_30 : decode cX9_counted 30 = .ok (.iload_n 1, 1) := by decide +kernel
theorem dX9_counted_31 : decode cX9_counted 31 = .ok (.tableswitch 112 0 11 #[61, 69, 74, 81, 89, 97, 105, 112, 112, 112, 112, 107], 61) := by decide +kernel
theorem dX9_counted_92 : decode cX9_counted 92 = .ok (.aload_n 0, 1) := by decide +kernel
theorem dX9_counted_93 : decode cX9_counted 93 = .ok (.getfield 7, 3) := by decide +kernel
theorem dX9_counted_96 : decode cX9_counted 96 = .ok (.bipush 21, 2) := by decide +kernel
theorem dX9_counted_98 : decode cX9_counted 98 = .ok (.iaload, 1) := by decide +kernel
theorem dX9_counted_99 : decode cX9_counted 99 = .ok (.ireturn, 1) := by decide +kernel
theorem dX9_counted_100 : decode cX9_counted 100 = .ok (.aload_n 0, 1) := by decide +kernel
theorem dX9_counted_101 : decode cX9_counted 101 = .ok (.invokevirtual 49, 3) := by decide +kernel
theorem dX9_counted_104 : decode cX9_counted 104 = .ok (.ireturn, 1) := by decide +kernel
theorem dX9_counted_105 : decode cX9_counted 105 = .ok (.aload_n 0, 1) := by decide +kernel
theorem dX9_counted_106 : decode cX9_counted 106 = .ok (.getfield 7, 3) := by decide +kernel
theorem dX9_counted_109 : decode cX9_counted 109 = .ok (.iconst 5, 1) := by decide +kernel
theorem dX9_counted_110 : decode cX9_counted 110 = .ok (.iaload, 1) := by decide +kernel
theorem dX9_counted_111 : decode cX9_counted 111 = .ok (.ireturn, 1) := by decide +kernel
theorem dX9_counted_112 : decode cX9_counted 112 = .ok (.aload_n 0, 1) := by decide +kernel
theorem dX9_counted_113 : decode cX9_counted 113 = .ok (.getfield 7, 3) := by decide +kernel
theorem dX9_counted_116 : decode cX9_counted 116 = .ok (.bipush 6, 2) := by decide +kernel
theorem dX9_counted_118 : decode cX9_counted 118 = .ok (.iaload, 1) := by decide +kernel
theorem dX9_counted_119 : decode cX9_counted 119 = .ok (.ireturn, 1) := by decide +kernel
theorem dX9_counted_120 : decode cX9_counted 120 = .ok (.aload_n 0, 1) := by decide +kernel
theorem dX9_counted_121 : decode cX9_counted 121 = .ok (.getfield 7, 3) := by decide +kernel
theorem dX9_counted_124 : decode cX9_counted 124 = .ok (.bipush 7, 2) := by decide +kernel
theorem dX9_counted_126 : decode cX9_counted 126 = .ok (.iaload, 1) := by decide +kernel
theorem dX9_counted_127 : decode cX9_counted 127 = .ok (.ireturn, 1) := by decide +kernel
theorem dX9_counted_128 : decode cX9_counted 128 = .ok (.aload_n 0, 1) := by decide +kernel
theorem dX9_counted_129 : decode cX9_counted 129 = .ok (.getfield 7, 3) := by decide +kernel
theorem dX9_counted_132 : decode cX9_counted 132 = .ok (.bipush 8, 2) := by decide +kernel
theorem dX9_counted_134 : decode cX9_counted 134 = .ok (.iaload, 1) := by decide +kernel
theorem dX9_counted_135 : decode cX9_counted 135 = .ok (.ireturn, 1) := by decide +kernel
theorem dX9_counted_136 : decode cX9_counted 136 = .ok (.iload_n 2, 1) := by decide +kernel
theorem dX9_counted_137 : decode cX9_counted 137 = .ok (.ireturn, 1) := by decide +kernel
theorem dX9_counted_138 : decode cX9_counted 138 = .ok (.aload_n 0, 1) := by decide +kernel
theorem dX9_counted_139 : decode cX9_counted 139 = .ok (.getfield 208, 3) := by decide +kernel
theorem dX9_counted_142 : decode cX9_counted 142 = .ok (.ireturn, 1) := by decide +kernel
theorem dX9_counted_143 : decode cX9_counted 143 = .ok (.aload_n 0, 1) := by decide +kernel
theorem dX9_counted_144 : decode cX9_counted 144 = .ok (.getfield 7, 3) := by decide +kernel
theorem dX9_counted_147 : decode cX9_counted 147 = .ok (.iconst 1, 1) := by decide +kernel
theorem dX9_counted_148 : decode cX9_counted 148 = .ok (.iload_n 1, 1) := by decide +kernel
theorem dX9_counted_149 : decode cX9_counted 149 = .ok (.iadd, 1) := by decide +kernel
theorem dX9_counted_150 : decode cX9_counted 150 = .ok (.bipush 7, 2) := by decide +kernel
theorem dX9_counted_152 : decode cX9_counted 152 = .ok (.isub, 1) := by decide +kernel
theorem dX9_counted_153 : decode cX9_counted 153 = .ok (.iaload, 1) := by decide +kernel
theorem dX9_counted_154 : decode cX9_counted 154 = .ok (.ireturn, 1) := by decide +kernel
theorem dX9_count_0 : decode cX9_count 0 = .ok (.iload_n 1, 1) := by decide +kernel
theorem dX9_count_1 : decode cX9_count 1 = .ok (.i2l, 1) := by decide +kernel
theorem dX9_count_2 : decode cX9_count 2 = .ok (.lconst 0, 1) := by decide +kernel
theorem dX9_count_3 : decode cX9_count 3 = .ok (.ldc2_w 269, 3) := by decide +kernel
theorem dX9_count_6 : decode cX9_count 6 = .ok (.invokestatic 53, 3) := by decide +kernel
theorem dX9_count_9 : decode cX9_count 9 = .ok (.ifCond .eq 11, 3) := by decide +kernel
theorem dX9_count_12 : decode cX9_count 12 = .ok (.aload_n 0, 1) := by decide +kernel
theorem dX9_count_13 : decode cX9_count 13 = .ok (.iload_n 1, 1) := by decide +kernel
theorem dX9_count_14 : decode cX9_count 14 = .ok (.invokevirtual 271, 3) := by decide +kernel
theorem dX9_count_17 : decode cX9_count 17 = .ok (.goto 9, 3) := by decide +kernel
theorem dX9_count_20 : decode cX9_count 20 = .ok (.aload_n 0, 1) := by decide +kernel
theorem dX9_count_21 : decode cX9_count 21 = .ok (.bipush (-2), 2) := by decide +kernel
theorem dX9_count_23 : decode cX9_count 23 = .ok (.invokevirtual 73, 3) := by decide +kernel
theorem dX9_count_26 : decode cX9_count 26 = .ok (.ireturn, 1) := by decide +kernel
theorem dX9_sums_0 : decode cX9_sums 0 = .ok (.lload_n 1, 1) := by decide +kernel
theorem dX9_sums_1 : decode cX9_sums 1 = .ok (.lstore 5, 2) := by decide +kernel
theorem dX9_sums_3 : decode cX9_sums 3 = .ok (.iconst 0, 1) := by decide +kernel
theorem dX9_sums_4 : decode cX9_sums 4 = .ok (.istore 7, 2) := by decide +kernel
theorem dX9_sums_6 : decode cX9_sums 6 = .ok (.iload 7, 2) := by decide +kernel
theorem dX9_sums_8 : decode cX9_sums 8 = .ok (.iload 4, 2) := by decide +kernel
theorem dX9_sums_10 : decode cX9_sums 10 = .ok (.if_icmp .ge 28, 3) := by decide +kernel
theorem dX9_sums_13 : decode cX9_sums 13 = .ok (.ldc2_w 274, 3) := by decide +kernel
theorem dX9_sums_16 : decode cX9_sums 16 = .ok (.lload 5, 2) := by decide +kernel
theorem dX9_sums_18 : decode cX9_sums 18 = .ok (.lmul, 1) := by decide +kernel
theorem dX9_sums_19 : decode cX9_sums 19 = .ok (.aload_n 0, 1) := by decide +kernel
theorem dX9_sums_20 : decode cX9_sums 20 = .ok (.getfield 7, 3) := by decide +kernel
theorem dX9_sums_23 : decode cX9_sums 23 = .ok (.iload_n 3, 1) := by decide +kernel
theorem dX9_sums_24 : decode cX9_sums 24 = .ok (.iload 7, 2) := by decide +kernel
theorem dX9_sums_26 : decode cX9_sums 26 = .ok (.iadd, 1) := by decide +kernel
theorem dX9_sums_27 : decode cX9_sums 27 = .ok (.iaload, 1) := by decide +kernel
theorem dX9_sums_28 : decode cX9_sums 28 = .ok (.i2l, 1) := by decide +kernel
theorem dX9_sums_29 : decode cX9_sums 29 = .ok (.ladd, 1) := by decide +kernel
theorem dX9_sums_30 : decode cX9_sums 30 = .ok (.lstore 5, 2) := by decide +kernel
theorem dX9_sums_32 : decode cX9_sums 32 = .ok (.iinc 7 1, 3) := by decide +kernel
theorem dX9_sums_35 : decode cX9_sums 35 = .ok (.goto (-29), 3) := by decide +kernel
theorem dX9_sums_38 : decode cX9_sums 38 = .ok (.lload 5, 2) := by decide +kernel
theorem dX9_sums_40 : decode cX9_sums 40 = .ok (.lreturn, 1) := by decide +kernel
theorem dX9_digest_0 : decode cX9_digest 0 = .ok (.ldc2_w 276, 3) := by decide +kernel
theorem dX9_digest_3 : decode cX9_digest 3 = .ok (.lstore_n 1, 1) := by decide +kernel
theorem dX9_digest_4 : decode cX9_digest 4 = .ok (.iconst 0, 1) := by decide +kernel
theorem dX9_digest_5 : decode cX9_digest 5 = .ok (.istore_n 3, 1) := by decide +kernel
theorem dX9_digest_6 : decode cX9_digest 6 = .ok (.iload_n 3, 1) := by decide +kernel
theorem dX9_digest_7 : decode cX9_digest 7 = .ok (.bipush 12, 2) := by decide +kernel
theorem dX9_digest_9 : decode cX9_digest 9 = .ok (.if_icmp .ge 22, 3) := by decide +kernel
theorem dX9_digest_12 : decode cX9_digest 12 = .ok (.ldc2_w 274, 3) := by decide +kernel
theorem dX9_digest_15 : decode cX9_digest 15 = .ok (.lload_n 1, 1) := by decide +kernel
theorem dX9_digest_16 : decode cX9_digest 16 = .ok (.lmul, 1) := by decide +kernel
theorem dX9_digest_17 : decode cX9_digest 17 = .ok (.aload_n 0, 1) := by decide +kernel
theorem dX9_digest_18 : decode cX9_digest 18 = .ok (.iload_n 3, 1) := by decide +kernel
theorem dX9_digest_19 : decode cX9_digest 19 = .ok (.invokevirtual 271, 3) := by decide +kernel
theorem dX9_digest_22 : decode cX9_digest 22 = .ok (.i2l, 1) := by decide +kernel
theorem dX9_digest_23 : decode cX9_digest 23 = .ok (.ladd, 1) := by decide +kernel
theorem dX9_digest_24 : decode cX9_digest 24 = .ok (.lstore_n 1, 1) := by decide +kernel
theorem dX9_digest_25 : decode cX9_digest 25 = .ok (.iinc 3 1, 3) := by decide +kernel
theorem dX9_digest_28 : decode cX9_digest 28 = .ok (.goto (-22), 3) := by decide +kernel
theorem dX9_digest_31 : decode cX9_digest 31 = .ok (.iconst 0, 1) := by decide +kernel
theorem dX9_digest_32 : decode cX9_digest 32 = .ok (.istore_n 3, 1) := by decide +kernel
theorem dX9_digest_33 : decode cX9_digest 33 = .ok (.iload_n 3, 1) := by decide +kernel
theorem dX9_digest_34 : decode cX9_digest 34 = .ok (.aload_n 0, 1) := by decide +kernel
theorem dX9_digest_35 : decode cX9_digest 35 = .ok (.getfield 7, 3) := by decide +kernel
theorem dX9_digest_38 : decode cX9_digest 38 = .ok (.bipush 21, 2) := by decide +kernel
theorem dX9_digest_40 : decode cX9_digest 40 = .ok (.iaload, 1) := by decide +kernel
theorem dX9_digest_41 : decode cX9_digest 41 = .ok (.if_icmp .ge 41, 3) := by decide +kernel
theorem dX9_digest_44 : decode cX9_digest 44 = .ok (.ldc2_w 274, 3) := by decide +kernel
theorem dX9_digest_47 : decode cX9_digest 47 = .ok (.ldc2_w 274, 3) := by decide +kernel
theorem dX9_digest_50 : decode cX9_digest 50 = .ok (.lload_n 1, 1) := by decide +kernel
theorem dX9_digest_51 : decode cX9_digest 51 = .ok (.lmul, 1) := by decide +kernel
theorem dX9_digest_52 : decode cX9_digest 52 = .ok (.aload_n 0, 1) := by decide +kernel
theorem dX9_digest_53 : decode cX9_digest 53 = .ok (.getfield 7, 3) := by decide +kernel
theorem dX9_digest_56 : decode cX9_digest 56 = .ok (.bipush 34, 2) := by decide +kernel
theorem dX9_digest_58 : decode cX9_digest 58 = .ok (.iload_n 3, 1) := by decide +kernel
theorem dX9_digest_59 : decode cX9_digest 59 = .ok (.iadd, 1) := by decide +kernel
theorem dX9_digest_60 : decode cX9_digest 60 = .ok (.iaload, 1) := by decide +kernel
theorem dX9_digest_61 : decode cX9_digest 61 = .ok (.i2l, 1) := by decide +kernel
theorem dX9_digest_62 : decode cX9_digest 62 = .ok (.ladd, 1) := by decide +kernel
theorem dX9_digest_63 : decode cX9_digest 63 = .ok (.lmul, 1) := by decide +kernel
theorem dX9_digest_64 : decode cX9_digest 64 = .ok (.aload_n 0, 1) := by decide +kernel
theorem dX9_digest_65 : decode cX9_digest 65 = .ok (.getfield 7, 3) := by decide +kernel
theorem dX9_digest_68 : decode cX9_digest 68 = .ok (.bipush 46, 2) := by decide +kernel
theorem dX9_digest_70 : decode cX9_digest 70 = .ok (.iload_n 3, 1) := by decide +kernel
theorem dX9_digest_71 : decode cX9_digest 71 = .ok (.iadd, 1) := by decide +kernel
theorem dX9_digest_72 : decode cX9_digest 72 = .ok (.iaload, 1) := by decide +kernel
theorem dX9_digest_73 : decode cX9_digest 73 = .ok (.i2l, 1) := by decide +kernel
theorem dX9_digest_74 : decode cX9_digest 74 = .ok (.ladd, 1) := by decide +kernel
theorem dX9_digest_75 : decode cX9_digest 75 = .ok (.lstore_n 1, 1) := by decide +kernel
theorem dX9_digest_76 : decode cX9_digest 76 = .ok (.iinc 3 1, 3) := by decide +kernel
theorem dX9_digest_79 : decode cX9_digest 79 = .ok (.goto (-46), 3) := by decide +kernel
theorem dX9_digest_82 : decode cX9_digest 82 = .ok (.iconst 0, 1) := by decide +kernel
theorem dX9_digest_83 : decode cX9_digest 83 = .ok (.istore_n 3, 1) := by decide +kernel
theorem dX9_digest_84 : decode cX9_digest 84 = .ok (.iload_n 3, 1) := by decide +kernel
theorem dX9_digest_85 : decode cX9_digest 85 = .ok (.aload_n 0, 1) := by decide +kernel
theorem dX9_digest_86 : decode cX9_digest 86 = .ok (.invokevirtual 49, 3) := by decide +kernel
theorem dX9_digest_89 : decode cX9_digest 89 = .ok (.if_icmp .ge 73, 3) := by decide +kernel
theorem dX9_digest_92 : decode cX9_digest 92 = .ok (.ldc2_w 274, 3) := by decide +kernel
theorem dX9_digest_95 : decode cX9_digest 95 = .ok (.ldc2_w 274, 3) := by decide +kernel
theorem dX9_digest_98 : decode cX9_digest 98 = .ok (.lload_n 1, 1) := by decide +kernel
theorem dX9_digest_99 : decode cX9_digest 99 = .ok (.lmul, 1) := by decide +kernel
theorem dX9_digest_100 : decode cX9_digest 100 = .ok (.aload_n 0, 1) := by decide +kernel
theorem dX9_digest_101 : decode cX9_digest 101 = .ok (.getfield 7, 3) := by decide +kernel
theorem dX9_digest_104 : decode cX9_digest 104 = .ok (.bipush 22, 2) := by decide +kernel
theorem dX9_digest_106 : decode cX9_digest 106 = .ok (.iload_n 3, 1) := by decide +kernel
theorem dX9_digest_107 : decode cX9_digest 107 = .ok (.iadd, 1) := by decide +kernel
theorem dX9_digest_108 : decode cX9_digest 108 = .ok (.iaload, 1) := by decide +kernel
theorem dX9_digest_109 : decode cX9_digest 109 = .ok (.i2l, 1) := by decide +kernel
theorem dX9_digest_110 : decode cX9_digest 110 = .ok (.ladd, 1) := by decide +kernel
theorem dX9_digest_111 : decode cX9_digest 111 = .ok (.lmul, 1) := by decide +kernel
theorem dX9_digest_112 : decode cX9_digest 112 = .ok (.aload_n 0, 1) := by decide +kernel
theorem dX9_digest_113 : decode cX9_digest 113 = .ok (.getfield 7, 3) := by decide +kernel
theorem dX9_digest_116 : decode cX9_digest 116 = .ok (.bipush 28, 2) := by decide +kernel
theorem dX9_digest_118 : decode cX9_digest 118 = .ok (.iload_n 3, 1) := by decide +kernel
theorem dX9_digest_119 : decode cX9_digest 119 = .ok (.iadd, 1) := by decide +kernel
theorem dX9_digest_120 : decode cX9_digest 120 = .ok (.iaload, 1) := by decide +kernel
theorem dX9_digest_121 : decode cX9_digest 121 = .ok (.i2l, 1) := by decide +kernel
theorem dX9_digest_122 : decode cX9_digest 122 = .ok (.ladd, 1) := by decide +kernel
theorem dX9_digest_123 : decode cX9_digest 123 = .ok (.lstore_n 1, 1) := by decide +kernel
theorem dX9_digest_124 : decode cX9_digest 124 = .ok (.ldc2_w 274, 3) := by decide +kernel
theorem dX9_digest_127 : decode cX9_digest 127 = .ok (.ldc2_w 274, 3) := by decide +kernel
theorem dX9_digest_130 : decode cX9_digest 130 = .ok (.lload_n 1, 1) := by decide +kernel
theorem dX9_digest_131 : decode cX9_digest 131 = .ok (.lmul, 1) := by decide +kernel
theorem dX9_digest_132 : decode cX9_digest 132 = .ok (.aload_n 0, 1) := by decide +kernel
theorem dX9_digest_133 : decode cX9_digest 133 = .ok (.getfield 7, 3) := by decide +kernel
theorem dX9_digest_136 : decode cX9_digest 136 = .ok (.bipush 15, 2) := by decide +kernel
theorem dX9_digest_138 : decode cX9_digest 138 = .ok (.iload_n 3, 1) := by decide +kernel
theorem dX9_digest_139 : decode cX9_digest 139 = .ok (.iadd, 1) := by decide +kernel
theorem dX9_digest_140 : decode cX9_digest 140 = .ok (.iaload, 1) := by decide +kernel
theorem dX9_digest_141 : decode cX9_digest 141 = .ok (.i2l, 1) := by decide +kernel
theorem dX9_digest_142 : decode cX9_digest 142 = .ok (.ladd, 1) := by decide +kernel
theorem dX9_digest_143 : decode cX9_digest 143 = .ok (.lmul, 1) := by decide +kernel
theorem dX9_digest_144 : decode cX9_digest 144 = .ok (.aload_n 0, 1) := by decide +kernel
theorem dX9_digest_145 : decode cX9_digest 145 = .ok (.getfield 7, 3) := by decide +kernel
theorem dX9_digest_148 : decode cX9_digest 148 = .ok (.bipush 9, 2) := by decide +kernel
theorem dX9_digest_150 : decode cX9_digest 150 = .ok (.iload_n 3, 1) := by decide +kernel
theorem dX9_digest_151 : decode cX9_digest 151 = .ok (.iadd, 1) := by decide +kernel
theorem dX9_digest_152 : decode cX9_digest 152 = .ok (.iaload, 1) := by decide +kernel
theorem dX9_digest_153 : decode cX9_digest 153 = .ok (.i2l, 1) := by decide +kernel
theorem dX9_digest_154 : decode cX9_digest 154 = .ok (.ladd, 1) := by decide +kernel
theorem dX9_digest_155 : decode cX9_digest 155 = .ok (.lstore_n 1, 1) := by decide +kernel
theorem dX9_digest_156 : decode cX9_digest 156 = .ok (.iinc 3 1, 3) := by decide +kernel
theorem dX9_digest_159 : decode cX9_digest 159 = .ok (.goto (-75), 3) := by decide +kernel
theorem dX9_digest_162 : decode cX9_digest 162 = .ok (.aload_n 0, 1) := by decide +kernel
theorem dX9_digest_163 : decode cX9_digest 163 = .ok (.lload_n 1, 1) := by decide +kernel
theorem dX9_digest_164 : decode cX9_digest 164 = .ok (.bipush 58, 2) := by decide +kernel
theorem dX9_digest_166 : decode cX9_digest 166 = .ok (.iconst 4, 1) := by decide +kernel
theorem dX9_digest_167 : decode cX9_digest 167 = .ok (.aload_n 0, 1) := by decide +kernel
theorem dX9_digest_168 : decode cX9_digest 168 = .ok (.getfield 7, 3) := by decide +kernel
theorem dX9_digest_171 : decode cX9_digest 171 = .ok (.iconst 1, 1) := by decide +kernel
theorem dX9_digest_172 : decode cX9_digest 172 = .ok (.iaload, 1) := by decide +kernel
theorem dX9_digest_173 : decode cX9_digest 173 = .ok (.imul, 1) := by decide +kernel
theorem dX9_digest_174 : decode cX9_digest 174 = .ok (.invokevirtual 278, 3) := by decide +kernel
theorem dX9_digest_177 : decode cX9_digest 177 = .ok (.lstore_n 1, 1) := by decide +kernel
theorem dX9_digest_178 : decode cX9_digest 178 = .ok (.aload_n 0, 1) := by decide +kernel
theorem dX9_digest_179 : decode cX9_digest 179 = .ok (.lload_n 1, 1) := by decide +kernel
theorem dX9_digest_180 : decode cX9_digest 180 = .ok (.bipush 78, 2) := by decide +kernel
theorem dX9_digest_182 : decode cX9_digest 182 = .ok (.iconst 5, 1) := by decide +kernel
theorem dX9_digest_183 : decode cX9_digest 183 = .ok (.aload_n 0, 1) := by decide +kernel
theorem dX9_digest_184 : decode cX9_digest 184 = .ok (.getfield 7, 3) := by decide +kernel
theorem dX9_digest_187 : decode cX9_digest 187 = .ok (.iconst 2, 1) := by decide +kernel
theorem dX9_digest_188 : decode cX9_digest 188 = .ok (.iaload, 1) := by decide +kernel
theorem dX9_digest_189 : decode cX9_digest 189 = .ok (.imul, 1) := by decide +kernel
theorem dX9_digest_190 : decode cX9_digest 190 = .ok (.invokevirtual 278, 3) := by decide +kernel
theorem dX9_digest_193 : decode cX9_digest 193 = .ok (.lstore_n 1, 1) := by decide +kernel
theorem dX9_digest_194 : decode cX9_digest 194 = .ok (.aload_n 0, 1) := by decide +kernel
theorem dX9_digest_195 : decode cX9_digest 195 = .ok (.lload_n 1, 1) := by decide +kernel
theorem dX9_digest_196 : decode cX9_digest 196 = .ok (.bipush 108, 2) := by decide +kernel
theorem dX9_digest_198 : decode cX9_digest 198 = .ok (.iconst 5, 1) := by decide +kernel
theorem dX9_digest_199 : decode cX9_digest 199 = .ok (.aload_n 0, 1) := by decide +kernel
theorem dX9_digest_200 : decode cX9_digest 200 = .ok (.getfield 7, 3) := by decide +kernel
theorem dX9_digest_203 : decode cX9_digest 203 = .ok (.iconst 3, 1) := by decide +kernel
theorem dX9_digest_204 : decode cX9_digest 204 = .ok (.iaload, 1) := by decide +kernel
theorem dX9_digest_205 : decode cX9_digest 205 = .ok (.imul, 1) := by decide +kernel
theorem dX9_digest_206 : decode cX9_digest 206 = .ok (.invokevirtual 278, 3) := by decide +kernel
theorem dX9_digest_209 : decode cX9_digest 209 = .ok (.lstore_n 1, 1) := by decide +kernel
theorem dX9_digest_210 : decode cX9_digest 210 = .ok (.ldc2_w 274, 3) := by decide +kernel
theorem dX9_digest_213 : decode cX9_digest 213 = .ok (.ldc2_w 274, 3) := by decide +kernel
theorem dX9_digest_216 : decode cX9_digest 216 = .ok (.lload_n 1, 1) := by decide +kernel
theorem dX9_digest_217 : decode cX9_digest 217 = .ok (.lmul, 1) := by decide +kernel
theorem dX9_digest_218 : decode cX9_digest 218 = .ok (.aload_n 0, 1) := by decide +kernel
theorem dX9_digest_219 : decode cX9_digest 219 = .ok (.getfield 187, 3) := by decide +kernel
theorem dX9_digest_222 : decode cX9_digest 222 = .ok (.ladd, 1) := by decide +kernel
theorem dX9_digest_223 : decode cX9_digest 223 = .ok (.lmul, 1) := by decide +kernel
theorem dX9_digest_224 : decode cX9_digest 224 = .ok (.aload_n 0, 1) := by decide +kernel
theorem dX9_digest_225 : decode cX9_digest 225 = .ok (.getfield 23, 3) := by decide +kernel
theorem dX9_digest_228 : decode cX9_digest 228 = .ok (.ladd, 1) := by decide +kernel
theorem dX9_digest_229 : decode cX9_digest 229 = .ok (.lreturn, 1) := by decide +kernel
theorem dJ9_max_7cf53_0 : decode cJ9_max_7cf53 0 = .ok (.iload_n 0, 1) := by decide +kernel
theorem dJ9_max_7cf53_1 : decode cJ9_max_7cf53 1 = .ok (.iload_n 1, 1) := by decide +kernel
theorem dJ9_max_7cf53_2 : decode cJ9_max_7cf53 2 = .ok (.if_icmp .lt 7, 3) := by decide +kernel
theorem dJ9_max_7cf53_5 : decode cJ9_max_7cf53 5 = .ok (.iload_n 0, 1) := by decide +kernel
theorem dJ9_max_7cf53_6 : decode cJ9_max_7cf53 6 = .ok (.goto 4, 3) := by decide +kernel
theorem dJ9_max_7cf53_9 : decode cJ9_max_7cf53 9 = .ok (.iload_n 1, 1) := by decide +kernel
theorem dJ9_max_7cf53_10 : decode cJ9_max_7cf53 10 = .ok (.ireturn, 1) := by decide +kernel
theorem dJ9_min_7cf53_0 : decode cJ9_min_7cf53 0 = .ok (.iload_n 0, 1) := by decide +kernel
theorem dJ9_min_7cf53_1 : decode cJ9_min_7cf53 1 = .ok (.iload_n 1, 1) := by decide +kernel
theorem dJ9_min_7cf53_2 : decode cJ9_min_7cf53 2 = .ok (.if_icmp .gt 7, 3) := by decide +kernel
theorem dJ9_min_7cf53_5 : decode cJ9_min_7cf53 5 = .ok (.iload_n 0, 1) := by decide +kernel
theorem dJ9_min_7cf53_6 : decode cJ9_min_7cf53 6 = .ok (.goto 4, 3) := by decide +kernel
theorem dJ9_min_7cf53_9 : decode cJ9_min_7cf53 9 = .ok (.iload_n 1, 1) := by decide +kernel
theorem dJ9_min_7cf53_10 : decode cJ9_min_7cf53 10 = .ok (.ireturn, 1) := by decide +kernel
theorem dJ0_length_8abf5_0 : decode cJ0_length_8abf5 0 = .ok (.aload_n 0, 1) := by decide +kernel
theorem dJ0_length_8abf5_1 : decode cJ0_length_8abf5 1 = .ok (.getfield 9, 3) := by decide +kernel
theorem dJ0_length_8abf5_4 : decode cJ0_length_8abf5 4 = .ok (.arraylength, 1) := by decide +kernel
theorem dJ0_length_8abf5_5 : decode cJ0_length_8abf5 5 = .ok (.aload_n 0, 1) := by decide +kernel
theorem dJ0_length_8abf5_6 : decode cJ0_length_8abf5 6 = .ok (.invokevirtual 335, 3) := by decide +kernel
theorem dJ0_length_8abf5_9 : decode cJ0_length_8abf5 9 = .ok (.ishr, 1) := by decide +kernel
theorem dJ0_length_8abf5_10 : decode cJ0_length_8abf5 10 = .ok (.ireturn, 1) := by decide +kernel
theorem dJ0_charAt_5068e_0 : decode cJ0_charAt_5068e 0 = .ok (.aload_n 0, 1) := by decide +kernel
theorem dJ0_charAt_5068e_1 : decode cJ0_charAt_5068e 1 = .ok (.invokevirtual 492, 3) := by decide +kernel
theorem dJ0_charAt_5068e_4 : decode cJ0_charAt_5068e 4 = .ok (.ifCond .eq 12, 3) := by decide +kernel
theorem dJ0_charAt_5068e_7 : decode cJ0_charAt_5068e 7 = .ok (.aload_n 0, 1) := by decide +kernel
theorem dJ0_charAt_5068e_8 : decode cJ0_charAt_5068e 8 = .ok (.getfield 9, 3) := by decide +kernel
theorem dJ0_charAt_5068e_11 : decode cJ0_charAt_5068e 11 = .ok (.iload_n 1, 1) := by decide +kernel
theorem dJ0_charAt_5068e_12 : decode cJ0_charAt_5068e 12 = .ok (.invokestatic 495, 3) := by decide +kernel
theorem dJ0_charAt_5068e_15 : decode cJ0_charAt_5068e 15 = .ok (.ireturn, 1) := by decide +kernel
theorem dJ0_charAt_5068e_16 : decode cJ0_charAt_5068e 16 = .ok (.aload_n 0, 1) := by decide +kernel
theorem dJ0_charAt_5068e_17 : decode cJ0_charAt_5068e 17 = .ok (.getfield 9, 3) := by decide +kernel
theorem dJ0_charAt_5068e_20 : decode cJ0_charAt_5068e 20 = .ok (.iload_n 1, 1) := by decide +kernel
theorem dJ0_charAt_5068e_21 : decode cJ0_charAt_5068e 21 = .ok (.invokestatic 498, 3) := by decide +kernel
theorem dJ0_charAt_5068e_24 : decode cJ0_charAt_5068e 24 = .ok (.ireturn, 1) := by decide +kernel
theorem dJ0_coder_7d493_0 : decode cJ0_coder_7d493 0 = .ok (.getstatic 38, 3) := by decide +kernel
theorem dJ0_coder_7d493_3 : decode cJ0_coder_7d493 3 = .ok (.ifCond .eq 10, 3) := by decide +kernel
theorem dJ0_coder_7d493_6 : decode cJ0_coder_7d493 6 = .ok (.aload_n 0, 1) := by decide +kernel
theorem dJ0_coder_7d493_7 : decode cJ0_coder_7d493 7 = .ok (.getfield 15, 3) := by decide +kernel
theorem dJ0_coder_7d493_10 : decode cJ0_coder_7d493 10 = .ok (.goto 4, 3) := by decide +kernel
theorem dJ0_coder_7d493_13 : decode cJ0_coder_7d493 13 = .ok (.iconst 1, 1) := by decide +kernel
theorem dJ0_coder_7d493_14 : decode cJ0_coder_7d493 14 = .ok (.ireturn, 1) := by decide +kernel
