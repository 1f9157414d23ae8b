theorem dX7_in_0 : decode cX7_in 0 = .ok (.lload_n 0, 1) := by decide +kernel
theorem dX7_in_1 : decode cX7_in 1 = .ok (.lload_n 2, 1) := by decide +kernel
theorem dX7_in_2 : decode cX7_in 2 = .ok (.lcmp, 1) := by decide +kernel
theorem dX7_in_3 : decode cX7_in 3 = .ok (.ifCond .lt 14, 3) := by decide +kernel
theorem dX7_in_6 : decode cX7_in 6 = .ok (.lload_n 0, 1) := by decide +kernel
theorem dX7_in_7 : decode cX7_in 7 = .ok (.lload 4, 2) := by decide +kernel
theorem dX7_in_9 : decode cX7_in 9 = .ok (.lcmp, 1) := by decide +kernel
theorem dX7_in_10 : decode cX7_in 10 = .ok (.ifCond .gt 7, 3) := by decide +kernel
theorem dX7_in_13 : decode cX7_in 13 = .ok (.iconst 1, 1) := by decide +kernel
theorem dX7_in_14 : decode cX7_in 14 = .ok (.goto 4, 3) := by decide +kernel
theorem dX7_in_17 : decode cX7_in 17 = .ok (.iconst 0, 1) := by decide +kernel
theorem dX7_in_18 : decode cX7_in 18 = .ok (.ireturn, 1) := by decide +kernel
theorem dX7_found_0 : decode cX7_found 0 = .ok (.aload_n 0, 1) := by decide +kernel
theorem dX7_found_1 : decode cX7_found 1 = .ok (.iload_n 1, 1) := by decide +kernel
theorem dX7_found_2 : decode cX7_found 2 = .ok (.putfield 7, 3) := by decide +kernel
theorem dX7_found_5 : decode cX7_found 5 = .ok (.ldc 10, 2) := by decide +kernel
theorem dX7_found_7 : decode cX7_found 7 = .ok (.iload_n 1, 1) := by decide +kernel
theorem dX7_found_8 : decode cX7_found 8 = .ok (.isub, 1) := by decide +kernel
theorem dX7_found_9 : decode cX7_found 9 = .ok (.ireturn, 1) := by decide +kernel
theorem dX7_isPrime_0 : decode cX7_isPrime 0 = .ok (.iload_n 0, 1) := by decide +kernel
theorem dX7_isPrime_1 : decode cX7_isPrime 1 = .ok (.iconst 1, 1) := by decide +kernel
theorem dX7_isPrime_2 : decode cX7_isPrime 2 = .ok (.if_icmp .le 7, 3) := by decide +kernel
theorem dX7_isPrime_5 : decode cX7_isPrime 5 = .ok (.iconst 1, 1) := by decide +kernel
theorem dX7_isPrime_6 : decode cX7_isPrime 6 = .ok (.goto 4, 3) := by decide +kernel
theorem dX7_isPrime_9 : decode cX7_isPrime 9 = .ok (.iconst 0, 1) := by decide +kernel
theorem dX7_isPrime_10 : decode cX7_isPrime 10 = .ok (.istore_n 1, 1) := by decide +kernel
theorem dX7_isPrime_11 : decode cX7_isPrime 11 = .ok (.iconst 2, 1) := by decide +kernel
theorem dX7_isPrime_12 : decode cX7_isPrime 12 = .ok (.istore_n 2, 1) := by decide +kernel
theorem dX7_isPrime_13 : decode cX7_isPrime 13 = .ok (.iload_n 2, 1) := by decide +kernel
theorem dX7_isPrime_14 : decode cX7_isPrime 14 = .ok (.iload_n 0, 1) := by decide +kernel
theorem dX7_isPrime_15 : decode cX7_isPrime 15 = .ok (.if_icmp .ge 25, 3) := by decide +kernel
theorem dX7_isPrime_18 : decode cX7_isPrime 18 = .ok (.iload_n 1, 1) := by decide +kernel
theorem dX7_isPrime_19 : decode cX7_isPrime 19 = .ok (.ifCond .eq 21, 3) := by decide +kernel
theorem dX7_isPrime_22 : decode cX7_isPrime 22 = .ok (.iload_n 0, 1) := by decide +kernel
theorem dX7_isPrime_23 : decode cX7_isPrime 23 = .ok (.iload_n 2, 1) := by decide +kernel
theorem dX7_isPrime_24 : decode cX7_isPrime 24 = .ok (.irem, 1) := by decide +kernel
theorem dX7_isPrime_25 : decode cX7_isPrime 25 = .ok (.ifCond .eq 7, 3) := by decide +kernel
theorem dX7_isPrime_28 : decode cX7_isPrime 28 = .ok (.iconst 1, 1) := by decide +kernel
theorem dX7_isPrime_29 : decode cX7_isPrime 29 = .ok (.goto 4, 3) := by decide +kernel
theorem dX7_isPrime_32 : decode cX7_isPrime 32 = .ok (.iconst 0, 1) := by decide +kernel
theorem dX7_isPrime_33 : decode cX7_isPrime 33 = .ok (.istore_n 1, 1) := by decide +kernel
theorem dX7_isPrime_34 : decode cX7_isPrime 34 = .ok (.iinc 2 1, 3) := by decide +kernel
theorem dX7_isPrime_37 : decode cX7_isPrime 37 = .ok (.goto (-24), 3) := by decide +kernel
theorem dX7_isPrime_40 : decode cX7_isPrime 40 = .ok (.iload_n 1, 1) := by decide +kernel
theorem dX7_isPrime_41 : decode cX7_isPrime 41 = .ok (.ireturn, 1) := by decide +kernel
theorem dX7_init_0 : decode cX7_init 0 = .ok (.aload_n 0, 1) := by decide +kernel
theorem dX7_init_1 : decode cX7_init 1 = .ok (.invokespecial 11, 3) := by decide +kernel
theorem dX7_init_4 : decode cX7_init 4 = .ok (.aload_n 0, 1) := by decide +kernel
theorem dX7_init_5 : decode cX7_init 5 = .ok (.bipush 8, 2) := by decide +kernel
theorem dX7_init_7 : decode cX7_init 7 = .ok (.newarray .int, 2) := by decide +kernel
theorem dX7_init_9 : decode cX7_init 9 = .ok (.dup, 1) := by decide +kernel
theorem dX7_init_10 : decode cX7_init 10 = .ok (.iconst 0, 1) := by decide +kernel
theorem dX7_init_11 : decode cX7_init 11 = .ok (.iconst (-1), 1) := by decide +kernel
theorem dX7_init_12 : decode cX7_init 12 = .ok (.iastore, 1) := by decide +kernel
theorem dX7_init_13 : decode cX7_init 13 = .ok (.dup, 1) := by decide +kernel
theorem dX7_init_14 : decode cX7_init 14 = .ok (.iconst 1, 1) := by decide +kernel
theorem dX7_init_15 : decode cX7_init 15 = .ok (.iconst (-1), 1) := by decide +kernel
theorem dX7_init_16 : decode cX7_init 16 = .ok (.iastore, 1) := by decide +kernel
theorem dX7_init_17 : decode cX7_init 17 = .ok (.dup, 1) := by decide +kernel
theorem dX7_init_18 : decode cX7_init 18 = .ok (.iconst 2, 1) := by decide +kernel
theorem dX7_init_19 : decode cX7_init 19 = .ok (.iconst (-1), 1) := by decide +kernel
theorem dX7_init_20 : decode cX7_init 20 = .ok (.iastore, 1) := by decide +kernel
theorem dX7_init_21 : decode cX7_init 21 = .ok (.dup, 1) := by decide +kernel
theorem dX7_init_22 : decode cX7_init 22 = .ok (.iconst 3, 1) := by decide +kernel
theorem dX7_init_23 : decode cX7_init 23 = .ok (.iconst (-1), 1) := by decide +kernel
theorem dX7_init_24 : decode cX7_init 24 = .ok (.iastore, 1) := by decide +kernel
theorem dX7_init_25 : decode cX7_init 25 = .ok (.dup, 1) := by decide +kernel
theorem dX7_init_26 : decode cX7_init 26 = .ok (.iconst 4, 1) := by decide +kernel
theorem dX7_init_27 : decode cX7_init 27 = .ok (.iconst (-1), 1) := by decide +kernel
theorem dX7_init_28 : decode cX7_init 28 = .ok (.iastore, 1) := by decide +kernel
theorem dX7_init_29 : decode cX7_init 29 = .ok (.dup, 1) := by decide +kernel
theorem dX7_init_30 : decode cX7_init 30 = .ok (.iconst 5, 1) := by decide +kernel
theorem dX7_init_31 : decode cX7_init 31 = .ok (.iconst (-1), 1) := by decide +kernel
theorem dX7_init_32 : decode cX7_init 32 = .ok (.iastore, 1) := by decide +kernel
theorem dX7_init_33 : decode cX7_init 33 = .ok (.dup, 1) := by decide +kernel
theorem dX7_init_34 : decode cX7_init 34 = .ok (.bipush 6, 2) := by decide +kernel
theorem dX7_init_36 : decode cX7_init 36 = .ok (.iconst (-1), 1) := by decide +kernel
theorem dX7_init_37 : decode cX7_init 37 = .ok (.iastore, 1) := by decide +kernel
theorem dX7_init_38 : decode cX7_init 38 = .ok (.dup, 1) := by decide +kernel
theorem dX7_init_39 : decode cX7_init 39 = .ok (.bipush 7, 2) := by decide +kernel
theorem dX7_init_41 : decode cX7_init 41 = .ok (.iconst (-1), 1) := by decide +kernel
theorem dX7_init_42 : decode cX7_init 42 = .ok (.iastore, 1) := by decide +kernel
theorem dX7_init_43 : decode cX7_init 43 = .ok (.putfield 17, 3) := by decide +kernel
theorem dX7_init_46 : decode cX7_init 46 = .ok (.aload_n 0, 1) := by decide +kernel
theorem dX7_init_47 : decode cX7_init 47 = .ok (.bipush 8, 2) := by decide +kernel
theorem dX7_init_49 : decode cX7_init 49 = .ok (.newarray .int, 2) := by decide +kernel
theorem dX7_init_51 : decode cX7_init 51 = .ok (.putfield 21, 3) := by decide +kernel
theorem dX7_init_54 : decode cX7_init 54 = .ok (.aload_n 0, 1) := by decide +kernel
theorem dX7_init_55 : decode cX7_init 55 = .ok (.sipush 320, 3) := by decide +kernel
theorem dX7_init_58 : decode cX7_init 58 = .ok (.newarray .long, 2) := by decide +kernel
theorem dX7_init_60 : decode cX7_init 60 = .ok (.putfield 24, 3) := by decide +kernel
theorem dX7_init_63 : decode cX7_init 63 = .ok (.aload_n 0, 1) := by decide +kernel
theorem dX7_init_64 : decode cX7_init 64 = .ok (.bipush 10, 2) := by decide +kernel
theorem dX7_init_66 : decode cX7_init 66 = .ok (.newarray .int, 2) := by decide +kernel
theorem dX7_init_68 : decode cX7_init 68 = .ok (.dup, 1) := by decide +kernel
theorem dX7_init_69 : decode cX7_init 69 = .ok (.iconst 0, 1) := by decide +kernel
theorem dX7_init_70 : decode cX7_init 70 = .ok (.iconst (-1), 1) := by decide +kernel
theorem dX7_init_71 : decode cX7_init 71 = .ok (.iastore, 1) := by decide +kernel
theorem dX7_init_72 : decode cX7_init 72 = .ok (.dup, 1) := by decide +kernel
theorem dX7_init_73 : decode cX7_init 73 = .ok (.iconst 1, 1) := by decide +kernel
theorem dX7_init_74 : decode cX7_init 74 = .ok (.iconst (-1), 1) := by decide +kernel
theorem dX7_init_75 : decode cX7_init 75 = .ok (.iastore, 1) := by decide +kernel
theorem dX7_init_76 : decode cX7_init 76 = .ok (.dup, 1) := by decide +kernel
theorem dX7_init_77 : decode cX7_init 77 = .ok (.iconst 2, 1) := by decide +kernel
theorem dX7_init_78 : decode cX7_init 78 = .ok (.iconst (-1), 1) := by decide +kernel
theorem dX7_init_79 : decode cX7_init 79 = .ok (.iastore, 1) := by decide +kernel
theorem dX7_init_80 : decode cX7_init 80 = .ok (.dup, 1) := by decide +kernel
theorem dX7_init_81 : decode cX7_init 81 = .ok (.iconst 3, 1) := by decide +kernel
theorem dX7_init_82 : decode cX7_init 82 = .ok (.iconst (-1), 1) := by decide +kernel
theorem dX7_init_83 : decode cX7_init 83 = .ok (.iastore, 1) := by decide +kernel
theorem dX7_init_84 : decode cX7_init 84 = .ok (.dup, 1) := by decide +kernel
theorem dX7_init_85 : decode cX7_init 85 = .ok (.iconst 4, 1) := by decide +kernel
theorem dX7_init_86 : decode cX7_init 86 = .ok (.iconst (-1), 1) := by decide +kernel
theorem dX7_init_87 : decode cX7_init 87 = .ok (.iastore, 1) := by decide +kernel
theorem dX7_init_88 : decode cX7_init 88 = .ok (.dup, 1) := by decide +kernel
theorem dX7_init_89 : decode cX7_init 89 = .ok (.iconst 5, 1) := by decide +kernel
theorem dX7_init_90 : decode cX7_init 90 = .ok (.iconst (-1), 1) := by decide +kernel
theorem dX7_init_91 : decode cX7_init 91 = .ok (.iastore, 1) := by decide +kernel
theorem dX7_init_92 : decode cX7_init 92 = .ok (.dup, 1) := by decide +kernel
theorem dX7_init_93 : decode cX7_init 93 = .ok (.bipush 6, 2) := by decide +kernel
theorem dX7_init_95 : decode cX7_init 95 = .ok (.iconst (-1), 1) := by decide +kernel
theorem dX7_init_96 : decode cX7_init 96 = .ok (.iastore, 1) := by decide +kernel
theorem dX7_init_97 : decode cX7_init 97 = .ok (.dup, 1) := by decide +kernel
theorem dX7_init_98 : decode cX7_init 98 = .ok (.bipush 7, 2) := by decide +kernel
theorem dX7_init_100 : decode cX7_init 100 = .ok (.iconst (-1), 1) := by decide +kernel
theorem dX7_init_101 : decode cX7_init 101 = .ok (.iastore, 1) := by decide +kernel
theorem dX7_init_102 : decode cX7_init 102 = .ok (.dup, 1) := by decide +kernel
theorem dX7_init_103 : decode cX7_init 103 = .ok (.bipush 8, 2) := by decide +kernel
theorem dX7_init_105 : decode cX7_init 105 = .ok (.iconst (-1), 1) := by decide +kernel
theorem dX7_init_106 : decode cX7_init 106 = .ok (.iastore, 1) := by decide +kernel
theorem dX7_init_107 : decode cX7_init 107 = .ok (.dup, 1) := by decide +kernel
theorem dX7_init_108 : decode cX7_init 108 = .ok (.bipush 9, 2) := by decide +kernel
theorem dX7_init_110 : decode cX7_init 110 = .ok (.iconst (-1), 1) := by decide +kernel
theorem dX7_init_111 : decode cX7_init 111 = .ok (.iastore, 1) := by decide +kernel
theorem dX7_init_112 : decode cX7_init 112 = .ok (.putfield 28, 3) := by decide +kernel
theorem dX7_init_115 : decode cX7_init 115 = .ok (.aload_n 0, 1) := by decide +kernel
theorem dX7_init_116 : decode cX7_init 116 = .ok (.bipush 50, 2) := by decide +kernel
theorem dX7_init_118 : decode cX7_init 118 = .ok (.newarray .int, 2) := by decide +kernel
theorem dX7_init_120 : decode cX7_init 120 = .ok (.putfield 31, 3) := by decide +kernel
theorem dX7_init_123 : decode cX7_init 123 = .ok (.aload_n 0, 1) := by decide +kernel
theorem dX7_init_124 : decode cX7_init 124 = .ok (.iconst 5, 1) := by decide +kernel
theorem dX7_init_125 : decode cX7_init 125 = .ok (.newarray .int, 2) := by decide +kernel
theorem dX7_init_127 : decode cX7_init 127 = .ok (.putfield 34, 3) := by decide +kernel
theorem dX7_init_130 : decode cX7_init 130 = .ok (.aload_n 0, 1) := by decide +kernel
theorem dX7_init_131 : decode cX7_init 131 = .ok (.iconst 5, 1) := by decide +kernel
theorem dX7_init_132 : decode cX7_init 132 = .ok (.newarray .int, 2) := by decide +kernel
theorem dX7_init_134 : decode cX7_init 134 = .ok (.putfield 37, 3) := by decide +kernel
theorem dX7_init_137 : decode cX7_init 137 = .ok (.aload_n 0, 1) := by decide +kernel
theorem dX7_init_138 : decode cX7_init 138 = .ok (.iconst 5, 1) := by decide +kernel
theorem dX7_init_139 : decode cX7_init 139 = .ok (.newarray .int, 2) := by decide +kernel
theorem dX7_init_141 : decode cX7_init 141 = .ok (.putfield 40, 3) := by decide +kernel
theorem dX7_init_144 : decode cX7_init 144 = .ok (.aload_n 0, 1) := by decide +kernel
theorem dX7_init_145 : decode cX7_init 145 = .ok (.sipush 200, 3) := by decide +kernel
theorem dX7_init_148 : decode cX7_init 148 = .ok (.newarray .int, 2) := by decide +kernel
theorem dX7_init_150 : decode cX7_init 150 = .ok (.putfield 43, 3) := by decide +kernel
theorem dX7_init_153 : decode cX7_init 153 = .ok (.aload_n 0, 1) := by decide +kernel
theorem dX7_init_154 : decode cX7_init 154 = .ok (.sipush 200, 3) := by decide +kernel
theorem dX7_init_157 : decode cX7_init 157 = .ok (.newarray .int, 2) := by decide +kernel
theorem dX7_init_159 : decode cX7_init 159 = .ok (.putfield 46, 3) := by decide +kernel
theorem dX7_init_162 : decode cX7_init 162 = .ok (.aload_n 0, 1) := by decide +kernel
theorem dX7_init_163 : decode cX7_init 163 = .ok (.sipush 200, 3) := by decide +kernel
theorem dX7_init_166 : decode cX7_init 166 = .ok (.newarray .int, 2) := by decide +kernel
theorem dX7_init_168 : decode cX7_init 168 = .ok (.putfield 49, 3) := by decide +kernel
theorem dX7_init_171 : decode cX7_init 171 = .ok (.aload_n 0, 1) := by decide +kernel
theorem dX7_init_172 : decode cX7_init 172 = .ok (.sipush 200, 3) := by decide +kernel
theorem dX7_init_175 : decode cX7_init 175 = .ok (.newarray .int, 2) := by decide +kernel
theorem dX7_init_177 : decode cX7_init 177 = .ok (.putfield 52, 3) := by decide +kernel
theorem dX7_init_180 : decode cX7_init 180 = .ok (.aload_n 0, 1) := by decide +kernel
theorem dX7_init_181 : decode cX7_init 181 = .ok (.sipush 200, 3) := by decide +kernel
theorem dX7_init_184 : decode cX7_init 184 = .ok (.newarray .int, 2) := by decide +kernel
theorem dX7_init_186 : decode cX7_init 186 = .ok (.putfield 55, 3) := by decide +kernel
theorem dX7_init_189 : decode cX7_init 189 = .ok (.aload_n 0, 1) := by decide +kernel
theorem dX7_init_190 : decode cX7_init 190 = .ok (.sipush 200, 3) := by decide +kernel
theorem dX7_init_193 : decode cX7_init 193 = .ok (.newarray .int, 2) := by decide +kernel
theorem dX7_init_195 : decode cX7_init 195 = .ok (.putfield 58, 3) := by decide +kernel
theorem dX7_init_198 : decode cX7_init 198 = .ok (.aload_n 0, 1) := by decide +kernel
theorem dX7_init_199 : decode cX7_init 199 = .ok (.bipush 16, 2) := by decide +kernel
theorem dX7_init_201 : decode cX7_init 201 = .ok (.newarray .int, 2) := by decide +kernel
theorem dX7_init_203 : decode cX7_init 203 = .ok (.putfield 61, 3) := by decide +kernel
theorem dX7_init_206 : decode cX7_init 206 = .ok (.aload_n 0, 1) := by decide +kernel
theorem dX7_init_207 : decode cX7_init 207 = .ok (.ldc 64, 2) := by decide +kernel
theorem dX7_init_209 : decode cX7_init 209 = .ok (.newarray .int, 2) := by decide +kernel
theorem dX7_init_211 : decode cX7_init 211 = .ok (.putfield 65, 3) := by decide +kernel
theorem dX7_init_214 : decode cX7_init 214 = .ok (.aload_n 0, 1) := by decide +kernel
theorem dX7_init_215 : decode cX7_init 215 = .ok (.bipush 65, 2) := by decide +kernel
theorem dX7_init_217 : decode cX7_init 217 = .ok (.newarray .int, 2) := by decide +kernel
theorem dX7_init_219 : decode cX7_init 219 = .ok (.putfield 68, 3) := by decide +kernel
theorem dX7_init_222 : decode cX7_init 222 = .ok (.aload_n 0, 1) := by decide +kernel
theorem dX7_init_223 : decode cX7_init 223 = .ok (.bipush 65, 2) := by decide +kernel
theorem dX7_init_225 : decode cX7_init 225 = .ok (.newarray .int, 2) := by decide +kernel
theorem dX7_init_227 : decode cX7_init 227 = .ok (.putfield 71, 3) := by decide +kernel
theorem dX7_init_230 : decode cX7_init 230 = .ok (.aload_n 0, 1) := by decide +kernel
theorem dX7_init_231 : decode cX7_init 231 = .ok (.bipush 65, 2) := by decide +kernel
theorem dX7_init_233 : decode cX7_init 233 = .ok (.newarray .int, 2) := by decide +kernel
theorem dX7_init_235 : decode cX7_init 235 = .ok (.putfield 74, 3) := by decide +kernel
theorem dX7_init_238 : decode cX7_init 238 = .ok (.aload_n 0, 1) := by decide +kernel
theorem dX7_init_239 : decode cX7_init 239 = .ok (.bipush 65, 2) := by decide +kernel
theorem dX7_init_241 : decode cX7_init 241 = .ok (.newarray .int, 2) := by decide +kernel
theorem dX7_init_243 : decode cX7_init 243 = .ok (.putfield 77, 3) := by decide +kernel
theorem dX7_init_246 : decode cX7_init 246 = .ok (.aload_n 0, 1) := by decide +kernel
theorem dX7_init_247 : decode cX7_init 247 = .ok (.sipush 455, 3) := by decide +kernel
theorem dX7_init_250 : decode cX7_init 250 = .ok (.newarray .int, 2) := by decide +kernel
theorem dX7_init_252 : decode cX7_init 252 = .ok (.putfield 80, 3) := by decide +kernel
theorem dX7_init_255 : decode cX7_init 255 = .ok (.aload_n 0, 1) := by decide +kernel
theorem dX7_init_256 : decode cX7_init 256 = .ok (.sipush 241, 3) := by decide +kernel
theorem dX7_init_259 : decode cX7_init 259 = .ok (.newarray .int, 2) := by decide +kernel
theorem dX7_init_261 : decode cX7_init 261 = .ok (.putfield 83, 3) := by decide +kernel
theorem dX7_init_264 : decode cX7_init 264 = .ok (.aload_n 0, 1) := by decide +kernel
theorem dX7_init_265 : decode cX7_init 265 = .ok (.iload_n 1, 1) := by decide +kernel
theorem dX7_init_266 : decode cX7_init 266 = .ok (.i2l, 1) := by decide +kernel
theorem dX7_init_267 : decode cX7_init 267 = .ok (.ldc2_w 86, 3) := by decide +kernel
theorem dX7_init_270 : decode cX7_init 270 = .ok (.ldc2_w 88, 3) := by decide +kernel
theorem dX7_init_273 : decode cX7_init 273 = .ok (.invokestatic 90, 3) := by decide +kernel
theorem dX7_init_276 : decode cX7_init 276 = .ok (.ifCond .eq 14, 3) := by decide +kernel
theorem dX7_init_279 : decode cX7_init 279 = .ok (.iload_n 1, 1) := by decide +kernel
theorem dX7_init_280 : decode cX7_init 280 = .ok (.invokestatic 94, 3) := by decide +kernel
theorem dX7_init_283 : decode cX7_init 283 = .ok (.ifCond .eq 7, 3) := by decide +kernel
theorem dX7_init_286 : decode cX7_init 286 = .ok (.iload_n 1, 1) := by decide +kernel
theorem dX7_init_287 : decode cX7_init 287 = .ok (.goto 5, 3) := by decide +kernel
theorem dX7_init_290 : decode cX7_init 290 = .ok (.bipush 101, 2) := by decide +kernel
theorem dX7_init_292 : decode cX7_init 292 = .ok (.putfield 98, 3) := by decide +kernel
theorem dX7_init_295 : decode cX7_init 295 = .ok (.return_, 1) := by decide +kernel
theorem dX7_isSheet_0 : decode cX7_isSheet 0 = .ok (.iload_n 0, 1) := by decide +kernel
theorem dX7_isSheet_1 : decode cX7_isSheet 1 = .ok (.i2l, 1) := by decide +kernel
theorem dX7_isSheet_2 : decode cX7_isSheet 2 = .ok (.lconst 0, 1) := by decide +kernel
theorem dX7_isSheet_3 : decode cX7_isSheet 3 = .ok (.ldc2_w 101, 3) := by decide +kernel
theorem dX7_isSheet_6 : decode cX7_isSheet 6 = .ok (.invokestatic 90, 3) := by decide +kernel
theorem dX7_isSheet_9 : decode cX7_isSheet 9 = .ok (.ireturn, 1) := by decide +kernel
theorem dX7_sheet_0 : decode cX7_sheet 0 = .ok (.aload_n 0, 1) := by decide +kernel
theorem dX7_sheet_1 : decode cX7_sheet 1 = .ok (.iconst 0, 1) := by decide +kernel
theorem dX7_sheet_2 : decode cX7_sheet 2 = .ok (.putfield 1, 3) := by decide +kernel
theorem dX7_sheet_5 : decode cX7_sheet 5 = .ok (.iload_n 1, 1) := by decide +kernel
theorem dX7_sheet_6 : decode cX7_sheet 6 = .ok (.invokestatic 103, 3) := by decide +kernel
theorem dX7_sheet_9 : decode cX7_sheet 9 = .ok (.ifCond .eq 21, 3) := by decide +kernel
theorem dX7_sheet_12 : decode cX7_sheet 12 = .ok (.iload_n 2, 1) := by decide +kernel
theorem dX7_sheet_13 : decode cX7_sheet 13 = .ok (.i2l, 1) := by decide +kernel
theorem dX7_sheet_14 : decode cX7_sheet 14 = .ok (.lconst 0, 1) := by decide +kernel
theorem dX7_sheet_15 : decode cX7_sheet 15 = .ok (.ldc2_w 106, 3) := by decide +kernel
theorem dX7_sheet_18 : decode cX7_sheet 18 = .ok (.invokestatic 90, 3) := by decide +kernel
theorem dX7_sheet_21 : decode cX7_sheet 21 = .ok (.ifCond .eq 9, 3) := by decide +kernel
theorem dX7_sheet_24 : decode cX7_sheet 24 = .ok (.iload_n 3, 1) := by decide +kernel
theorem dX7_sheet_25 : decode cX7_sheet 25 = .ok (.bipush 40, 2) := by decide +kernel
theorem dX7_sheet_27 : decode cX7_sheet 27 = .ok (.if_icmp .le 6, 3) := by decide +kernel
theorem dX7_sheet_30 : decode cX7_sheet 30 = .ok (.ldc 108, 2) := by decide +kernel
theorem dX7_sheet_32 : decode cX7_sheet 32 = .ok (.ireturn, 1) := by decide +kernel
theorem dX7_sheet_33 : decode cX7_sheet 33 = .ok (.aload_n 0, 1) := by decide +kernel
theorem dX7_sheet_34 : decode cX7_sheet 34 = .ok (.iconst 0, 1) := by decide +kernel
theorem dX7_sheet_35 : decode cX7_sheet 35 = .ok (.putfield 7, 3) := by decide +kernel
theorem dX7_sheet_38 : decode cX7_sheet 38 = .ok (.iload_n 3, 1) := by decide +kernel
theorem dX7_sheet_39 : decode cX7_sheet 39 = .ok (.ifCond .ge 9, 3) := by decide +kernel
theorem dX7_sheet_42 : decode cX7_sheet 42 = .ok (.aload_n 0, 1) := by decide +kernel
theorem dX7_sheet_43 : decode cX7_sheet 43 = .ok (.iconst 4, 1) := by decide +kernel
theorem dX7_sheet_44 : decode cX7_sheet 44 = .ok (.invokevirtual 109, 3) := by decide +kernel
theorem dX7_sheet_47 : decode cX7_sheet 47 = .ok (.ireturn, 1) := by decide +kernel
theorem dX7_sheet_48 : decode cX7_sheet 48 = .ok (.aload_n 0, 1) := by decide +kernel
theorem dX7_sheet_49 : decode cX7_sheet 49 = .ok (.getfield 17, 3) := by decide +kernel
theorem dX7_sheet_52 : decode cX7_sheet 52 = .ok (.iload_n 1, 1) := by decide +kernel
theorem dX7_sheet_53 : decode cX7_sheet 53 = .ok (.iload_n 2, 1) := by decide +kernel
theorem dX7_sheet_54 : decode cX7_sheet 54 = .ok (.iastore, 1) := by decide +kernel
theorem dX7_sheet_55 : decode cX7_sheet 55 = .ok (.aload_n 0, 1) := by decide +kernel
theorem dX7_sheet_56 : decode cX7_sheet 56 = .ok (.getfield 21, 3) := by decide +kernel
theorem dX7_sheet_59 : decode cX7_sheet 59 = .ok (.iload_n 1, 1) := by decide +kernel
theorem dX7_sheet_60 : decode cX7_sheet 60 = .ok (.iload_n 3, 1) := by decide +kernel
theorem dX7_sheet_61 : decode cX7_sheet 61 = .ok (.iastore, 1) := by decide +kernel
theorem dX7_sheet_62 : decode cX7_sheet 62 = .ok (.iconst 0, 1) := by decide +kernel
theorem dX7_sheet_63 : decode cX7_sheet 63 = .ok (.istore 4, 2) := by decide +kernel
theorem dX7_sheet_65 : decode cX7_sheet 65 = .ok (.iload 4, 2) := by decide +kernel
theorem dX7_sheet_67 : decode cX7_sheet 67 = .ok (.bipush 40, 2) := by decide +kernel
theorem dX7_sheet_69 : decode cX7_sheet 69 = .ok (.if_icmp .ge 22, 3) := by decide +kernel
theorem dX7_sheet_72 : decode cX7_sheet 72 = .ok (.aload_n 0, 1) := by decide +kernel
theorem dX7_sheet_73 : decode cX7_sheet 73 = .ok (.getfield 24, 3) := by decide +kernel
theorem dX7_sheet_76 : decode cX7_sheet 76 = .ok (.bipush 40, 2) := by decide +kernel
theorem dX7_sheet_78 : decode cX7_sheet 78 = .ok (.iload_n 1, 1) := by decide +kernel
theorem dX7_sheet_79 : decode cX7_sheet 79 = .ok (.imul, 1) := by decide +kernel
theorem dX7_sheet_80 : decode cX7_sheet 80 = .ok (.iload 4, 2) := by decide +kernel
theorem dX7_sheet_82 : decode cX7_sheet 82 = .ok (.iadd, 1) := by decide +kernel
theorem dX7_sheet_83 : decode cX7_sheet 83 = .ok (.lconst 0, 1) := by decide +kernel
theorem dX7_sheet_84 : decode cX7_sheet 84 = .ok (.lastore, 1) := by decide +kernel
theorem dX7_sheet_85 : decode cX7_sheet 85 = .ok (.iinc 4 1, 3) := by decide +kernel
theorem dX7_sheet_88 : decode cX7_sheet 88 = .ok (.goto (-23), 3) := by decide +kernel
theorem dX7_sheet_91 : decode cX7_sheet 91 = .ok (.iload_n 3, 1) := by decide +kernel
theorem dX7_sheet_92 : decode cX7_sheet 92 = .ok (.ireturn, 1) := by decide +kernel
theorem dX7_set_0 : decode cX7_set 0 = .ok (.aload_n 0, 1) := by decide +kernel
theorem dX7_set_1 : decode cX7_set 1 = .ok (.iconst 0, 1) := by decide +kernel
theorem dX7_set_2 : decode cX7_set 2 = .ok (.putfield 1, 3) := by decide +kernel
theorem dX7_set_5 : decode cX7_set 5 = .ok (.iload_n 1, 1) := by decide +kernel
theorem dX7_set_6 : decode cX7_set 6 = .ok (.invokestatic 103, 3) := by decide +kernel
theorem dX7_set_9 : decode cX7_set 9 = .ok (.ifCond .ne 7, 3) := by decide +kernel
theorem dX7_set_12 : decode cX7_set 12 = .ok (.ldc2_w 113, 3) := by decide +kernel
theorem dX7_set_15 : decode cX7_set 15 = .ok (.lreturn, 1) := by decide +kernel
theorem dX7_set_16 : decode cX7_set 16 = .ok (.aload_n 0, 1) := by decide +kernel
theorem dX7_set_17 : decode cX7_set 17 = .ok (.iconst 0, 1) := by decide +kernel
theorem dX7_set_18 : decode cX7_set 18 = .ok (.putfield 7, 3) := by decide +kernel
theorem dX7_set_21 : decode cX7_set 21 = .ok (.aload_n 0, 1) := by decide +kernel
theorem dX7_set_22 : decode cX7_set 22 = .ok (.getfield 17, 3) := by decide +kernel
theorem dX7_set_25 : decode cX7_set 25 = .ok (.iload_n 1, 1) := by decide +kernel
theorem dX7_set_26 : decode cX7_set 26 = .ok (.iaload, 1) := by decide +kernel
theorem dX7_set_27 : decode cX7_set 27 = .ok (.ifCond .ge 10, 3) := by decide +kernel
theorem dX7_set_30 : decode cX7_set 30 = .ok (.aload_n 0, 1) := by decide +kernel
theorem dX7_set_31 : decode cX7_set 31 = .ok (.iconst 1, 1) := by decide +kernel
theorem dX7_set_32 : decode cX7_set 32 = .ok (.invokevirtual 109, 3) := by decide +kernel
theorem dX7_set_35 : decode cX7_set 35 = .ok (.i2l, 1) := by decide +kernel
theorem dX7_set_36 : decode cX7_set 36 = .ok (.lreturn, 1) := by decide +kernel
theorem dX7_set_37 : decode cX7_set 37 = .ok (.iload_n 2, 1) := by decide +kernel
theorem dX7_set_38 : decode cX7_set 38 = .ok (.i2l, 1) := by decide +kernel
theorem dX7_set_39 : decode cX7_set 39 = .ok (.lconst 0, 1) := by decide +kernel
theorem dX7_set_40 : decode cX7_set 40 = .ok (.aload_n 0, 1) := by decide +kernel
theorem dX7_set_41 : decode cX7_set 41 = .ok (.getfield 21, 3) := by decide +kernel
theorem dX7_set_44 : decode cX7_set 44 = .ok (.iload_n 1, 1) := by decide +kernel
theorem dX7_set_45 : decode cX7_set 45 = .ok (.iaload, 1) := by decide +kernel
theorem dX7_set_46 : decode cX7_set 46 = .ok (.iconst 1, 1) := by decide +kernel
theorem dX7_set_47 : decode cX7_set 47 = .ok (.isub, 1) := by decide +kernel
theorem dX7_set_48 : decode cX7_set 48 = .ok (.i2l, 1) := by decide +kernel
theorem dX7_set_49 : decode cX7_set 49 = .ok (.invokestatic 90, 3) := by decide +kernel
theorem dX7_set_52 : decode cX7_set 52 = .ok (.ifCond .ne 10, 3) := by decide +kernel
theorem dX7_set_55 : decode cX7_set 55 = .ok (.aload_n 0, 1) := by decide +kernel
theorem dX7_set_56 : decode cX7_set 56 = .ok (.iconst 2, 1) := by decide +kernel
theorem dX7_set_57 : decode cX7_set 57 = .ok (.invokevirtual 109, 3) := by decide +kernel
theorem dX7_set_60 : decode cX7_set 60 = .ok (.i2l, 1) := by decide +kernel
theorem dX7_set_61 : decode cX7_set 61 = .ok (.lreturn, 1) := by decide +kernel
theorem dX7_set_62 : decode cX7_set 62 = .ok (.aload_n 0, 1) := by decide +kernel
theorem dX7_set_63 : decode cX7_set 63 = .ok (.getfield 24, 3) := by decide +kernel
theorem dX7_set_66 : decode cX7_set 66 = .ok (.bipush 40, 2) := by decide +kernel
theorem dX7_set_68 : decode cX7_set 68 = .ok (.iload_n 1, 1) := by decide +kernel
theorem dX7_set_69 : decode cX7_set 69 = .ok (.imul, 1) := by decide +kernel
theorem dX7_set_70 : decode cX7_set 70 = .ok (.iload_n 2, 1) := by decide +kernel
theorem dX7_set_71 : decode cX7_set 71 = .ok (.iadd, 1) := by decide +kernel
theorem dX7_set_72 : decode cX7_set 72 = .ok (.aload_n 0, 1) := by decide +kernel
theorem dX7_set_73 : decode cX7_set 73 = .ok (.getfield 17, 3) := by decide +kernel
theorem dX7_set_76 : decode cX7_set 76 = .ok (.iload_n 1, 1) := by decide +kernel
theorem dX7_set_77 : decode cX7_set 77 = .ok (.iaload, 1) := by decide +kernel
theorem dX7_set_78 : decode cX7_set 78 = .ok (.ifCond .ne 10, 3) := by decide +kernel
theorem dX7_set_81 : decode cX7_set 81 = .ok (.lload_n 3, 1) := by decide +kernel
theorem dX7_set_82 : decode cX7_set 82 = .ok (.l2i, 1) := by decide +kernel
theorem dX7_set_83 : decode cX7_set 83 = .ok (.i2b, 1) := by decide +kernel
theorem dX7_set_84 : decode cX7_set 84 = .ok (.i2l, 1) := by decide +kernel
theorem dX7_set_85 : decode cX7_set 85 = .ok (.goto 20, 3) := by decide +kernel
theorem dX7_set_88 : decode cX7_set 88 = .ok (.aload_n 0, 1) := by decide +kernel
theorem dX7_set_89 : decode cX7_set 89 = .ok (.getfield 17, 3) := by decide +kernel
theorem dX7_set_92 : decode cX7_set 92 = .ok (.iload_n 1, 1) := by decide +kernel
theorem dX7_set_93 : decode cX7_set 93 = .ok (.iaload, 1) := by decide +kernel
theorem dX7_set_94 : decode cX7_set 94 = .ok (.iconst 1, 1) := by decide +kernel
theorem dX7_set_95 : decode cX7_set 95 = .ok (.if_icmp .ne 9, 3) := by decide +kernel
theorem dX7_set_98 : decode cX7_set 98 = .ok (.lload_n 3, 1) := by decide +kernel
theorem dX7_set_99 : decode cX7_set 99 = .ok (.l2i, 1) := by decide +kernel
theorem dX7_set_100 : decode cX7_set 100 = .ok (.i2l, 1) := by decide +kernel
theorem dX7_set_101 : decode cX7_set 101 = .ok (.goto 4, 3) := by decide +kernel
theorem dX7_set_104 : decode cX7_set 104 = .ok (.lload_n 3, 1) := by decide +kernel
theorem dX7_set_105 : decode cX7_set 105 = .ok (.lastore, 1) := by decide +kernel
theorem dX7_set_106 : decode cX7_set 106 = .ok (.aload_n 0, 1) := by decide +kernel
theorem dX7_set_107 : decode cX7_set 107 = .ok (.getfield 24, 3) := by decide +kernel
theorem dX7_set_110 : decode cX7_set 110 = .ok (.bipush 40, 2) := by decide +kernel
theorem dX7_set_112 : decode cX7_set 112 = .ok (.iload_n 1, 1) := by decide +kernel
theorem dX7_set_113 : decode cX7_set 113 = .ok (.imul, 1) := by decide +kernel
theorem dX7_set_114 : decode cX7_set 114 = .ok (.iload_n 2, 1) := by decide +kernel
theorem dX7_set_115 : decode cX7_set 115 = .ok (.iadd, 1) := by decide +kernel
theorem dX7_set_116 : decode cX7_set 116 = .ok (.laload, 1) := by decide +kernel
theorem dX7_set_117 : decode cX7_set 117 = .ok (.lreturn, 1) := by decide +kernel
theorem dX7_copy_0 : decode cX7_copy 0 = .ok (.aload_n 0, 1) := by decide +kernel
theorem dX7_copy_1 : decode cX7_copy 1 = .ok (.iconst 0, 1) := by decide +kernel
theorem dX7_copy_2 : decode cX7_copy 2 = .ok (.putfield 1, 3) := by decide +kernel
theorem dX7_copy_5 : decode cX7_copy 5 = .ok (.iload_n 1, 1) := by decide +kernel
theorem dX7_copy_6 : decode cX7_copy 6 = .ok (.invokestatic 103, 3) := by decide +kernel
theorem dX7_copy_9 : decode cX7_copy 9 = .ok (.ifCond .eq 10, 3) := by decide +kernel
theorem dX7_copy_12 : decode cX7_copy 12 = .ok (.iload_n 3, 1) := by decide +kernel
theorem dX7_copy_13 : decode cX7_copy 13 = .ok (.invokestatic 103, 3) := by decide +kernel
theorem dX7_copy_16 : decode cX7_copy 16 = .ok (.ifCond .ne 6, 3) := by decide +kernel
theorem dX7_copy_19 : decode cX7_copy 19 = .ok (.ldc 108, 2) := by decide +kernel
theorem dX7_copy_21 : decode cX7_copy 21 = .ok (.ireturn, 1) := by decide +kernel
theorem dX7_copy_22 : decode cX7_copy 22 = .ok (.aload_n 0, 1) := by decide +kernel
theorem dX7_copy_23 : decode cX7_copy 23 = .ok (.iconst 0, 1) := by decide +kernel
theorem dX7_copy_24 : decode cX7_copy 24 = .ok (.putfield 7, 3) := by decide +kernel
theorem dX7_copy_27 : decode cX7_copy 27 = .ok (.aload_n 0, 1) := by decide +kernel
theorem dX7_copy_28 : decode cX7_copy 28 = .ok (.getfield 17, 3) := by decide +kernel
theorem dX7_copy_31 : decode cX7_copy 31 = .ok (.iload_n 1, 1) := by decide +kernel
theorem dX7_copy_32 : decode cX7_copy 32 = .ok (.iaload, 1) := by decide +kernel
theorem dX7_copy_33 : decode cX7_copy 33 = .ok (.ifCond .lt 12, 3) := by decide +kernel
theorem dX7_copy_36 : decode cX7_copy 36 = .ok (.aload_n 0, 1) := by decide +kernel
theorem dX7_copy_37 : decode cX7_copy 37 = .ok (.getfield 17, 3) := by decide +kernel
theorem dX7_copy_40 : decode cX7_copy 40 = .ok (.iload_n 3, 1) := by decide +kernel
theorem dX7_copy_41 : decode cX7_copy 41 = .ok (.iaload, 1) := by decide +kernel
theorem dX7_copy_42 : decode cX7_copy 42 = .ok (.ifCond .ge 9, 3) := by decide +kernel
theorem dX7_copy_45 : decode cX7_copy 45 = .ok (.aload_n 0, 1) := by decide +kernel
theorem dX7_copy_46 : decode cX7_copy 46 = .ok (.iconst 1, 1) := by decide +kernel
theorem dX7_copy_47 : decode cX7_copy 47 = .ok (.invokevirtual 109, 3) := by decide +kernel
theorem dX7_copy_50 : decode cX7_copy 50 = .ok (.ireturn, 1) := by decide +kernel
theorem dX7_copy_51 : decode cX7_copy 51 = .ok (.aload_n 0, 1) := by decide +kernel
theorem dX7_copy_52 : decode cX7_copy 52 = .ok (.getfield 17, 3) := by decide +kernel
theorem dX7_copy_55 : decode cX7_copy 55 = .ok (.iload_n 1, 1) := by decide +kernel
theorem dX7_copy_56 : decode cX7_copy 56 = .ok (.iaload, 1) := by decide +kernel
theorem dX7_copy_57 : decode cX7_copy 57 = .ok (.aload_n 0, 1) := by decide +kernel
theorem dX7_copy_58 : decode cX7_copy 58 = .ok (.getfield 17, 3) := by decide +kernel
theorem dX7_copy_61 : decode cX7_copy 61 = .ok (.iload_n 3, 1) := by decide +kernel
theorem dX7_copy_62 : decode cX7_copy 62 = .ok (.iaload, 1) := by decide +kernel
theorem dX7_copy_63 : decode cX7_copy 63 = .ok (.if_icmp .eq 9, 3) := by decide +kernel
theorem dX7_copy_66 : decode cX7_copy 66 = .ok (.aload_n 0, 1) := by decide +kernel
theorem dX7_copy_67 : decode cX7_copy 67 = .ok (.iconst 5, 1) := by decide +kernel
theorem dX7_copy_68 : decode cX7_copy 68 = .ok (.invokevirtual 109, 3) := by decide +kernel
theorem dX7_copy_71 : decode cX7_copy 71 = .ok (.ireturn, 1) := by decide +kernel
theorem dX7_copy_72 : decode cX7_copy 72 = .ok (.iload_n 2, 1) := by decide +kernel
theorem dX7_copy_73 : decode cX7_copy 73 = .ok (.ifCond .lt 48, 3) := by decide +kernel
theorem dX7_copy_76 : decode cX7_copy 76 = .ok (.iload 4, 2) := by decide +kernel
theorem dX7_copy_78 : decode cX7_copy 78 = .ok (.ifCond .lt 43, 3) := by decide +kernel
theorem dX7_copy_81 : decode cX7_copy 81 = .ok (.iload 5, 2) := by decide +kernel
theorem dX7_copy_83 : decode cX7_copy 83 = .ok (.ifCond .lt 38, 3) := by decide +kernel
theorem dX7_copy_86 : decode cX7_copy 86 = .ok (.iload_n 2, 1) := by decide +kernel
theorem dX7_copy_87 : decode cX7_copy 87 = .ok (.i2l, 1) := by decide +kernel
theorem dX7_copy_88 : decode cX7_copy 88 = .ok (.iload 5, 2) := by decide +kernel
theorem dX7_copy_90 : decode cX7_copy 90 = .ok (.i2l, 1) := by decide +kernel
theorem dX7_copy_91 : decode cX7_copy 91 = .ok (.ladd, 1) := by decide +kernel
theorem dX7_copy_92 : decode cX7_copy 92 = .ok (.aload_n 0, 1) := by decide +kernel
theorem dX7_copy_93 : decode cX7_copy 93 = .ok (.getfield 21, 3) := by decide +kernel
theorem dX7_copy_96 : decode cX7_copy 96 = .ok (.iload_n 1, 1) := by decide +kernel
theorem dX7_copy_97 : decode cX7_copy 97 = .ok (.iaload, 1) := by decide +kernel
theorem dX7_copy_98 : decode cX7_copy 98 = .ok (.i2l, 1) := by decide +kernel
theorem dX7_copy_99 : decode cX7_copy 99 = .ok (.lcmp, 1) := by decide +kernel
theorem dX7_copy_100 : decode cX7_copy 100 = .ok (.ifCond .gt 21, 3) := by decide +kernel
theorem dX7_copy_103 : decode cX7_copy 103 = .ok (.iload 4, 2) := by decide +kernel
theorem dX7_copy_105 : decode cX7_copy 105 = .ok (.i2l, 1) := by decide +kernel
theorem dX7_copy_106 : decode cX7_copy 106 = .ok (.iload 5, 2) := by decide +kernel
theorem dX7_copy_108 : decode cX7_copy 108 = .ok (.i2l, 1) := by decide +kernel
theorem dX7_copy_109 : decode cX7_copy 109 = .ok (.ladd, 1) := by decide +kernel
theorem dX7_copy_110 : decode cX7_copy 110 = .ok (.aload_n 0, 1) := by decide +kernel
theorem dX7_copy_111 : decode cX7_copy 111 = .ok (.getfield 21, 3) := by decide +kernel
theorem dX7_copy_114 : decode cX7_copy 114 = .ok (.iload_n 3, 1) := by decide +kernel
theorem dX7_copy_115 : decode cX7_copy 115 = .ok (.iaload, 1) := by decide +kernel
theorem dX7_copy_116 : decode cX7_copy 116 = .ok (.i2l, 1) := by decide +kernel
theorem dX7_copy_117 : decode cX7_copy 117 = .ok (.lcmp, 1) := by decide +kernel
theorem dX7_copy_118 : decode cX7_copy 118 = .ok (.ifCond .le 9, 3) := by decide +kernel
theorem dX7_copy_121 : decode cX7_copy 121 = .ok (.aload_n 0, 1) := by decide +kernel
theorem dX7_copy_122 : decode cX7_copy 122 = .ok (.iconst 2, 1) := by decide +kernel
theorem dX7_copy_123 : decode cX7_copy 123 = .ok (.invokevirtual 109, 3) := by decide +kernel
theorem dX7_copy_126 : decode cX7_copy 126 = .ok (.ireturn, 1) := by decide +kernel
theorem dX7_copy_127 : decode cX7_copy 127 = .ok (.iload_n 2, 1) := by decide +kernel
theorem dX7_copy_128 : decode cX7_copy 128 = .ok (.iload 4, 2) := by decide +kernel
theorem dX7_copy_130 : decode cX7_copy 130 = .ok (.if_icmp .lt 7, 3) := by decide +kernel
theorem dX7_copy_133 : decode cX7_copy 133 = .ok (.iconst 1, 1) := by decide +kernel
theorem dX7_copy_134 : decode cX7_copy 134 = .ok (.goto 4, 3) := by decide +kernel
theorem dX7_copy_137 : decode cX7_copy 137 = .ok (.iconst 0, 1) := by decide +kernel
theorem dX7_copy_138 : decode cX7_copy 138 = .ok (.istore 6, 2) := by decide +kernel
theorem dX7_copy_140 : decode cX7_copy 140 = .ok (.iconst 0, 1) := by decide +kernel
theorem dX7_copy_141 : decode cX7_copy 141 = .ok (.istore 7, 2) := by decide +kernel
theorem dX7_copy_143 : decode cX7_copy 143 = .ok (.iload 7, 2) := by decide +kernel
theorem dX7_copy_145 : decode cX7_copy 145 = .ok (.iload 5, 2) := by decide +kernel
theorem dX7_copy_147 : decode cX7_copy 147 = .ok (.if_icmp .ge 57, 3) := by decide +kernel
theorem dX7_copy_150 : decode cX7_copy 150 = .ok (.iload 6, 2) := by decide +kernel
theorem dX7_copy_152 : decode cX7_copy 152 = .ok (.ifCond .eq 8, 3) := by decide +kernel
theorem dX7_copy_155 : decode cX7_copy 155 = .ok (.iload 7, 2) := by decide +kernel
theorem dX7_copy_157 : decode cX7_copy 157 = .ok (.goto 10, 3) := by decide +kernel
theorem dX7_copy_160 : decode cX7_copy 160 = .ok (.iload 5, 2) := by decide +kernel
theorem dX7_copy_162 : decode cX7_copy 162 = .ok (.iconst 1, 1) := by decide +kernel
theorem dX7_copy_163 : decode cX7_copy 163 = .ok (.isub, 1) := by decide +kernel
theorem dX7_copy_164 : decode cX7_copy 164 = .ok (.iload 7, 2) := by decide +kernel
theorem dX7_copy_166 : decode cX7_copy 166 = .ok (.isub, 1) := by decide +kernel
theorem dX7_copy_167 : decode cX7_copy 167 = .ok (.istore 8, 2) := by decide +kernel
theorem dX7_copy_169 : decode cX7_copy 169 = .ok (.aload_n 0, 1) := by decide +kernel
theorem dX7_copy_170 : decode cX7_copy 170 = .ok (.getfield 24, 3) := by decide +kernel
theorem dX7_copy_173 : decode cX7_copy 173 = .ok (.bipush 40, 2) := by decide +kernel
theorem dX7_copy_175 : decode cX7_copy 175 = .ok (.iload_n 3, 1) := by decide +kernel
theorem dX7_copy_176 : decode cX7_copy 176 = .ok (.imul, 1) := by decide +kernel
theorem dX7_copy_177 : decode cX7_copy 177 = .ok (.iload 4, 2) := by decide +kernel
theorem dX7_copy_179 : decode cX7_copy 179 = .ok (.iadd, 1) := by decide +kernel
theorem dX7_copy_180 : decode cX7_copy 180 = .ok (.iload 8, 2) := by decide +kernel
theorem dX7_copy_182 : decode cX7_copy 182 = .ok (.iadd, 1) := by decide +kernel
theorem dX7_copy_183 : decode cX7_copy 183 = .ok (.aload_n 0, 1) := by decide +kernel
theorem dX7_copy_184 : decode cX7_copy 184 = .ok (.getfield 24, 3) := by decide +kernel
theorem dX7_copy_187 : decode cX7_copy 187 = .ok (.bipush 40, 2) := by decide +kernel
theorem dX7_copy_189 : decode cX7_copy 189 = .ok (.iload_n 1, 1) := by decide +kernel
theorem dX7_copy_190 : decode cX7_copy 190 = .ok (.imul, 1) := by decide +kernel
theorem dX7_copy_191 : decode cX7_copy 191 = .ok (.iload_n 2, 1) := by decide +kernel
theorem dX7_copy_192 : decode cX7_copy 192 = .ok (.iadd, 1) := by decide +kernel
theorem dX7_copy_193 : decode cX7_copy 193 = .ok (.iload 8, 2) := by decide +kernel
theorem dX7_copy_195 : decode cX7_copy 195 = .ok (.iadd, 1) := by decide +kernel
theorem dX7_copy_196 : decode cX7_copy 196 = .ok (.laload, 1) := by decide +kernel
theorem dX7_copy_197 : decode cX7_copy 197 = .ok (.lastore, 1) := by decide +kernel
theorem dX7_copy_198 : decode cX7_copy 198 = .ok (.iinc 7 1, 3) := by decide +kernel
theorem dX7_copy_201 : decode cX7_copy 201 = .ok (.goto (-58), 3) := by decide +kernel
theorem dX7_copy_204 : decode cX7_copy 204 = .ok (.iload 5, 2) := by decide +kernel
theorem dX7_copy_206 : decode cX7_copy 206 = .ok (.ireturn, 1) := by decide +kernel
theorem dX7_drop_0 : decode cX7_drop 0 = .ok (.aload_n 0, 1) := by decide +kernel
theorem dX7_drop_1 : decode cX7_drop 1 = .ok (.iconst 0, 1) := by decide +kernel
theorem dX7_drop_2 : decode cX7_drop 2 = .ok (.putfield 1, 3) := by decide +kernel
theorem dX7_drop_5 : decode cX7_drop 5 = .ok (.iload_n 1, 1) := by decide +kernel
theorem dX7_drop_6 : decode cX7_drop 6 = .ok (.invokestatic 103, 3) := by decide +kernel
theorem dX7_drop_9 : decode cX7_drop 9 = .ok (.ifCond .ne 6, 3) := by decide +kernel
theorem dX7_drop_12 : decode cX7_drop 12 = .ok (.ldc 108, 2) := by decide +kernel
theorem dX7_drop_14 : decode cX7_drop 14 = .ok (.ireturn, 1) := by decide +kernel
theorem dX7_drop_15 : decode cX7_drop 15 = .ok (.aload_n 0, 1) := by decide +kernel
theorem dX7_drop_16 : decode cX7_drop 16 = .ok (.iconst 0, 1) := by decide +kernel
theorem dX7_drop_17 : decode cX7_drop 17 = .ok (.putfield 7, 3) := by decide +kernel
theorem dX7_drop_20 : decode cX7_drop 20 = .ok (.aload_n 0, 1) := by decide +kernel
theorem dX7_drop_21 : decode cX7_drop 21 = .ok (.getfield 17, 3) := by decide +kernel
theorem dX7_drop_24 : decode cX7_drop 24 = .ok (.iload_n 1, 1) := by decide +kernel
theorem dX7_drop_25 : decode cX7_drop 25 = .ok (.iaload, 1) := by decide +kernel
theorem dX7_drop_26 : decode cX7_drop 26 = .ok (.ifCond .ge 9, 3) := by decide +kernel
theorem dX7_drop_29 : decode cX7_drop 29 = .ok (.aload_n 0, 1) := by decide +kernel
theorem dX7_drop_30 : decode cX7_drop 30 = .ok (.iconst 1, 1) := by decide +kernel
theorem dX7_drop_31 : decode cX7_drop 31 = .ok (.invokevirtual 109, 3) := by decide +kernel
theorem dX7_drop_34 : decode cX7_drop 34 = .ok (.ireturn, 1) := by decide +kernel
theorem dX7_drop_35 : decode cX7_drop 35 = .ok (.aload_n 0, 1) := by decide +kernel
theorem dX7_drop_36 : decode cX7_drop 36 = .ok (.getfield 17, 3) := by decide +kernel
theorem dX7_drop_39 : decode cX7_drop 39 = .ok (.iload_n 1, 1) := by decide +kernel
theorem dX7_drop_40 : decode cX7_drop 40 = .ok (.iconst (-1), 1) := by decide +kernel
theorem dX7_drop_41 : decode cX7_drop 41 = .ok (.iastore, 1) := by decide +kernel
theorem dX7_drop_42 : decode cX7_drop 42 = .ok (.aload_n 0, 1) := by decide +kernel
theorem dX7_drop_43 : decode cX7_drop 43 = .ok (.getfield 21, 3) := by decide +kernel
theorem dX7_drop_46 : decode cX7_drop 46 = .ok (.iload_n 1, 1) := by decide +kernel
theorem dX7_drop_47 : decode cX7_drop 47 = .ok (.iaload, 1) := by decide +kernel
theorem dX7_drop_48 : decode cX7_drop 48 = .ok (.ireturn, 1) := by decide +kernel
theorem dX7_isPlace_0 : decode cX7_isPlace 0 = .ok (.iload_n 0, 1) := by decide +kernel
theorem dX7_isPlace_1 : decode cX7_isPlace 1 = .ok (.i2l, 1) := by decide +kernel
theorem dX7_isPlace_2 : decode cX7_isPlace 2 = .ok (.lconst 0, 1) := by decide +kernel
theorem dX7_isPlace_3 : decode cX7_isPlace 3 = .ok (.ldc2_w 115, 3) := by decide +kernel
theorem dX7_isPlace_6 : decode cX7_isPlace 6 = .ok (.invokestatic 90, 3) := by decide +kernel
theorem dX7_isPlace_9 : decode cX7_isPlace 9 = .ok (.ireturn, 1) := by decide +kernel
theorem dX7_modulo_0 : decode cX7_modulo 0 = .ok (.lload_n 1, 1) := by decide +kernel
theorem dX7_modulo_1 : decode cX7_modulo 1 = .ok (.aload_n 0, 1) := by decide +kernel
theorem dX7_modulo_2 : decode cX7_modulo 2 = .ok (.getfield 98, 3) := by decide +kernel
theorem dX7_modulo_5 : decode cX7_modulo 5 = .ok (.i2l, 1) := by decide +kernel
theorem dX7_modulo_6 : decode cX7_modulo 6 = .ok (.lrem, 1) := by decide +kernel
theorem dX7_modulo_7 : decode cX7_modulo 7 = .ok (.lstore_n 3, 1) := by decide +kernel
theorem dX7_modulo_8 : decode cX7_modulo 8 = .ok (.lload_n 3, 1) := by decide +kernel
theorem dX7_modulo_9 : decode cX7_modulo 9 = .ok (.lconst 0, 1) := by decide +kernel
theorem dX7_modulo_10 : decode cX7_modulo 10 = .ok (.lcmp, 1) := by decide +kernel
theorem dX7_modulo_11 : decode cX7_modulo 11 = .ok (.ifCond .ge 13, 3) := by decide +kernel
theorem dX7_modulo_14 : decode cX7_modulo 14 = .ok (.lload_n 3, 1) := by decide +kernel
theorem dX7_modulo_15 : decode cX7_modulo 15 = .ok (.aload_n 0, 1) := by decide +kernel
theorem dX7_modulo_16 : decode cX7_modulo 16 = .ok (.getfield 98, 3) := by decide +kernel
theorem dX7_modulo_19 : decode cX7_modulo 19 = .ok (.i2l, 1) := by decide +kernel
theorem dX7_modulo_20 : decode cX7_modulo 20 = .ok (.ladd, 1) := by decide +kernel
theorem dX7_modulo_21 : decode cX7_modulo 21 = .ok (.goto 4, 3) := by decide +kernel
theorem dX7_modulo_24 : decode cX7_modulo 24 = .ok (.lload_n 3, 1) := by decide +kernel
theorem dX7_modulo_25 : decode cX7_modulo 25 = .ok (.l2i, 1) := by decide +kernel
theorem dX7_modulo_26 : decode cX7_modulo 26 = .ok (.ireturn, 1) := by decide +kernel
theorem dX7_kindOf_0 : decode cX7_kindOf 0 = .ok (.aload_n 0, 1) := by decide +kernel
theorem dX7_kindOf_1 : decode cX7_kindOf 1 = .ok (.getfield 28, 3) := by decide +kernel
theorem dX7_kindOf_4 : decode cX7_kindOf 4 = .ok (.iload_n 1, 1) := by decide +kernel
theorem dX7_kindOf_5 : decode cX7_kindOf 5 = .ok (.iaload, 1) := by decide +kernel
theorem dX7_kindOf_6 : decode cX7_kindOf 6 = .ok (.istore_n 2, 1) := by decide +kernel
theorem dX7_kindOf_7 : decode cX7_kindOf 7 = .ok (.iload_n 2, 1) := by decide +kernel
theorem dX7_kindOf_8 : decode cX7_kindOf 8 = .ok (.iconst 2, 1) := by decide +kernel
theorem dX7_kindOf_9 : decode cX7_kindOf 9 = .ok (.if_icmp .ne 38, 3) := by decide +kernel
theorem dX7_kindOf_12 : decode cX7_kindOf 12 = .ok (.aload_n 0, 1) := by decide +kernel
theorem dX7_kindOf_13 : decode cX7_kindOf 13 = .ok (.getfield 31, 3) := by decide +kernel
theorem dX7_kindOf_16 : decode cX7_kindOf 16 = .ok (.iconst 5, 1) := by decide +kernel
theorem dX7_kindOf_17 : decode cX7_kindOf 17 = .ok (.iload_n 1, 1) := by decide +kernel
theorem dX7_kindOf_18 : decode cX7_kindOf 18 = .ok (.imul, 1) := by decide +kernel
theorem dX7_kindOf_19 : decode cX7_kindOf 19 = .ok (.iconst 2, 1) := by decide +kernel
theorem dX7_kindOf_20 : decode cX7_kindOf 20 = .ok (.iadd, 1) := by decide +kernel
theorem dX7_kindOf_21 : decode cX7_kindOf 21 = .ok (.iaload, 1) := by decide +kernel
theorem dX7_kindOf_22 : decode cX7_kindOf 22 = .ok (.iconst 1, 1) := by decide +kernel
theorem dX7_kindOf_23 : decode cX7_kindOf 23 = .ok (.if_icmp .ne 20, 3) := by decide +kernel
theorem dX7_kindOf_26 : decode cX7_kindOf 26 = .ok (.aload_n 0, 1) := by decide +kernel
theorem dX7_kindOf_27 : decode cX7_kindOf 27 = .ok (.getfield 31, 3) := by decide +kernel
theorem dX7_kindOf_30 : decode cX7_kindOf 30 = .ok (.iconst 5, 1) := by decide +kernel
theorem dX7_kindOf_31 : decode cX7_kindOf 31 = .ok (.iload_n 1, 1) := by decide +kernel
theorem dX7_kindOf_32 : decode cX7_kindOf 32 = .ok (.imul, 1) := by decide +kernel
theorem dX7_kindOf_33 : decode cX7_kindOf 33 = .ok (.iconst 1, 1) := by decide +kernel
theorem dX7_kindOf_34 : decode cX7_kindOf 34 = .ok (.iadd, 1) := by decide +kernel
theorem dX7_kindOf_35 : decode cX7_kindOf 35 = .ok (.iaload, 1) := by decide +kernel
theorem dX7_kindOf_36 : decode cX7_kindOf 36 = .ok (.ifCond .ne 7, 3) := by decide +kernel
theorem dX7_kindOf_39 : decode cX7_kindOf 39 = .ok (.iconst 4, 1) := by decide +kernel
theorem dX7_kindOf_40 : decode cX7_kindOf 40 = .ok (.goto 25, 3) := by decide +kernel
theorem dX7_kindOf_43 : decode cX7_kindOf 43 = .ok (.iconst 3, 1) := by decide +kernel
theorem dX7_kindOf_44 : decode cX7_kindOf 44 = .ok (.goto 21, 3) := by decide +kernel
theorem dX7_kindOf_47 : decode cX7_kindOf 47 = .ok (.iload_n 2, 1) := by decide +kernel
theorem dX7_kindOf_48 : decode cX7_kindOf 48 = .ok (.iconst 1, 1) := by decide +kernel
theorem dX7_kindOf_49 : decode cX7_kindOf 49 = .ok (.if_icmp .ne 7, 3) := by decide +kernel
theorem dX7_kindOf_52 : decode cX7_kindOf 52 = .ok (.iconst 2, 1) := by decide +kernel
theorem dX7_kindOf_53 : decode cX7_kindOf 53 = .ok (.goto 12, 3) := by decide +kernel
theorem dX7_kindOf_56 : decode cX7_kindOf 56 = .ok (.iload_n 2, 1) := by decide +kernel
theorem dX7_kindOf_57 : decode cX7_kindOf 57 = .ok (.ifCond .ne 7, 3) := by decide +kernel
theorem dX7_kindOf_60 : decode cX7_kindOf 60 = .ok (.iconst 1, 1) := by decide +kernel
theorem dX7_kindOf_61 : decode cX7_kindOf 61 = .ok (.goto 4, 3) := by decide +kernel
theorem dX7_kindOf_64 : decode cX7_kindOf 64 = .ok (.iconst 5, 1) := by decide +kernel
theorem dX7_kindOf_65 : decode cX7_kindOf 65 = .ok (.ireturn, 1) := by decide +kernel
theorem dX7_lay_0 : decode cX7_lay 0 = .ok (.aload_n 0, 1) := by decide +kernel
theorem dX7_lay_1 : decode cX7_lay 1 = .ok (.iconst 0, 1) := by decide +kernel
theorem dX7_lay_2 : decode cX7_lay 2 = .ok (.putfield 7, 3) := by decide +kernel
theorem dX7_lay_5 : decode cX7_lay 5 = .ok (.aload_n 0, 1) := by decide +kernel
theorem dX7_lay_6 : decode cX7_lay 6 = .ok (.getfield 28, 3) := by decide +kernel
theorem dX7_lay_9 : decode cX7_lay 9 = .ok (.iload_n 1, 1) := by decide +kernel
theorem dX7_lay_10 : decode cX7_lay 10 = .ok (.iconst 0, 1) := by decide +kernel
theorem dX7_lay_11 : decode cX7_lay 11 = .ok (.iastore, 1) := by decide +kernel
theorem dX7_lay_12 : decode cX7_lay 12 = .ok (.iconst 0, 1) := by decide +kernel
theorem dX7_lay_13 : decode cX7_lay 13 = .ok (.istore_n 2, 1) := by decide +kernel
theorem dX7_lay_14 : decode cX7_lay 14 = .ok (.iload_n 2, 1) := by decide +kernel
theorem dX7_lay_15 : decode cX7_lay 15 = .ok (.iconst 5, 1) := by decide +kernel
theorem dX7_lay_16 : decode cX7_lay 16 = .ok (.if_icmp .ge 50, 3) := by decide +kernel
theorem dX7_lay_19 : decode cX7_lay 19 = .ok (.aload_n 0, 1) := by decide +kernel
theorem dX7_lay_20 : decode cX7_lay 20 = .ok (.getfield 31, 3) := by decide +kernel
theorem dX7_lay_23 : decode cX7_lay 23 = .ok (.iconst 5, 1) := by decide +kernel
theorem dX7_lay_24 : decode cX7_lay 24 = .ok (.iload_n 1, 1) := by decide +kernel
theorem dX7_lay_25 : decode cX7_lay 25 = .ok (.imul, 1) := by decide +kernel
theorem dX7_lay_26 : decode cX7_lay 26 = .ok (.iload_n 2, 1) := by decide +kernel
theorem dX7_lay_27 : decode cX7_lay 27 = .ok (.iadd, 1) := by decide +kernel
theorem dX7_lay_28 : decode cX7_lay 28 = .ok (.aload_n 0, 1) := by decide +kernel
theorem dX7_lay_29 : decode cX7_lay 29 = .ok (.getfield 34, 3) := by decide +kernel
theorem dX7_lay_32 : decode cX7_lay 32 = .ok (.iload_n 2, 1) := by decide +kernel
theorem dX7_lay_33 : decode cX7_lay 33 = .ok (.iaload, 1) := by decide +kernel
theorem dX7_lay_34 : decode cX7_lay 34 = .ok (.iastore, 1) := by decide +kernel
theorem dX7_lay_35 : decode cX7_lay 35 = .ok (.aload_n 0, 1) := by decide +kernel
theorem dX7_lay_36 : decode cX7_lay 36 = .ok (.getfield 28, 3) := by decide +kernel
theorem dX7_lay_39 : decode cX7_lay 39 = .ok (.iload_n 1, 1) := by decide +kernel
theorem dX7_lay_40 : decode cX7_lay 40 = .ok (.aload_n 0, 1) := by decide +kernel
theorem dX7_lay_41 : decode cX7_lay 41 = .ok (.getfield 34, 3) := by decide +kernel
theorem dX7_lay_44 : decode cX7_lay 44 = .ok (.iload_n 2, 1) := by decide +kernel
theorem dX7_lay_45 : decode cX7_lay 45 = .ok (.iaload, 1) := by decide +kernel
theorem dX7_lay_46 : decode cX7_lay 46 = .ok (.ifCond .eq 7, 3) := by decide +kernel
theorem dX7_lay_49 : decode cX7_lay 49 = .ok (.iload_n 2, 1) := by decide +kernel
theorem dX7_lay_50 : decode cX7_lay 50 = .ok (.goto 9, 3) := by decide +kernel
theorem dX7_lay_53 : decode cX7_lay 53 = .ok (.aload_n 0, 1) := by decide +kernel
theorem dX7_lay_54 : decode cX7_lay 54 = .ok (.getfield 28, 3) := by decide +kernel
theorem dX7_lay_57 : decode cX7_lay 57 = .ok (.iload_n 1, 1) := by decide +kernel
theorem dX7_lay_58 : decode cX7_lay 58 = .ok (.iaload, 1) := by decide +kernel
theorem dX7_lay_59 : decode cX7_lay 59 = .ok (.iastore, 1) := by decide +kernel
theorem dX7_lay_60 : decode cX7_lay 60 = .ok (.iinc 2 1, 3) := by decide +kernel
theorem dX7_lay_63 : decode cX7_lay 63 = .ok (.goto (-49), 3) := by decide +kernel
theorem dX7_lay_66 : decode cX7_lay 66 = .ok (.aload_n 0, 1) := by decide +kernel
theorem dX7_lay_67 : decode cX7_lay 67 = .ok (.iload_n 1, 1) := by decide +kernel
theorem dX7_lay_68 : decode cX7_lay 68 = .ok (.invokevirtual 117, 3) := by decide +kernel
theorem dX7_lay_71 : decode cX7_lay 71 = .ok (.ireturn, 1) := by decide +kernel
theorem dX7_map_0 : decode cX7_map 0 = .ok (.aload_n 0, 1) := by decide +kernel
theorem dX7_map_1 : decode cX7_map 1 = .ok (.iconst 0, 1) := by decide +kernel
theorem dX7_map_2 : decode cX7_map 2 = .ok (.putfield 1, 3) := by decide +kernel
theorem dX7_map_5 : decode cX7_map 5 = .ok (.iload_n 1, 1) := by decide +kernel
theorem dX7_map_6 : decode cX7_map 6 = .ok (.invokestatic 120, 3) := by decide +kernel
theorem dX7_map_9 : decode cX7_map 9 = .ok (.ifCond .eq 23, 3) := by decide +kernel
theorem dX7_map_12 : decode cX7_map 12 = .ok (.iload_n 2, 1) := by decide +kernel
theorem dX7_map_13 : decode cX7_map 13 = .ok (.invokestatic 103, 3) := by decide +kernel
theorem dX7_map_16 : decode cX7_map 16 = .ok (.ifCond .eq 16, 3) := by decide +kernel
theorem dX7_map_19 : decode cX7_map 19 = .ok (.iload 4, 2) := by decide +kernel
theorem dX7_map_21 : decode cX7_map 21 = .ok (.i2l, 1) := by decide +kernel
theorem dX7_map_22 : decode cX7_map 22 = .ok (.lconst 1, 1) := by decide +kernel
theorem dX7_map_23 : decode cX7_map 23 = .ok (.ldc2_w 123, 3) := by decide +kernel
theorem dX7_map_26 : decode cX7_map 26 = .ok (.invokestatic 90, 3) := by decide +kernel
theorem dX7_map_29 : decode cX7_map 29 = .ok (.ifCond .ne 6, 3) := by decide +kernel
theorem dX7_map_32 : decode cX7_map 32 = .ok (.ldc 108, 2) := by decide +kernel
theorem dX7_map_34 : decode cX7_map 34 = .ok (.ireturn, 1) := by decide +kernel
theorem dX7_map_35 : decode cX7_map 35 = .ok (.aload_n 0, 1) := by decide +kernel
theorem dX7_map_36 : decode cX7_map 36 = .ok (.getfield 17, 3) := by decide +kernel
theorem dX7_map_39 : decode cX7_map 39 = .ok (.iload_n 2, 1) := by decide +kernel
theorem dX7_map_40 : decode cX7_map 40 = .ok (.iaload, 1) := by decide +kernel
theorem dX7_map_41 : decode cX7_map 41 = .ok (.ifCond .ge 9, 3) := by decide +kernel
theorem dX7_map_44 : decode cX7_map 44 = .ok (.aload_n 0, 1) := by decide +kernel
theorem dX7_map_45 : decode cX7_map 45 = .ok (.iconst 1, 1) := by decide +kernel
theorem dX7_map_46 : decode cX7_map 46 = .ok (.invokevirtual 109, 3) := by decide +kernel
theorem dX7_map_49 : decode cX7_map 49 = .ok (.ireturn, 1) := by decide +kernel
theorem dX7_map_50 : decode cX7_map 50 = .ok (.iload_n 3, 1) := by decide +kernel
theorem dX7_map_51 : decode cX7_map 51 = .ok (.ifCond .lt 20, 3) := by decide +kernel
theorem dX7_map_54 : decode cX7_map 54 = .ok (.iload_n 3, 1) := by decide +kernel
theorem dX7_map_55 : decode cX7_map 55 = .ok (.i2l, 1) := by decide +kernel
theorem dX7_map_56 : decode cX7_map 56 = .ok (.iload 4, 2) := by decide +kernel
theorem dX7_map_58 : decode cX7_map 58 = .ok (.i2l, 1) := by decide +kernel
theorem dX7_map_59 : decode cX7_map 59 = .ok (.ladd, 1) := by decide +kernel
theorem dX7_map_60 : decode cX7_map 60 = .ok (.aload_n 0, 1) := by decide +kernel
theorem dX7_map_61 : decode cX7_map 61 = .ok (.getfield 21, 3) := by decide +kernel
theorem dX7_map_64 : decode cX7_map 64 = .ok (.iload_n 2, 1) := by decide +kernel
theorem dX7_map_65 : decode cX7_map 65 = .ok (.iaload, 1) := by decide +kernel
theorem dX7_map_66 : decode cX7_map 66 = .ok (.i2l, 1) := by decide +kernel
theorem dX7_map_67 : decode cX7_map 67 = .ok (.lcmp, 1) := by decide +kernel
theorem dX7_map_68 : decode cX7_map 68 = .ok (.ifCond .le 9, 3) := by decide +kernel
theorem dX7_map_71 : decode cX7_map 71 = .ok (.aload_n 0, 1) := by decide +kernel
theorem dX7_map_72 : decode cX7_map 72 = .ok (.iconst 2, 1) := by decide +kernel
theorem dX7_map_73 : decode cX7_map 73 = .ok (.invokevirtual 109, 3) := by decide +kernel
theorem dX7_map_76 : decode cX7_map 76 = .ok (.ireturn, 1) := by decide +kernel
theorem dX7_map_77 : decode cX7_map 77 = .ok (.iconst 0, 1) := by decide +kernel
theorem dX7_map_78 : decode cX7_map 78 = .ok (.istore 5, 2) := by decide +kernel
theorem dX7_map_80 : decode cX7_map 80 = .ok (.iload 5, 2) := by decide +kernel
theorem dX7_map_82 : decode cX7_map 82 = .ok (.iconst 5, 1) := by decide +kernel
theorem dX7_map_83 : decode cX7_map 83 = .ok (.if_icmp .ge 45, 3) := by decide +kernel
theorem dX7_map_86 : decode cX7_map 86 = .ok (.aload_n 0, 1) := by decide +kernel
theorem dX7_map_87 : decode cX7_map 87 = .ok (.getfield 34, 3) := by decide +kernel
theorem dX7_map_90 : decode cX7_map 90 = .ok (.iload 5, 2) := by decide +kernel
theorem dX7_map_92 : decode cX7_map 92 = .ok (.iload 5, 2) := by decide +kernel
theorem dX7_map_94 : decode cX7_map 94 = .ok (.iload 4, 2) := by decide +kernel
theorem dX7_map_96 : decode cX7_map 96 = .ok (.if_icmp .ge 24, 3) := by decide +kernel
theorem dX7_map_99 : decode cX7_map 99 = .ok (.aload_n 0, 1) := by decide +kernel
theorem dX7_map_100 : decode cX7_map 100 = .ok (.aload_n 0, 1) := by decide +kernel
theorem dX7_map_101 : decode cX7_map 101 = .ok (.getfield 24, 3) := by decide +kernel
theorem dX7_map_104 : decode cX7_map 104 = .ok (.bipush 40, 2) := by decide +kernel
theorem dX7_map_106 : decode cX7_map 106 = .ok (.iload_n 2, 1) := by decide +kernel
theorem dX7_map_107 : decode cX7_map 107 = .ok (.imul, 1) := by decide +kernel
theorem dX7_map_108 : decode cX7_map 108 = .ok (.iload_n 3, 1) := by decide +kernel
theorem dX7_map_109 : decode cX7_map 109 = .ok (.iadd, 1) := by decide +kernel
theorem dX7_map_110 : decode cX7_map 110 = .ok (.iload 5, 2) := by decide +kernel
theorem dX7_map_112 : decode cX7_map 112 = .ok (.iadd, 1) := by decide +kernel
theorem dX7_map_113 : decode cX7_map 113 = .ok (.laload, 1) := by decide +kernel
theorem dX7_map_114 : decode cX7_map 114 = .ok (.invokevirtual 125, 3) := by decide +kernel
theorem dX7_map_117 : decode cX7_map 117 = .ok (.goto 4, 3) := by decide +kernel
theorem dX7_map_120 : decode cX7_map 120 = .ok (.iconst 0, 1) := by decide +kernel
theorem dX7_map_121 : decode cX7_map 121 = .ok (.iastore, 1) := by decide +kernel
theorem dX7_map_122 : decode cX7_map 122 = .ok (.iinc 5 1, 3) := by decide +kernel
theorem dX7_map_125 : decode cX7_map 125 = .ok (.goto (-45), 3) := by decide +kernel
theorem dX7_map_128 : decode cX7_map 128 = .ok (.aload_n 0, 1) := by decide +kernel
theorem dX7_map_129 : decode cX7_map 129 = .ok (.iload_n 1, 1) := by decide +kernel
theorem dX7_map_130 : decode cX7_map 130 = .ok (.invokevirtual 129, 3) := by decide +kernel
theorem dX7_map_133 : decode cX7_map 133 = .ok (.ireturn, 1) := by decide +kernel
theorem dX7_plain_0 : decode cX7_plain 0 = .ok (.aload_n 0, 1) := by decide +kernel
theorem dX7_plain_1 : decode cX7_plain 1 = .ok (.iconst 0, 1) := by decide +kernel
theorem dX7_plain_2 : decode cX7_plain 2 = .ok (.putfield 1, 3) := by decide +kernel
theorem dX7_plain_5 : decode cX7_plain 5 = .ok (.iload_n 1, 1) := by decide +kernel
theorem dX7_plain_6 : decode cX7_plain 6 = .ok (.invokestatic 120, 3) := by decide +kernel
theorem dX7_plain_9 : decode cX7_plain 9 = .ok (.ifCond .ne 6, 3) := by decide +kernel
theorem dX7_plain_12 : decode cX7_plain 12 = .ok (.ldc 108, 2) := by decide +kernel
theorem dX7_plain_14 : decode cX7_plain 14 = .ok (.ireturn, 1) := by decide +kernel
theorem dX7_plain_15 : decode cX7_plain 15 = .ok (.iconst 0, 1) := by decide +kernel
theorem dX7_plain_16 : decode cX7_plain 16 = .ok (.istore_n 3, 1) := by decide +kernel
theorem dX7_plain_17 : decode cX7_plain 17 = .ok (.iload_n 3, 1) := by decide +kernel
theorem dX7_plain_18 : decode cX7_plain 18 = .ok (.iconst 5, 1) := by decide +kernel
theorem dX7_plain_19 : decode cX7_plain 19 = .ok (.if_icmp .ge 38, 3) := by decide +kernel
theorem dX7_plain_22 : decode cX7_plain 22 = .ok (.aload_n 0, 1) := by decide +kernel
theorem dX7_plain_23 : decode cX7_plain 23 = .ok (.getfield 34, 3) := by decide +kernel
theorem dX7_plain_26 : decode cX7_plain 26 = .ok (.iload_n 3, 1) := by decide +kernel
theorem dX7_plain_27 : decode cX7_plain 27 = .ok (.iload_n 3, 1) := by decide +kernel
theorem dX7_plain_28 : decode cX7_plain 28 = .ok (.ifCond .ne 12, 3) := by decide +kernel
theorem dX7_plain_31 : decode cX7_plain 31 = .ok (.aload_n 0, 1) := by decide +kernel
theorem dX7_plain_32 : decode cX7_plain 32 = .ok (.iload_n 2, 1) := by decide +kernel
theorem dX7_plain_33 : decode cX7_plain 33 = .ok (.i2l, 1) := by decide +kernel
theorem dX7_plain_34 : decode cX7_plain 34 = .ok (.invokevirtual 125, 3) := by decide +kernel
theorem dX7_plain_37 : decode cX7_plain 37 = .ok (.goto 13, 3) := by decide +kernel
theorem dX7_plain_40 : decode cX7_plain 40 = .ok (.iload_n 3, 1) := by decide +kernel
theorem dX7_plain_41 : decode cX7_plain 41 = .ok (.iconst 2, 1) := by decide +kernel
theorem dX7_plain_42 : decode cX7_plain 42 = .ok (.if_icmp .ne 7, 3) := by decide +kernel
theorem dX7_plain_45 : decode cX7_plain 45 = .ok (.iconst 1, 1) := by decide +kernel
theorem dX7_plain_46 : decode cX7_plain 46 = .ok (.goto 4, 3) := by decide +kernel
theorem dX7_plain_49 : decode cX7_plain 49 = .ok (.iconst 0, 1) := by decide +kernel
theorem dX7_plain_50 : decode cX7_plain 50 = .ok (.iastore, 1) := by decide +kernel
theorem dX7_plain_51 : decode cX7_plain 51 = .ok (.iinc 3 1, 3) := by decide +kernel
theorem dX7_plain_54 : decode cX7_plain 54 = .ok (.goto (-37), 3) := by decide +kernel
theorem dX7_plain_57 : decode cX7_plain 57 = .ok (.aload_n 0, 1) := by decide +kernel
theorem dX7_plain_58 : decode cX7_plain 58 = .ok (.iload_n 1, 1) := by decide +kernel
theorem dX7_plain_59 : decode cX7_plain 59 = .ok (.invokevirtual 129, 3) := by decide +kernel
theorem dX7_plain_62 : decode cX7_plain 62 = .ok (.ireturn, 1) := by decide +kernel
theorem dX7_inverse_0 : decode cX7_inverse 0 = .ok (.iconst 1, 1) := by decide +kernel
theorem dX7_inverse_1 : decode cX7_inverse 1 = .ok (.istore_n 2, 1) := by decide +kernel
theorem dX7_inverse_2 : decode cX7_inverse 2 = .ok (.iconst 0, 1) := by decide +kernel
theorem dX7_inverse_3 : decode cX7_inverse 3 = .ok (.istore_n 3, 1) := by decide +kernel
theorem dX7_inverse_4 : decode cX7_inverse 4 = .ok (.iload_n 3, 1) := by decide +kernel
theorem dX7_inverse_5 : decode cX7_inverse 5 = .ok (.aload_n 0, 1) := by decide +kernel
theorem dX7_inverse_6 : decode cX7_inverse 6 = .ok (.getfield 98, 3) := by decide +kernel
theorem dX7_inverse_9 : decode cX7_inverse 9 = .ok (.iconst 2, 1) := by decide +kernel
theorem dX7_inverse_10 : decode cX7_inverse 10 = .ok (.isub, 1) := by decide +kernel
theorem dX7_inverse_11 : decode cX7_inverse 11 = .ok (.if_icmp .ge 18, 3) := by decide +kernel
theorem dX7_inverse_14 : decode cX7_inverse 14 = .ok (.iload_n 2, 1) := by decide +kernel
theorem dX7_inverse_15 : decode cX7_inverse 15 = .ok (.iload_n 1, 1) := by decide +kernel
theorem dX7_inverse_16 : decode cX7_inverse 16 = .ok (.imul, 1) := by decide +kernel
theorem dX7_inverse_17 : decode cX7_inverse 17 = .ok (.aload_n 0, 1) := by decide +kernel
theorem dX7_inverse_18 : decode cX7_inverse 18 = .ok (.getfield 98, 3) := by decide +kernel
theorem dX7_inverse_21 : decode cX7_inverse 21 = .ok (.irem, 1) := by decide +kernel
theorem dX7_inverse_22 : decode cX7_inverse 22 = .ok (.istore_n 2, 1) := by decide +kernel
theorem dX7_inverse_23 : decode cX7_inverse 23 = .ok (.iinc 3 1, 3) := by decide +kernel
theorem dX7_inverse_26 : decode cX7_inverse 26 = .ok (.goto (-22), 3) := by decide +kernel
theorem dX7_inverse_29 : decode cX7_inverse 29 = .ok (.iload_n 2, 1) := by decide +kernel
theorem dX7_inverse_30 : decode cX7_inverse 30 = .ok (.ireturn, 1) := by decide +kernel
theorem dX7_mix_0 : decode cX7_mix 0 = .ok (.iconst 0, 1) := by decide +kernel
theorem dX7_mix_1 : decode cX7_mix 1 = .ok (.istore_n 2, 1) := by decide +kernel
theorem dX7_mix_2 : decode cX7_mix 2 = .ok (.iload_n 2, 1) := by decide +kernel
theorem dX7_mix_3 : decode cX7_mix 3 = .ok (.iconst 5, 1) := by decide +kernel
theorem dX7_mix_4 : decode cX7_mix 4 = .ok (.if_icmp .ge 16, 3) := by decide +kernel
theorem dX7_mix_7 : decode cX7_mix 7 = .ok (.aload_n 0, 1) := by decide +kernel
theorem dX7_mix_8 : decode cX7_mix 8 = .ok (.getfield 34, 3) := by decide +kernel
theorem dX7_mix_11 : decode cX7_mix 11 = .ok (.iload_n 2, 1) := by decide +kernel
theorem dX7_mix_12 : decode cX7_mix 12 = .ok (.iconst 0, 1) := by decide +kernel
theorem dX7_mix_13 : decode cX7_mix 13 = .ok (.iastore, 1) := by decide +kernel
theorem dX7_mix_14 : decode cX7_mix 14 = .ok (.iinc 2 1, 3) := by decide +kernel
theorem dX7_mix_17 : decode cX7_mix 17 = .ok (.goto (-15), 3) := by decide +kernel
theorem dX7_mix_20 : decode cX7_mix 20 = .ok (.aload_n 0, 1) := by decide +kernel
theorem dX7_mix_21 : decode cX7_mix 21 = .ok (.getfield 28, 3) := by decide +kernel
theorem dX7_mix_24 : decode cX7_mix 24 = .ok (.iload_n 1, 1) := by decide +kernel
theorem dX7_mix_25 : decode cX7_mix 25 = .ok (.iaload, 1) := by decide +kernel
theorem dX7_mix_26 : decode cX7_mix 26 = .ok (.istore_n 2, 1) := by decide +kernel
theorem dX7_mix_27 : decode cX7_mix 27 = .ok (.iload_n 2, 1) := by decide +kernel
theorem dX7_mix_28 : decode cX7_mix 28 = .ok (.ifCond .lt 146, 3) := by decide +kernel
theorem dX7_mix_31 : decode cX7_mix 31 = .ok (.iconst 0, 1) := by decide +kernel
theorem dX7_mix_32 : decode cX7_mix 32 = .ok (.istore_n 3, 1) := by decide +kernel
theorem dX7_mix_33 : decode cX7_mix 33 = .ok (.iload_n 3, 1) := by decide +kernel
theorem dX7_mix_34 : decode cX7_mix 34 = .ok (.iconst 5, 1) := by decide +kernel
theorem dX7_mix_35 : decode cX7_mix 35 = .ok (.if_icmp .ge 16, 3) := by decide +kernel
theorem dX7_mix_38 : decode cX7_mix 38 = .ok (.aload_n 0, 1) := by decide +kernel
theorem dX7_mix_39 : decode cX7_mix 39 = .ok (.getfield 40, 3) := by decide +kernel
theorem dX7_mix_42 : decode cX7_mix 42 = .ok (.iload_n 3, 1) := by decide +kernel
theorem dX7_mix_43 : decode cX7_mix 43 = .ok (.iconst 0, 1) := by decide +kernel
theorem dX7_mix_44 : decode cX7_mix 44 = .ok (.iastore, 1) := by decide +kernel
theorem dX7_mix_45 : decode cX7_mix 45 = .ok (.iinc 3 1, 3) := by decide +kernel
theorem dX7_mix_48 : decode cX7_mix 48 = .ok (.goto (-15), 3) := by decide +kernel
theorem dX7_mix_51 : decode cX7_mix 51 = .ok (.iconst 0, 1) := by decide +kernel
theorem dX7_mix_52 : decode cX7_mix 52 = .ok (.istore_n 3, 1) := by decide +kernel
theorem dX7_mix_53 : decode cX7_mix 53 = .ok (.iload_n 3, 1) := by decide +kernel
theorem dX7_mix_54 : decode cX7_mix 54 = .ok (.iconst 5, 1) := by decide +kernel
theorem dX7_mix_55 : decode cX7_mix 55 = .ok (.if_icmp .ge 64, 3) := by decide +kernel
theorem dX7_mix_58 : decode cX7_mix 58 = .ok (.iconst 0, 1) := by decide +kernel
theorem dX7_mix_59 : decode cX7_mix 59 = .ok (.istore 4, 2) := by decide +kernel
theorem dX7_mix_61 : decode cX7_mix 61 = .ok (.iload_n 3, 1) := by decide +kernel
theorem dX7_mix_62 : decode cX7_mix 62 = .ok (.iload 4, 2) := by decide +kernel
theorem dX7_mix_64 : decode cX7_mix 64 = .ok (.iadd, 1) := by decide +kernel
theorem dX7_mix_65 : decode cX7_mix 65 = .ok (.iconst 5, 1) := by decide +kernel
theorem dX7_mix_66 : decode cX7_mix 66 = .ok (.if_icmp .ge 47, 3) := by decide +kernel
theorem dX7_mix_69 : decode cX7_mix 69 = .ok (.aload_n 0, 1) := by decide +kernel
theorem dX7_mix_70 : decode cX7_mix 70 = .ok (.getfield 40, 3) := by decide +kernel
theorem dX7_mix_73 : decode cX7_mix 73 = .ok (.iload_n 3, 1) := by decide +kernel
theorem dX7_mix_74 : decode cX7_mix 74 = .ok (.iload 4, 2) := by decide +kernel
theorem dX7_mix_76 : decode cX7_mix 76 = .ok (.iadd, 1) := by decide +kernel
theorem dX7_mix_77 : decode cX7_mix 77 = .ok (.aload_n 0, 1) := by decide +kernel
theorem dX7_mix_78 : decode cX7_mix 78 = .ok (.getfield 40, 3) := by decide +kernel
theorem dX7_mix_81 : decode cX7_mix 81 = .ok (.iload_n 3, 1) := by decide +kernel
theorem dX7_mix_82 : decode cX7_mix 82 = .ok (.iload 4, 2) := by decide +kernel
theorem dX7_mix_84 : decode cX7_mix 84 = .ok (.iadd, 1) := by decide +kernel
theorem dX7_mix_85 : decode cX7_mix 85 = .ok (.iaload, 1) := by decide +kernel
theorem dX7_mix_86 : decode cX7_mix 86 = .ok (.aload_n 0, 1) := by decide +kernel
theorem dX7_mix_87 : decode cX7_mix 87 = .ok (.getfield 34, 3) := by decide +kernel
theorem dX7_mix_90 : decode cX7_mix 90 = .ok (.iload_n 3, 1) := by decide +kernel
theorem dX7_mix_91 : decode cX7_mix 91 = .ok (.iaload, 1) := by decide +kernel
theorem dX7_mix_92 : decode cX7_mix 92 = .ok (.aload_n 0, 1) := by decide +kernel
theorem dX7_mix_93 : decode cX7_mix 93 = .ok (.getfield 37, 3) := by decide +kernel
theorem dX7_mix_96 : decode cX7_mix 96 = .ok (.iload 4, 2) := by decide +kernel
theorem dX7_mix_98 : decode cX7_mix 98 = .ok (.iaload, 1) := by decide +kernel
theorem dX7_mix_99 : decode cX7_mix 99 = .ok (.imul, 1) := by decide +kernel
theorem dX7_mix_100 : decode cX7_mix 100 = .ok (.iadd, 1) := by decide +kernel
theorem dX7_mix_101 : decode cX7_mix 101 = .ok (.aload_n 0, 1) := by decide +kernel
theorem dX7_mix_102 : decode cX7_mix 102 = .ok (.getfield 98, 3) := by decide +kernel
theorem dX7_mix_105 : decode cX7_mix 105 = .ok (.irem, 1) := by decide +kernel
theorem dX7_mix_106 : decode cX7_mix 106 = .ok (.iastore, 1) := by decide +kernel
theorem dX7_mix_107 : decode cX7_mix 107 = .ok (.iinc 4 1, 3) := by decide +kernel
theorem dX7_mix_110 : decode cX7_mix 110 = .ok (.goto (-49), 3) := by decide +kernel
theorem dX7_mix_113 : decode cX7_mix 113 = .ok (.iinc 3 1, 3) := by decide +kernel
theorem dX7_mix_116 : decode cX7_mix 116 = .ok (.goto (-63), 3) := by decide +kernel
theorem dX7_mix_119 : decode cX7_mix 119 = .ok (.iconst 0, 1) := by decide +kernel
theorem dX7_mix_120 : decode cX7_mix 120 = .ok (.istore_n 3, 1) := by decide +kernel
theorem dX7_mix_121 : decode cX7_mix 121 = .ok (.iload_n 3, 1) := by decide +kernel
theorem dX7_mix_122 : decode cX7_mix 122 = .ok (.iconst 5, 1) := by decide +kernel
theorem dX7_mix_123 : decode cX7_mix 123 = .ok (.if_icmp .ge 45, 3) := by decide +kernel
theorem dX7_mix_126 : decode cX7_mix 126 = .ok (.aload_n 0, 1) := by decide +kernel
theorem dX7_mix_127 : decode cX7_mix 127 = .ok (.getfield 34, 3) := by decide +kernel
theorem dX7_mix_130 : decode cX7_mix 130 = .ok (.iload_n 3, 1) := by decide +kernel
theorem dX7_mix_131 : decode cX7_mix 131 = .ok (.aload_n 0, 1) := by decide +kernel
theorem dX7_mix_132 : decode cX7_mix 132 = .ok (.getfield 40, 3) := by decide +kernel
theorem dX7_mix_135 : decode cX7_mix 135 = .ok (.iload_n 3, 1) := by decide +kernel
theorem dX7_mix_136 : decode cX7_mix 136 = .ok (.iaload, 1) := by decide +kernel
theorem dX7_mix_137 : decode cX7_mix 137 = .ok (.iload_n 3, 1) := by decide +kernel
theorem dX7_mix_138 : decode cX7_mix 138 = .ok (.ifCond .ne 16, 3) := by decide +kernel
theorem dX7_mix_141 : decode cX7_mix 141 = .ok (.aload_n 0, 1) := by decide +kernel
theorem dX7_mix_142 : decode cX7_mix 142 = .ok (.getfield 31, 3) := by decide +kernel
theorem dX7_mix_145 : decode cX7_mix 145 = .ok (.iconst 5, 1) := by decide +kernel
theorem dX7_mix_146 : decode cX7_mix 146 = .ok (.iload_n 1, 1) := by decide +kernel
theorem dX7_mix_147 : decode cX7_mix 147 = .ok (.imul, 1) := by decide +kernel
theorem dX7_mix_148 : decode cX7_mix 148 = .ok (.iload_n 2, 1) := by decide +kernel
theorem dX7_mix_149 : decode cX7_mix 149 = .ok (.iadd, 1) := by decide +kernel
theorem dX7_mix_150 : decode cX7_mix 150 = .ok (.iaload, 1) := by decide +kernel
theorem dX7_mix_151 : decode cX7_mix 151 = .ok (.goto 4, 3) := by decide +kernel
theorem dX7_mix_154 : decode cX7_mix 154 = .ok (.iconst 0, 1) := by decide +kernel
theorem dX7_mix_155 : decode cX7_mix 155 = .ok (.iadd, 1) := by decide +kernel
theorem dX7_mix_156 : decode cX7_mix 156 = .ok (.aload_n 0, 1) := by decide +kernel
theorem dX7_mix_157 : decode cX7_mix 157 = .ok (.getfield 98, 3) := by decide +kernel
theorem dX7_mix_160 : decode cX7_mix 160 = .ok (.irem, 1) := by decide +kernel
theorem dX7_mix_161 : decode cX7_mix 161 = .ok (.iastore, 1) := by decide +kernel
theorem dX7_mix_162 : decode cX7_mix 162 = .ok (.iinc 3 1, 3) := by decide +kernel
theorem dX7_mix_165 : decode cX7_mix 165 = .ok (.goto (-44), 3) := by decide +kernel
theorem dX7_mix_168 : decode cX7_mix 168 = .ok (.iinc 2 (-1), 3) := by decide +kernel
theorem dX7_mix_171 : decode cX7_mix 171 = .ok (.goto (-144), 3) := by decide +kernel
theorem dX7_mix_174 : decode cX7_mix 174 = .ok (.return_, 1) := by decide +kernel
theorem dX7_turn_0 : decode cX7_turn 0 = .ok (.aload_n 0, 1) := by decide +kernel
theorem dX7_turn_1 : decode cX7_turn 1 = .ok (.iconst 0, 1) := by decide +kernel
theorem dX7_turn_2 : decode cX7_turn 2 = .ok (.putfield 1, 3) := by decide +kernel
theorem dX7_turn_5 : decode cX7_turn 5 = .ok (.iload_n 1, 1) := by decide +kernel
theorem dX7_turn_6 : decode cX7_turn 6 = .ok (.invokestatic 120, 3) := by decide +kernel
theorem dX7_turn_9 : decode cX7_turn 9 = .ok (.ifCond .eq 19, 3) := by decide +kernel
theorem dX7_turn_12 : decode cX7_turn 12 = .ok (.iload_n 2, 1) := by decide +kernel
theorem dX7_turn_13 : decode cX7_turn 13 = .ok (.invokestatic 120, 3) := by decide +kernel
theorem dX7_turn_16 : decode cX7_turn 16 = .ok (.ifCond .eq 12, 3) := by decide +kernel
theorem dX7_turn_19 : decode cX7_turn 19 = .ok (.aload_n 0, 1) := by decide +kernel
theorem dX7_turn_20 : decode cX7_turn 20 = .ok (.iload_n 3, 1) := by decide +kernel
theorem dX7_turn_21 : decode cX7_turn 21 = .ok (.i2l, 1) := by decide +kernel
theorem dX7_turn_22 : decode cX7_turn 22 = .ok (.invokevirtual 125, 3) := by decide +kernel
theorem dX7_turn_25 : decode cX7_turn 25 = .ok (.ifCond .ne 6, 3) := by decide +kernel
theorem dX7_turn_28 : decode cX7_turn 28 = .ok (.ldc 108, 2) := by decide +kernel
theorem dX7_turn_30 : decode cX7_turn 30 = .ok (.ireturn, 1) := by decide +kernel
theorem dX7_turn_31 : decode cX7_turn 31 = .ok (.aload_n 0, 1) := by decide +kernel
theorem dX7_turn_32 : decode cX7_turn 32 = .ok (.getfield 28, 3) := by decide +kernel
theorem dX7_turn_35 : decode cX7_turn 35 = .ok (.iload_n 2, 1) := by decide +kernel
theorem dX7_turn_36 : decode cX7_turn 36 = .ok (.iaload, 1) := by decide +kernel
theorem dX7_turn_37 : decode cX7_turn 37 = .ok (.ifCond .ge 9, 3) := by decide +kernel
theorem dX7_turn_40 : decode cX7_turn 40 = .ok (.aload_n 0, 1) := by decide +kernel
theorem dX7_turn_41 : decode cX7_turn 41 = .ok (.iconst 1, 1) := by decide +kernel
theorem dX7_turn_42 : decode cX7_turn 42 = .ok (.invokevirtual 109, 3) := by decide +kernel
theorem dX7_turn_45 : decode cX7_turn 45 = .ok (.ireturn, 1) := by decide +kernel
theorem dX7_turn_46 : decode cX7_turn 46 = .ok (.iconst 0, 1) := by decide +kernel
theorem dX7_turn_47 : decode cX7_turn 47 = .ok (.istore 5, 2) := by decide +kernel
theorem dX7_turn_49 : decode cX7_turn 49 = .ok (.iload 5, 2) := by decide +kernel
theorem dX7_turn_51 : decode cX7_turn 51 = .ok (.iconst 5, 1) := by decide +kernel
theorem dX7_turn_52 : decode cX7_turn 52 = .ok (.if_icmp .ge 47, 3) := by decide +kernel
theorem dX7_turn_55 : decode cX7_turn 55 = .ok (.aload_n 0, 1) := by decide +kernel
theorem dX7_turn_56 : decode cX7_turn 56 = .ok (.getfield 37, 3) := by decide +kernel
theorem dX7_turn_59 : decode cX7_turn 59 = .ok (.iload 5, 2) := by decide +kernel
theorem dX7_turn_61 : decode cX7_turn 61 = .ok (.iload 5, 2) := by decide +kernel
theorem dX7_turn_63 : decode cX7_turn 63 = .ok (.ifCond .ne 13, 3) := by decide +kernel
theorem dX7_turn_66 : decode cX7_turn 66 = .ok (.aload_n 0, 1) := by decide +kernel
theorem dX7_turn_67 : decode cX7_turn 67 = .ok (.iload 4, 2) := by decide +kernel
theorem dX7_turn_69 : decode cX7_turn 69 = .ok (.i2l, 1) := by decide +kernel
theorem dX7_turn_70 : decode cX7_turn 70 = .ok (.invokevirtual 125, 3) := by decide +kernel
theorem dX7_turn_73 : decode cX7_turn 73 = .ok (.goto 19, 3) := by decide +kernel
theorem dX7_turn_76 : decode cX7_turn 76 = .ok (.iload 5, 2) := by decide +kernel
theorem dX7_turn_78 : decode cX7_turn 78 = .ok (.iconst 1, 1) := by decide +kernel
theorem dX7_turn_79 : decode cX7_turn 79 = .ok (.if_icmp .ne 12, 3) := by decide +kernel
theorem dX7_turn_82 : decode cX7_turn 82 = .ok (.aload_n 0, 1) := by decide +kernel
theorem dX7_turn_83 : decode cX7_turn 83 = .ok (.iload_n 3, 1) := by decide +kernel
theorem dX7_turn_84 : decode cX7_turn 84 = .ok (.i2l, 1) := by decide +kernel
theorem dX7_turn_85 : decode cX7_turn 85 = .ok (.invokevirtual 125, 3) := by decide +kernel
theorem dX7_turn_88 : decode cX7_turn 88 = .ok (.goto 4, 3) := by decide +kernel
theorem dX7_turn_91 : decode cX7_turn 91 = .ok (.iconst 0, 1) := by decide +kernel
theorem dX7_turn_92 : decode cX7_turn 92 = .ok (.iastore, 1) := by decide +kernel
theorem dX7_turn_93 : decode cX7_turn 93 = .ok (.iinc 5 1, 3) := by decide +kernel
theorem dX7_turn_96 : decode cX7_turn 96 = .ok (.goto (-47), 3) := by decide +kernel
theorem dX7_turn_99 : decode cX7_turn 99 = .ok (.aload_n 0, 1) := by decide +kernel
theorem dX7_turn_100 : decode cX7_turn 100 = .ok (.iload_n 2, 1) := by decide +kernel
theorem dX7_turn_101 : decode cX7_turn 101 = .ok (.invokevirtual 132, 3) := by decide +kernel
theorem dX7_turn_104 : decode cX7_turn 104 = .ok (.aload_n 0, 1) := by decide +kernel
theorem dX7_turn_105 : decode cX7_turn 105 = .ok (.getfield 34, 3) := by decide +kernel
theorem dX7_turn_108 : decode cX7_turn 108 = .ok (.iconst 0, 1) := by decide +kernel
theorem dX7_turn_109 : decode cX7_turn 109 = .ok (.aload_n 0, 1) := by decide +kernel
theorem dX7_turn_110 : decode cX7_turn 110 = .ok (.aload_n 0, 1) := by decide +kernel
theorem dX7_turn_111 : decode cX7_turn 111 = .ok (.getfield 34, 3) := by decide +kernel
theorem dX7_turn_114 : decode cX7_turn 114 = .ok (.iconst 0, 1) := by decide +kernel
theorem dX7_turn_115 : decode cX7_turn 115 = .ok (.iaload, 1) := by decide +kernel
theorem dX7_turn_116 : decode cX7_turn 116 = .ok (.aload_n 0, 1) := by decide +kernel
theorem dX7_turn_117 : decode cX7_turn 117 = .ok (.iload 4, 2) := by decide +kernel
theorem dX7_turn_119 : decode cX7_turn 119 = .ok (.i2l, 1) := by decide +kernel
theorem dX7_turn_120 : decode cX7_turn 120 = .ok (.invokevirtual 125, 3) := by decide +kernel
theorem dX7_turn_123 : decode cX7_turn 123 = .ok (.isub, 1) := by decide +kernel
theorem dX7_turn_124 : decode cX7_turn 124 = .ok (.i2l, 1) := by decide +kernel
theorem dX7_turn_125 : decode cX7_turn 125 = .ok (.invokevirtual 125, 3) := by decide +kernel
theorem dX7_turn_128 : decode cX7_turn 128 = .ok (.iastore, 1) := by decide +kernel
theorem dX7_turn_129 : decode cX7_turn 129 = .ok (.aload_n 0, 1) := by decide +kernel
theorem dX7_turn_130 : decode cX7_turn 130 = .ok (.aload_n 0, 1) := by decide +kernel
theorem dX7_turn_131 : decode cX7_turn 131 = .ok (.iload_n 3, 1) := by decide +kernel
theorem dX7_turn_132 : decode cX7_turn 132 = .ok (.i2l, 1) := by decide +kernel
theorem dX7_turn_133 : decode cX7_turn 133 = .ok (.invokevirtual 125, 3) := by decide +kernel
theorem dX7_turn_136 : decode cX7_turn 136 = .ok (.invokevirtual 136, 3) := by decide +kernel
theorem dX7_turn_139 : decode cX7_turn 139 = .ok (.istore 5, 2) := by decide +kernel
theorem dX7_turn_141 : decode cX7_turn 141 = .ok (.iconst 0, 1) := by decide +kernel
theorem dX7_turn_142 : decode cX7_turn 142 = .ok (.istore 6, 2) := by decide +kernel
theorem dX7_turn_144 : decode cX7_turn 144 = .ok (.iload 6, 2) := by decide +kernel
theorem dX7_turn_146 : decode cX7_turn 146 = .ok (.iconst 5, 1) := by decide +kernel
theorem dX7_turn_147 : decode cX7_turn 147 = .ok (.if_icmp .ge 31, 3) := by decide +kernel
theorem dX7_turn_150 : decode cX7_turn 150 = .ok (.aload_n 0, 1) := by decide +kernel
theorem dX7_turn_151 : decode cX7_turn 151 = .ok (.getfield 34, 3) := by decide +kernel
theorem dX7_turn_154 : decode cX7_turn 154 = .ok (.iload 6, 2) := by decide +kernel
theorem dX7_turn_156 : decode cX7_turn 156 = .ok (.aload_n 0, 1) := by decide +kernel
theorem dX7_turn_157 : decode cX7_turn 157 = .ok (.getfield 34, 3) := by decide +kernel
theorem dX7_turn_160 : decode cX7_turn 160 = .ok (.iload 6, 2) := by decide +kernel
theorem dX7_turn_162 : decode cX7_turn 162 = .ok (.iaload, 1) := by decide +kernel
theorem dX7_turn_163 : decode cX7_turn 163 = .ok (.iload 5, 2) := by decide +kernel
theorem dX7_turn_165 : decode cX7_turn 165 = .ok (.imul, 1) := by decide +kernel
theorem dX7_turn_166 : decode cX7_turn 166 = .ok (.aload_n 0, 1) := by decide +kernel
theorem dX7_turn_167 : decode cX7_turn 167 = .ok (.getfield 98, 3) := by decide +kernel
theorem dX7_turn_170 : decode cX7_turn 170 = .ok (.irem, 1) := by decide +kernel
theorem dX7_turn_171 : decode cX7_turn 171 = .ok (.iastore, 1) := by decide +kernel
theorem dX7_turn_172 : decode cX7_turn 172 = .ok (.iinc 6 1, 3) := by decide +kernel
theorem dX7_turn_175 : decode cX7_turn 175 = .ok (.goto (-31), 3) := by decide +kernel
theorem dX7_turn_178 : decode cX7_turn 178 = .ok (.aload_n 0, 1) := by decide +kernel
theorem dX7_turn_179 : decode cX7_turn 179 = .ok (.iload_n 1, 1) := by decide +kernel
theorem dX7_turn_180 : decode cX7_turn 180 = .ok (.invokevirtual 129, 3) := by decide +kernel
theorem dX7_turn_183 : decode cX7_turn 183 = .ok (.ireturn, 1) := by decide +kernel
theorem dX7_behind_0 : decode cX7_behind 0 = .ok (.aload_n 0, 1) := by decide +kernel
theorem dX7_behind_1 : decode cX7_behind 1 = .ok (.iconst 0, 1) := by decide +kernel
theorem dX7_behind_2 : decode cX7_behind 2 = .ok (.putfield 1, 3) := by decide +kernel
theorem dX7_behind_5 : decode cX7_behind 5 = .ok (.iload_n 1, 1) := by decide +kernel
theorem dX7_behind_6 : decode cX7_behind 6 = .ok (.invokestatic 120, 3) := by decide +kernel
theorem dX7_behind_9 : decode cX7_behind 9 = .ok (.ifCond .eq 17, 3) := by decide +kernel
theorem dX7_behind_12 : decode cX7_behind 12 = .ok (.iload_n 2, 1) := by decide +kernel
theorem dX7_behind_13 : decode cX7_behind 13 = .ok (.invokestatic 120, 3) := by decide +kernel
theorem dX7_behind_16 : decode cX7_behind 16 = .ok (.ifCond .eq 10, 3) := by decide +kernel
theorem dX7_behind_19 : decode cX7_behind 19 = .ok (.iload_n 3, 1) := by decide +kernel
theorem dX7_behind_20 : decode cX7_behind 20 = .ok (.invokestatic 120, 3) := by decide +kernel
theorem dX7_behind_23 : decode cX7_behind 23 = .ok (.ifCond .ne 6, 3) := by decide +kernel
theorem dX7_behind_26 : decode cX7_behind 26 = .ok (.ldc 108, 2) := by decide +kernel
theorem dX7_behind_28 : decode cX7_behind 28 = .ok (.ireturn, 1) := by decide +kernel
theorem dX7_behind_29 : decode cX7_behind 29 = .ok (.aload_n 0, 1) := by decide +kernel
theorem dX7_behind_30 : decode cX7_behind 30 = .ok (.getfield 28, 3) := by decide +kernel
theorem dX7_behind_33 : decode cX7_behind 33 = .ok (.iload_n 2, 1) := by decide +kernel
theorem dX7_behind_34 : decode cX7_behind 34 = .ok (.iaload, 1) := by decide +kernel
theorem dX7_behind_35 : decode cX7_behind 35 = .ok (.ifCond .lt 12, 3) := by decide +kernel
theorem dX7_behind_38 : decode cX7_behind 38 = .ok (.aload_n 0, 1) := by decide +kernel
theorem dX7_behind_39 : decode cX7_behind 39 = .ok (.getfield 28, 3) := by decide +kernel
theorem dX7_behind_42 : decode cX7_behind 42 = .ok (.iload_n 3, 1) := by decide +kernel
theorem dX7_behind_43 : decode cX7_behind 43 = .ok (.iaload, 1) := by decide +kernel
theorem dX7_behind_44 : decode cX7_behind 44 = .ok (.ifCond .ge 9, 3) := by decide +kernel
theorem dX7_behind_47 : decode cX7_behind 47 = .ok (.aload_n 0, 1) := by decide +kernel
theorem dX7_behind_48 : decode cX7_behind 48 = .ok (.iconst 1, 1) := by decide +kernel
theorem dX7_behind_49 : decode cX7_behind 49 = .ok (.invokevirtual 109, 3) := by decide +kernel
theorem dX7_behind_52 : decode cX7_behind 52 = .ok (.ireturn, 1) := by decide +kernel
theorem dX7_behind_53 : decode cX7_behind 53 = .ok (.aload_n 0, 1) := by decide +kernel
theorem dX7_behind_54 : decode cX7_behind 54 = .ok (.getfield 28, 3) := by decide +kernel
theorem dX7_behind_57 : decode cX7_behind 57 = .ok (.iload_n 2, 1) := by decide +kernel
theorem dX7_behind_58 : decode cX7_behind 58 = .ok (.iaload, 1) := by decide +kernel
theorem dX7_behind_59 : decode cX7_behind 59 = .ok (.aload_n 0, 1) := by decide +kernel
theorem dX7_behind_60 : decode cX7_behind 60 = .ok (.getfield 28, 3) := by decide +kernel
theorem dX7_behind_63 : decode cX7_behind 63 = .ok (.iload_n 3, 1) := by decide +kernel
theorem dX7_behind_64 : decode cX7_behind 64 = .ok (.iaload, 1) := by decide +kernel
theorem dX7_behind_65 : decode cX7_behind 65 = .ok (.imul, 1) := by decide +kernel
theorem dX7_behind_66 : decode cX7_behind 66 = .ok (.iconst 4, 1) := by decide +kernel
theorem dX7_behind_67 : decode cX7_behind 67 = .ok (.if_icmp .le 6, 3) := by decide +kernel
theorem dX7_behind_70 : decode cX7_behind 70 = .ok (.ldc 139, 2) := by decide +kernel
theorem dX7_behind_72 : decode cX7_behind 72 = .ok (.ireturn, 1) := by decide +kernel
theorem dX7_behind_73 : decode cX7_behind 73 = .ok (.iconst 0, 1) := by decide +kernel
theorem dX7_behind_74 : decode cX7_behind 74 = .ok (.istore 4, 2) := by decide +kernel
theorem dX7_behind_76 : decode cX7_behind 76 = .ok (.iload 4, 2) := by decide +kernel
theorem dX7_behind_78 : decode cX7_behind 78 = .ok (.iconst 5, 1) := by decide +kernel
theorem dX7_behind_79 : decode cX7_behind 79 = .ok (.if_icmp .ge 27, 3) := by decide +kernel
theorem dX7_behind_82 : decode cX7_behind 82 = .ok (.aload_n 0, 1) := by decide +kernel
theorem dX7_behind_83 : decode cX7_behind 83 = .ok (.getfield 37, 3) := by decide +kernel
theorem dX7_behind_86 : decode cX7_behind 86 = .ok (.iload 4, 2) := by decide +kernel
theorem dX7_behind_88 : decode cX7_behind 88 = .ok (.aload_n 0, 1) := by decide +kernel
theorem dX7_behind_89 : decode cX7_behind 89 = .ok (.getfield 31, 3) := by decide +kernel
theorem dX7_behind_92 : decode cX7_behind 92 = .ok (.iconst 5, 1) := by decide +kernel
theorem dX7_behind_93 : decode cX7_behind 93 = .ok (.iload_n 3, 1) := by decide +kernel
theorem dX7_behind_94 : decode cX7_behind 94 = .ok (.imul, 1) := by decide +kernel
theorem dX7_behind_95 : decode cX7_behind 95 = .ok (.iload 4, 2) := by decide +kernel
theorem dX7_behind_97 : decode cX7_behind 97 = .ok (.iadd, 1) := by decide +kernel
theorem dX7_behind_98 : decode cX7_behind 98 = .ok (.iaload, 1) := by decide +kernel
theorem dX7_behind_99 : decode cX7_behind 99 = .ok (.iastore, 1) := by decide +kernel
theorem dX7_behind_100 : decode cX7_behind 100 = .ok (.iinc 4 1, 3) := by decide +kernel
theorem dX7_behind_103 : decode cX7_behind 103 = .ok (.goto (-27), 3) := by decide +kernel
theorem dX7_behind_106 : decode cX7_behind 106 = .ok (.aload_n 0, 1) := by decide +kernel
theorem dX7_behind_107 : decode cX7_behind 107 = .ok (.iload_n 2, 1) := by decide +kernel
theorem dX7_behind_108 : decode cX7_behind 108 = .ok (.invokevirtual 132, 3) := by decide +kernel
theorem dX7_behind_111 : decode cX7_behind 111 = .ok (.aload_n 0, 1) := by decide +kernel
theorem dX7_behind_112 : decode cX7_behind 112 = .ok (.iload_n 1, 1) := by decide +kernel
theorem dX7_behind_113 : decode cX7_behind 113 = .ok (.invokevirtual 129, 3) := by decide +kernel
theorem dX7_behind_116 : decode cX7_behind 116 = .ok (.ireturn, 1) := by decide +kernel
theorem dX7_clear_0 : decode cX7_clear 0 = .ok (.aload_n 0, 1) := by decide +kernel
theorem dX7_clear_1 : decode cX7_clear 1 = .ok (.iconst 0, 1) := by decide +kernel
theorem dX7_clear_2 : decode cX7_clear 2 = .ok (.putfield 1, 3) := by decide +kernel
theorem dX7_clear_5 : decode cX7_clear 5 = .ok (.iload_n 1, 1) := by decide +kernel
theorem dX7_clear_6 : decode cX7_clear 6 = .ok (.invokestatic 120, 3) := by decide +kernel
theorem dX7_clear_9 : decode cX7_clear 9 = .ok (.ifCond .ne 6, 3) := by decide +kernel
theorem dX7_clear_12 : decode cX7_clear 12 = .ok (.ldc 108, 2) := by decide +kernel
theorem dX7_clear_14 : decode cX7_clear 14 = .ok (.ireturn, 1) := by decide +kernel
theorem dX7_clear_15 : decode cX7_clear 15 = .ok (.aload_n 0, 1) := by decide +kernel
theorem dX7_clear_16 : decode cX7_clear 16 = .ok (.getfield 28, 3) := by decide +kernel
theorem dX7_clear_19 : decode cX7_clear 19 = .ok (.iload_n 1, 1) := by decide +kernel
theorem dX7_clear_20 : decode cX7_clear 20 = .ok (.iaload, 1) := by decide +kernel
theorem dX7_clear_21 : decode cX7_clear 21 = .ok (.ifCond .lt 7, 3) := by decide +kernel
theorem dX7_clear_24 : decode cX7_clear 24 = .ok (.iconst 1, 1) := by decide +kernel
theorem dX7_clear_25 : decode cX7_clear 25 = .ok (.goto 4, 3) := by decide +kernel
theorem dX7_clear_28 : decode cX7_clear 28 = .ok (.iconst 0, 1) := by decide +kernel
theorem dX7_clear_29 : decode cX7_clear 29 = .ok (.istore_n 2, 1) := by decide +kernel
theorem dX7_clear_30 : decode cX7_clear 30 = .ok (.aload_n 0, 1) := by decide +kernel
theorem dX7_clear_31 : decode cX7_clear 31 = .ok (.getfield 28, 3) := by decide +kernel
theorem dX7_clear_34 : decode cX7_clear 34 = .ok (.iload_n 1, 1) := by decide +kernel
theorem dX7_clear_35 : decode cX7_clear 35 = .ok (.iconst (-1), 1) := by decide +kernel
theorem dX7_clear_36 : decode cX7_clear 36 = .ok (.iastore, 1) := by decide +kernel
theorem dX7_clear_37 : decode cX7_clear 37 = .ok (.iload_n 2, 1) := by decide +kernel
theorem dX7_clear_38 : decode cX7_clear 38 = .ok (.ifCond .eq 7, 3) := by decide +kernel
theorem dX7_clear_41 : decode cX7_clear 41 = .ok (.iconst 1, 1) := by decide +kernel
theorem dX7_clear_42 : decode cX7_clear 42 = .ok (.goto 4, 3) := by decide +kernel
theorem dX7_clear_45 : decode cX7_clear 45 = .ok (.iconst 0, 1) := by decide +kernel
theorem dX7_clear_46 : decode cX7_clear 46 = .ok (.ireturn, 1) := by decide +kernel
theorem dX7_look_0 : decode cX7_look 0 = .ok (.aload_n 0, 1) := by decide +kernel
theorem dX7_look_1 : decode cX7_look 1 = .ok (.iconst 0, 1) := by decide +kernel
theorem dX7_look_2 : decode cX7_look 2 = .ok (.putfield 7, 3) := by decide +kernel
theorem dX7_look_5 : decode cX7_look 5 = .ok (.aload_n 0, 1) := by decide +kernel
theorem dX7_look_6 : decode cX7_look 6 = .ok (.getfield 28, 3) := by decide +kernel
theorem dX7_look_9 : decode cX7_look 9 = .ok (.iload_n 1, 1) := by decide +kernel
theorem dX7_look_10 : decode cX7_look 10 = .ok (.iaload, 1) := by decide +kernel
theorem dX7_look_11 : decode cX7_look 11 = .ok (.ifCond .ge 11, 3) := by decide +kernel
theorem dX7_look_14 : decode cX7_look 14 = .ok (.aload_n 0, 1) := by decide +kernel
theorem dX7_look_15 : decode cX7_look 15 = .ok (.iconst 1, 1) := by decide +kernel
theorem dX7_look_16 : decode cX7_look 16 = .ok (.invokevirtual 109, 3) := by decide +kernel
theorem dX7_look_19 : decode cX7_look 19 = .ok (.goto 4, 3) := by decide +kernel
theorem dX7_look_22 : decode cX7_look 22 = .ok (.iconst 0, 1) := by decide +kernel
theorem dX7_look_23 : decode cX7_look 23 = .ok (.ireturn, 1) := by decide +kernel
theorem dX7_number_0 : decode cX7_number 0 = .ok (.aload_n 0, 1) := by decide +kernel
theorem dX7_number_1 : decode cX7_number 1 = .ok (.iconst 0, 1) := by decide +kernel
theorem dX7_number_2 : decode cX7_number 2 = .ok (.putfield 1, 3) := by decide +kernel
theorem dX7_number_5 : decode cX7_number 5 = .ok (.iload_n 1, 1) := by decide +kernel
theorem dX7_number_6 : decode cX7_number 6 = .ok (.invokestatic 120, 3) := by decide +kernel
theorem dX7_number_9 : decode cX7_number 9 = .ok (.ifCond .eq 17, 3) := by decide +kernel
theorem dX7_number_12 : decode cX7_number 12 = .ok (.iload_n 2, 1) := by decide +kernel
theorem dX7_number_13 : decode cX7_number 13 = .ok (.i2l, 1) := by decide +kernel
theorem dX7_number_14 : decode cX7_number 14 = .ok (.ldc2_w 140, 3) := by decide +kernel
theorem dX7_number_17 : decode cX7_number 17 = .ok (.ldc2_w 142, 3) := by decide +kernel
theorem dX7_number_20 : decode cX7_number 20 = .ok (.invokestatic 90, 3) := by decide +kernel
theorem dX7_number_23 : decode cX7_number 23 = .ok (.ifCond .ne 6, 3) := by decide +kernel
theorem dX7_number_26 : decode cX7_number 26 = .ok (.ldc 108, 2) := by decide +kernel
theorem dX7_number_28 : decode cX7_number 28 = .ok (.ireturn, 1) := by decide +kernel
theorem dX7_number_29 : decode cX7_number 29 = .ok (.aload_n 0, 1) := by decide +kernel
theorem dX7_number_30 : decode cX7_number 30 = .ok (.iload_n 1, 1) := by decide +kernel
theorem dX7_number_31 : decode cX7_number 31 = .ok (.invokevirtual 144, 3) := by decide +kernel
theorem dX7_number_34 : decode cX7_number 34 = .ok (.istore_n 3, 1) := by decide +kernel
theorem dX7_number_35 : decode cX7_number 35 = .ok (.iload_n 3, 1) := by decide +kernel
theorem dX7_number_36 : decode cX7_number 36 = .ok (.ifCond .ge 7, 3) := by decide +kernel
theorem dX7_number_39 : decode cX7_number 39 = .ok (.iload_n 3, 1) := by decide +kernel
theorem dX7_number_40 : decode cX7_number 40 = .ok (.goto 26, 3) := by decide +kernel
theorem dX7_number_43 : decode cX7_number 43 = .ok (.iload_n 2, 1) := by decide +kernel
theorem dX7_number_44 : decode cX7_number 44 = .ok (.ifCond .ge 12, 3) := by decide +kernel
theorem dX7_number_47 : decode cX7_number 47 = .ok (.aload_n 0, 1) := by decide +kernel
theorem dX7_number_48 : decode cX7_number 48 = .ok (.getfield 28, 3) := by decide +kernel
theorem dX7_number_51 : decode cX7_number 51 = .ok (.iload_n 1, 1) := by decide +kernel
theorem dX7_number_52 : decode cX7_number 52 = .ok (.iaload, 1) := by decide +kernel
theorem dX7_number_53 : decode cX7_number 53 = .ok (.goto 13, 3) := by decide +kernel
theorem dX7_number_56 : decode cX7_number 56 = .ok (.aload_n 0, 1) := by decide +kernel
theorem dX7_number_57 : decode cX7_number 57 = .ok (.getfield 31, 3) := by decide +kernel
theorem dX7_number_60 : decode cX7_number 60 = .ok (.iconst 5, 1) := by decide +kernel
theorem dX7_number_61 : decode cX7_number 61 = .ok (.iload_n 1, 1) := by decide +kernel
theorem dX7_number_62 : decode cX7_number 62 = .ok (.imul, 1) := by decide +kernel
theorem dX7_number_63 : decode cX7_number 63 = .ok (.iload_n 2, 1) := by decide +kernel
theorem dX7_number_64 : decode cX7_number 64 = .ok (.iadd, 1) := by decide +kernel
theorem dX7_number_65 : decode cX7_number 65 = .ok (.iaload, 1) := by decide +kernel
theorem dX7_number_66 : decode cX7_number 66 = .ok (.ireturn, 1) := by decide +kernel
theorem dX7_kind_0 : decode cX7_kind 0 = .ok (.aload_n 0, 1) := by decide +kernel
theorem dX7_kind_1 : decode cX7_kind 1 = .ok (.iconst 0, 1) := by decide +kernel
theorem dX7_kind_2 : decode cX7_kind 2 = .ok (.putfield 1, 3) := by decide +kernel
theorem dX7_kind_5 : decode cX7_kind 5 = .ok (.iload_n 1, 1) := by decide +kernel
theorem dX7_kind_6 : decode cX7_kind 6 = .ok (.invokestatic 120, 3) := by decide +kernel
theorem dX7_kind_9 : decode cX7_kind 9 = .ok (.ifCond .ne 6, 3) := by decide +kernel
theorem dX7_kind_12 : decode cX7_kind 12 = .ok (.ldc 108, 2) := by decide +kernel
theorem dX7_kind_14 : decode cX7_kind 14 = .ok (.ireturn, 1) := by decide +kernel
theorem dX7_kind_15 : decode cX7_kind 15 = .ok (.aload_n 0, 1) := by decide +kernel
theorem dX7_kind_16 : decode cX7_kind 16 = .ok (.iload_n 1, 1) := by decide +kernel
theorem dX7_kind_17 : decode cX7_kind 17 = .ok (.invokevirtual 144, 3) := by decide +kernel
theorem dX7_kind_20 : decode cX7_kind 20 = .ok (.istore_n 2, 1) := by decide +kernel
theorem dX7_kind_21 : decode cX7_kind 21 = .ok (.iload_n 2, 1) := by decide +kernel
theorem dX7_kind_22 : decode cX7_kind 22 = .ok (.ifCond .ge 7, 3) := by decide +kernel
theorem dX7_kind_25 : decode cX7_kind 25 = .ok (.iload_n 2, 1) := by decide +kernel
theorem dX7_kind_26 : decode cX7_kind 26 = .ok (.goto 8, 3) := by decide +kernel
theorem dX7_kind_29 : decode cX7_kind 29 = .ok (.aload_n 0, 1) := by decide +kernel
theorem dX7_kind_30 : decode cX7_kind 30 = .ok (.iload_n 1, 1) := by decide +kernel
theorem dX7_kind_31 : decode cX7_kind 31 = .ok (.invokevirtual 117, 3) := by decide +kernel
theorem dX7_kind_34 : decode cX7_kind 34 = .ok (.ireturn, 1) := by decide +kernel
theorem dX7_isOf_0 : decode cX7_isOf 0 = .ok (.iload_n 1, 1) := by decide +kernel
theorem dX7_isOf_1 : decode cX7_isOf 1 = .ok (.ifCond .eq 18, 3) := by decide +kernel
theorem dX7_isOf_4 : decode cX7_isOf 4 = .ok (.iload_n 0, 1) := by decide +kernel
theorem dX7_isOf_5 : decode cX7_isOf 5 = .ok (.iload_n 1, 1) := by decide +kernel
theorem dX7_isOf_6 : decode cX7_isOf 6 = .ok (.if_icmp .eq 13, 3) := by decide +kernel
theorem dX7_isOf_9 : decode cX7_isOf 9 = .ok (.iload_n 1, 1) := by decide +kernel
theorem dX7_isOf_10 : decode cX7_isOf 10 = .ok (.iconst 3, 1) := by decide +kernel
theorem dX7_isOf_11 : decode cX7_isOf 11 = .ok (.if_icmp .ne 12, 3) := by decide +kernel
theorem dX7_isOf_14 : decode cX7_isOf 14 = .ok (.iload_n 0, 1) := by decide +kernel
theorem dX7_isOf_15 : decode cX7_isOf 15 = .ok (.iconst 4, 1) := by decide +kernel
theorem dX7_isOf_16 : decode cX7_isOf 16 = .ok (.if_icmp .ne 7, 3) := by decide +kernel
theorem dX7_isOf_19 : decode cX7_isOf 19 = .ok (.iconst 1, 1) := by decide +kernel
theorem dX7_isOf_20 : decode cX7_isOf 20 = .ok (.goto 4, 3) := by decide +kernel
theorem dX7_isOf_23 : decode cX7_isOf 23 = .ok (.iconst 0, 1) := by decide +kernel
theorem dX7_isOf_24 : decode cX7_isOf 24 = .ok (.ireturn, 1) := by decide +kernel
theorem dX7_is_0 : decode cX7_is 0 = .ok (.aload_n 0, 1) := by decide +kernel
theorem dX7_is_1 : decode cX7_is 1 = .ok (.iconst 0, 1) := by decide +kernel
theorem dX7_is_2 : decode cX7_is 2 = .ok (.putfield 1, 3) := by decide +kernel
theorem dX7_is_5 : decode cX7_is 5 = .ok (.iload_n 1, 1) := by decide +kernel
theorem dX7_is_6 : decode cX7_is 6 = .ok (.invokestatic 120, 3) := by decide +kernel
theorem dX7_is_9 : decode cX7_is 9 = .ok (.ifCond .eq 15, 3) := by decide +kernel
theorem dX7_is_12 : decode cX7_is 12 = .ok (.iload_n 2, 1) := by decide +kernel
theorem dX7_is_13 : decode cX7_is 13 = .ok (.i2l, 1) := by decide +kernel
theorem dX7_is_14 : decode cX7_is 14 = .ok (.lconst 0, 1) := by decide +kernel
theorem dX7_is_15 : decode cX7_is 15 = .ok (.ldc2_w 123, 3) := by decide +kernel
theorem dX7_is_18 : decode cX7_is 18 = .ok (.invokestatic 90, 3) := by decide +kernel
theorem dX7_is_21 : decode cX7_is 21 = .ok (.ifCond .ne 8, 3) := by decide +kernel
theorem dX7_is_24 : decode cX7_is 24 = .ok (.ldc 108, 2) := by decide +kernel
theorem dX7_is_26 : decode cX7_is 26 = .ok (.goto 29, 3) := by decide +kernel
theorem dX7_is_29 : decode cX7_is 29 = .ok (.aload_n 0, 1) := by decide +kernel
theorem dX7_is_30 : decode cX7_is 30 = .ok (.getfield 28, 3) := by decide +kernel
theorem dX7_is_33 : decode cX7_is 33 = .ok (.iload_n 1, 1) := by decide +kernel
theorem dX7_is_34 : decode cX7_is 34 = .ok (.iaload, 1) := by decide +kernel
theorem dX7_is_35 : decode cX7_is 35 = .ok (.ifCond .lt 19, 3) := by decide +kernel
theorem dX7_is_38 : decode cX7_is 38 = .ok (.aload_n 0, 1) := by decide +kernel
theorem dX7_is_39 : decode cX7_is 39 = .ok (.iload_n 1, 1) := by decide +kernel
theorem dX7_is_40 : decode cX7_is 40 = .ok (.invokevirtual 117, 3) := by decide +kernel
theorem dX7_is_43 : decode cX7_is 43 = .ok (.iload_n 2, 1) := by decide +kernel
theorem dX7_is_44 : decode cX7_is 44 = .ok (.invokestatic 147, 3) := by decide +kernel
theorem dX7_is_47 : decode cX7_is 47 = .ok (.ifCond .eq 7, 3) := by decide +kernel
theorem dX7_is_50 : decode cX7_is 50 = .ok (.iconst 1, 1) := by decide +kernel
theorem dX7_is_51 : decode cX7_is 51 = .ok (.goto 4, 3) := by decide +kernel
theorem dX7_is_54 : decode cX7_is 54 = .ok (.iconst 0, 1) := by decide +kernel
theorem dX7_is_55 : decode cX7_is 55 = .ok (.ireturn, 1) := by decide +kernel
theorem dX7_as_0 : decode cX7_as 0 = .ok (.aload_n 0, 1) := by decide +kernel
theorem dX7_as_1 : decode cX7_as 1 = .ok (.iconst 0, 1) := by decide +kernel
theorem dX7_as_2 : decode cX7_as 2 = .ok (.putfield 1, 3) := by decide +kernel
theorem dX7_as_5 : decode cX7_as 5 = .ok (.iload_n 1, 1) := by decide +kernel
theorem dX7_as_6 : decode cX7_as 6 = .ok (.invokestatic 120, 3) := by decide +kernel
theorem dX7_as_9 : decode cX7_as 9 = .ok (.ifCond .eq 15, 3) := by decide +kernel
theorem dX7_as_12 : decode cX7_as 12 = .ok (.iload_n 2, 1) := by decide +kernel
theorem dX7_as_13 : decode cX7_as 13 = .ok (.i2l, 1) := by decide +kernel
theorem dX7_as_14 : decode cX7_as 14 = .ok (.lconst 0, 1) := by decide +kernel
theorem dX7_as_15 : decode cX7_as 15 = .ok (.ldc2_w 123, 3) := by decide +kernel
theorem dX7_as_18 : decode cX7_as 18 = .ok (.invokestatic 90, 3) := by decide +kernel
theorem dX7_as_21 : decode cX7_as 21 = .ok (.ifCond .ne 6, 3) := by decide +kernel
theorem dX7_as_24 : decode cX7_as 24 = .ok (.ldc 108, 2) := by decide +kernel
theorem dX7_as_26 : decode cX7_as 26 = .ok (.ireturn, 1) := by decide +kernel
theorem dX7_as_27 : decode cX7_as 27 = .ok (.aload_n 0, 1) := by decide +kernel
theorem dX7_as_28 : decode cX7_as 28 = .ok (.iload_n 1, 1) := by decide +kernel
theorem dX7_as_29 : decode cX7_as 29 = .ok (.invokevirtual 144, 3) := by decide +kernel
theorem dX7_as_32 : decode cX7_as 32 = .ok (.istore_n 3, 1) := by decide +kernel
theorem dX7_as_33 : decode cX7_as 33 = .ok (.iload_n 3, 1) := by decide +kernel
theorem dX7_as_34 : decode cX7_as 34 = .ok (.ifCond .ge 7, 3) := by decide +kernel
theorem dX7_as_37 : decode cX7_as 37 = .ok (.iload_n 3, 1) := by decide +kernel
theorem dX7_as_38 : decode cX7_as 38 = .ok (.goto 29, 3) := by decide +kernel
theorem dX7_as_41 : decode cX7_as 41 = .ok (.aload_n 0, 1) := by decide +kernel
theorem dX7_as_42 : decode cX7_as 42 = .ok (.iload_n 1, 1) := by decide +kernel
theorem dX7_as_43 : decode cX7_as 43 = .ok (.invokevirtual 117, 3) := by decide +kernel
theorem dX7_as_46 : decode cX7_as 46 = .ok (.iload_n 2, 1) := by decide +kernel
theorem dX7_as_47 : decode cX7_as 47 = .ok (.invokestatic 147, 3) := by decide +kernel
theorem dX7_as_50 : decode cX7_as 50 = .ok (.ifCond .eq 12, 3) := by decide +kernel
theorem dX7_as_53 : decode cX7_as 53 = .ok (.aload_n 0, 1) := by decide +kernel
theorem dX7_as_54 : decode cX7_as 54 = .ok (.getfield 28, 3) := by decide +kernel
theorem dX7_as_57 : decode cX7_as 57 = .ok (.iload_n 1, 1) := by decide +kernel
theorem dX7_as_58 : decode cX7_as 58 = .ok (.iaload, 1) := by decide +kernel
theorem dX7_as_59 : decode cX7_as 59 = .ok (.goto 8, 3) := by decide +kernel
theorem dX7_as_62 : decode cX7_as 62 = .ok (.aload_n 0, 1) := by decide +kernel
theorem dX7_as_63 : decode cX7_as 63 = .ok (.iconst 3, 1) := by decide +kernel
theorem dX7_as_64 : decode cX7_as 64 = .ok (.invokevirtual 109, 3) := by decide +kernel
theorem dX7_as_67 : decode cX7_as 67 = .ok (.ireturn, 1) := by decide +kernel
theorem dX7_valueOf_0 : decode cX7_valueOf 0 = .ok (.iconst 0, 1) := by decide +kernel
theorem dX7_valueOf_1 : decode cX7_valueOf 1 = .ok (.istore_n 3, 1) := by decide +kernel
theorem dX7_valueOf_2 : decode cX7_valueOf 2 = .ok (.aload_n 0, 1) := by decide +kernel
theorem dX7_valueOf_3 : decode cX7_valueOf 3 = .ok (.getfield 28, 3) := by decide +kernel
theorem dX7_valueOf_6 : decode cX7_valueOf 6 = .ok (.iload_n 1, 1) := by decide +kernel
theorem dX7_valueOf_7 : decode cX7_valueOf 7 = .ok (.iaload, 1) := by decide +kernel
theorem dX7_valueOf_8 : decode cX7_valueOf 8 = .ok (.istore 4, 2) := by decide +kernel
theorem dX7_valueOf_10 : decode cX7_valueOf 10 = .ok (.iload 4, 2) := by decide +kernel
theorem dX7_valueOf_12 : decode cX7_valueOf 12 = .ok (.ifCond .lt 30, 3) := by decide +kernel
theorem dX7_valueOf_15 : decode cX7_valueOf 15 = .ok (.iload_n 3, 1) := by decide +kernel
theorem dX7_valueOf_16 : decode cX7_valueOf 16 = .ok (.iload_n 2, 1) := by decide +kernel
theorem dX7_valueOf_17 : decode cX7_valueOf 17 = .ok (.imul, 1) := by decide +kernel
theorem dX7_valueOf_18 : decode cX7_valueOf 18 = .ok (.aload_n 0, 1) := by decide +kernel
theorem dX7_valueOf_19 : decode cX7_valueOf 19 = .ok (.getfield 31, 3) := by decide +kernel
theorem dX7_valueOf_22 : decode cX7_valueOf 22 = .ok (.iconst 5, 1) := by decide +kernel
theorem dX7_valueOf_23 : decode cX7_valueOf 23 = .ok (.iload_n 1, 1) := by decide +kernel
theorem dX7_valueOf_24 : decode cX7_valueOf 24 = .ok (.imul, 1) := by decide +kernel
theorem dX7_valueOf_25 : decode cX7_valueOf 25 = .ok (.iload 4, 2) := by decide +kernel
theorem dX7_valueOf_27 : decode cX7_valueOf 27 = .ok (.iadd, 1) := by decide +kernel
theorem dX7_valueOf_28 : decode cX7_valueOf 28 = .ok (.iaload, 1) := by decide +kernel
theorem dX7_valueOf_29 : decode cX7_valueOf 29 = .ok (.iadd, 1) := by decide +kernel
theorem dX7_valueOf_30 : decode cX7_valueOf 30 = .ok (.aload_n 0, 1) := by decide +kernel
theorem dX7_valueOf_31 : decode cX7_valueOf 31 = .ok (.getfield 98, 3) := by decide +kernel
theorem dX7_valueOf_34 : decode cX7_valueOf 34 = .ok (.irem, 1) := by decide +kernel
theorem dX7_valueOf_35 : decode cX7_valueOf 35 = .ok (.istore_n 3, 1) := by decide +kernel
theorem dX7_valueOf_36 : decode cX7_valueOf 36 = .ok (.iinc 4 (-1), 3) := by decide +kernel
theorem dX7_valueOf_39 : decode cX7_valueOf 39 = .ok (.goto (-29), 3) := by decide +kernel
theorem dX7_valueOf_42 : decode cX7_valueOf 42 = .ok (.iload_n 3, 1) := by decide +kernel
theorem dX7_valueOf_43 : decode cX7_valueOf 43 = .ok (.ireturn, 1) := by decide +kernel
theorem dX7_slopeOf_0 : decode cX7_slopeOf 0 = .ok (.iconst 0, 1) := by decide +kernel
theorem dX7_slopeOf_1 : decode cX7_slopeOf 1 = .ok (.istore_n 3, 1) := by decide +kernel
theorem dX7_slopeOf_2 : decode cX7_slopeOf 2 = .ok (.aload_n 0, 1) := by decide +kernel
theorem dX7_slopeOf_3 : decode cX7_slopeOf 3 = .ok (.getfield 28, 3) := by decide +kernel
theorem dX7_slopeOf_6 : decode cX7_slopeOf 6 = .ok (.iload_n 1, 1) := by decide +kernel
theorem dX7_slopeOf_7 : decode cX7_slopeOf 7 = .ok (.iaload, 1) := by decide +kernel
theorem dX7_slopeOf_8 : decode cX7_slopeOf 8 = .ok (.istore 4, 2) := by decide +kernel
theorem dX7_slopeOf_10 : decode cX7_slopeOf 10 = .ok (.iload 4, 2) := by decide +kernel
theorem dX7_slopeOf_12 : decode cX7_slopeOf 12 = .ok (.ifCond .le 33, 3) := by decide +kernel
theorem dX7_slopeOf_15 : decode cX7_slopeOf 15 = .ok (.iload_n 3, 1) := by decide +kernel
theorem dX7_slopeOf_16 : decode cX7_slopeOf 16 = .ok (.iload_n 2, 1) := by decide +kernel
theorem dX7_slopeOf_17 : decode cX7_slopeOf 17 = .ok (.imul, 1) := by decide +kernel
theorem dX7_slopeOf_18 : decode cX7_slopeOf 18 = .ok (.iload 4, 2) := by decide +kernel
theorem dX7_slopeOf_20 : decode cX7_slopeOf 20 = .ok (.aload_n 0, 1) := by decide +kernel
theorem dX7_slopeOf_21 : decode cX7_slopeOf 21 = .ok (.getfield 31, 3) := by decide +kernel
theorem dX7_slopeOf_24 : decode cX7_slopeOf 24 = .ok (.iconst 5, 1) := by decide +kernel
theorem dX7_slopeOf_25 : decode cX7_slopeOf 25 = .ok (.iload_n 1, 1) := by decide +kernel
theorem dX7_slopeOf_26 : decode cX7_slopeOf 26 = .ok (.imul, 1) := by decide +kernel
theorem dX7_slopeOf_27 : decode cX7_slopeOf 27 = .ok (.iload 4, 2) := by decide +kernel
theorem dX7_slopeOf_29 : decode cX7_slopeOf 29 = .ok (.iadd, 1) := by decide +kernel
theorem dX7_slopeOf_30 : decode cX7_slopeOf 30 = .ok (.iaload, 1) := by decide +kernel
theorem dX7_slopeOf_31 : decode cX7_slopeOf 31 = .ok (.imul, 1) := by decide +kernel
theorem dX7_slopeOf_32 : decode cX7_slopeOf 32 = .ok (.iadd, 1) := by decide +kernel
theorem dX7_slopeOf_33 : decode cX7_slopeOf 33 = .ok (.aload_n 0, 1) := by decide +kernel
theorem dX7_slopeOf_34 : decode cX7_slopeOf 34 = .ok (.getfield 98, 3) := by decide +kernel
theorem dX7_slopeOf_37 : decode cX7_slopeOf 37 = .ok (.irem, 1) := by decide +kernel
theorem dX7_slopeOf_38 : decode cX7_slopeOf 38 = .ok (.istore_n 3, 1) := by decide +kernel
theorem dX7_slopeOf_39 : decode cX7_slopeOf 39 = .ok (.iinc 4 (-1), 3) := by decide +kernel
theorem dX7_slopeOf_42 : decode cX7_slopeOf 42 = .ok (.goto (-32), 3) := by decide +kernel
theorem dX7_slopeOf_45 : decode cX7_slopeOf 45 = .ok (.iload_n 3, 1) := by decide +kernel
theorem dX7_slopeOf_46 : decode cX7_slopeOf 46 = .ok (.ireturn, 1) := by decide +kernel
theorem dX7_findWays_0 : decode cX7_findWays 0 = .ok (.iconst 0, 1) := by decide +kernel
theorem dX7_findWays_1 : decode cX7_findWays 1 = .ok (.istore_n 2, 1) := by decide +kernel
theorem dX7_findWays_2 : decode cX7_findWays 2 = .ok (.iload_n 2, 1) := by decide +kernel
theorem dX7_findWays_3 : decode cX7_findWays 3 = .ok (.aload_n 0, 1) := by decide +kernel
theorem dX7_findWays_4 : decode cX7_findWays 4 = .ok (.getfield 98, 3) := by decide +kernel
theorem dX7_findWays_7 : decode cX7_findWays 7 = .ok (.if_icmp .ge 28, 3) := by decide +kernel
theorem dX7_findWays_10 : decode cX7_findWays 10 = .ok (.aload_n 0, 1) := by decide +kernel
theorem dX7_findWays_11 : decode cX7_findWays 11 = .ok (.getfield 43, 3) := by decide +kernel
theorem dX7_findWays_14 : decode cX7_findWays 14 = .ok (.iload_n 2, 1) := by decide +kernel
theorem dX7_findWays_15 : decode cX7_findWays 15 = .ok (.aload_n 0, 1) := by decide +kernel
theorem dX7_findWays_16 : decode cX7_findWays 16 = .ok (.iload_n 1, 1) := by decide +kernel
theorem dX7_findWays_17 : decode cX7_findWays 17 = .ok (.iload_n 2, 1) := by decide +kernel
theorem dX7_findWays_18 : decode cX7_findWays 18 = .ok (.invokevirtual 151, 3) := by decide +kernel
theorem dX7_findWays_21 : decode cX7_findWays 21 = .ok (.iastore, 1) := by decide +kernel
theorem dX7_findWays_22 : decode cX7_findWays 22 = .ok (.aload_n 0, 1) := by decide +kernel
theorem dX7_findWays_23 : decode cX7_findWays 23 = .ok (.getfield 55, 3) := by decide +kernel
theorem dX7_findWays_26 : decode cX7_findWays 26 = .ok (.iload_n 2, 1) := by decide +kernel
theorem dX7_findWays_27 : decode cX7_findWays 27 = .ok (.iconst 0, 1) := by decide +kernel
theorem dX7_findWays_28 : decode cX7_findWays 28 = .ok (.iastore, 1) := by decide +kernel
theorem dX7_findWays_29 : decode cX7_findWays 29 = .ok (.iinc 2 1, 3) := by decide +kernel
theorem dX7_findWays_32 : decode cX7_findWays 32 = .ok (.goto (-30), 3) := by decide +kernel
theorem dX7_findWays_35 : decode cX7_findWays 35 = .ok (.iconst 0, 1) := by decide +kernel
theorem dX7_findWays_36 : decode cX7_findWays 36 = .ok (.istore_n 2, 1) := by decide +kernel
theorem dX7_findWays_37 : decode cX7_findWays 37 = .ok (.iload_n 2, 1) := by decide +kernel
theorem dX7_findWays_38 : decode cX7_findWays 38 = .ok (.aload_n 0, 1) := by decide +kernel
theorem dX7_findWays_39 : decode cX7_findWays 39 = .ok (.getfield 98, 3) := by decide +kernel
theorem dX7_findWays_42 : decode cX7_findWays 42 = .ok (.if_icmp .ge 24, 3) := by decide +kernel
theorem dX7_findWays_45 : decode cX7_findWays 45 = .ok (.aload_n 0, 1) := by decide +kernel
theorem dX7_findWays_46 : decode cX7_findWays 46 = .ok (.getfield 55, 3) := by decide +kernel
theorem dX7_findWays_49 : decode cX7_findWays 49 = .ok (.aload_n 0, 1) := by decide +kernel
theorem dX7_findWays_50 : decode cX7_findWays 50 = .ok (.getfield 43, 3) := by decide +kernel
theorem dX7_findWays_53 : decode cX7_findWays 53 = .ok (.iload_n 2, 1) := by decide +kernel
theorem dX7_findWays_54 : decode cX7_findWays 54 = .ok (.iaload, 1) := by decide +kernel
theorem dX7_findWays_55 : decode cX7_findWays 55 = .ok (.dup2, 1) := by decide +kernel
theorem dX7_findWays_56 : decode cX7_findWays 56 = .ok (.iaload, 1) := by decide +kernel
theorem dX7_findWays_57 : decode cX7_findWays 57 = .ok (.iconst 1, 1) := by decide +kernel
theorem dX7_findWays_58 : decode cX7_findWays 58 = .ok (.iadd, 1) := by decide +kernel
theorem dX7_findWays_59 : decode cX7_findWays 59 = .ok (.iastore, 1) := by decide +kernel
theorem dX7_findWays_60 : decode cX7_findWays 60 = .ok (.iinc 2 1, 3) := by decide +kernel
theorem dX7_findWays_63 : decode cX7_findWays 63 = .ok (.goto (-26), 3) := by decide +kernel
theorem dX7_findWays_66 : decode cX7_findWays 66 = .ok (.iconst 0, 1) := by decide +kernel
theorem dX7_findWays_67 : decode cX7_findWays 67 = .ok (.istore_n 2, 1) := by decide +kernel
theorem dX7_findWays_68 : decode cX7_findWays 68 = .ok (.iload_n 2, 1) := by decide +kernel
theorem dX7_findWays_69 : decode cX7_findWays 69 = .ok (.aload_n 0, 1) := by decide +kernel
theorem dX7_findWays_70 : decode cX7_findWays 70 = .ok (.getfield 98, 3) := by decide +kernel
theorem dX7_findWays_73 : decode cX7_findWays 73 = .ok (.if_icmp .ge 146, 3) := by decide +kernel
theorem dX7_findWays_76 : decode cX7_findWays 76 = .ok (.iconst 0, 1) := by decide +kernel
theorem dX7_findWays_77 : decode cX7_findWays 77 = .ok (.istore_n 3, 1) := by decide +kernel
theorem dX7_findWays_78 : decode cX7_findWays 78 = .ok (.iload_n 3, 1) := by decide +kernel
theorem dX7_findWays_79 : decode cX7_findWays 79 = .ok (.aload_n 0, 1) := by decide +kernel
theorem dX7_findWays_80 : decode cX7_findWays 80 = .ok (.getfield 98, 3) := by decide +kernel
theorem dX7_findWays_83 : decode cX7_findWays 83 = .ok (.if_icmp .ge 16, 3) := by decide +kernel
theorem dX7_findWays_86 : decode cX7_findWays 86 = .ok (.aload_n 0, 1) := by decide +kernel
theorem dX7_findWays_87 : decode cX7_findWays 87 = .ok (.getfield 58, 3) := by decide +kernel
theorem dX7_findWays_90 : decode cX7_findWays 90 = .ok (.iload_n 3, 1) := by decide +kernel
theorem dX7_findWays_91 : decode cX7_findWays 91 = .ok (.iconst (-1), 1) := by decide +kernel
theorem dX7_findWays_92 : decode cX7_findWays 92 = .ok (.iastore, 1) := by decide +kernel
theorem dX7_findWays_93 : decode cX7_findWays 93 = .ok (.iinc 3 1, 3) := by decide +kernel
theorem dX7_findWays_96 : decode cX7_findWays 96 = .ok (.goto (-18), 3) := by decide +kernel
theorem dX7_findWays_99 : decode cX7_findWays 99 = .ok (.iload_n 2, 1) := by decide +kernel
theorem dX7_findWays_100 : decode cX7_findWays 100 = .ok (.istore_n 3, 1) := by decide +kernel
theorem dX7_findWays_101 : decode cX7_findWays 101 = .ok (.iconst 0, 1) := by decide +kernel
theorem dX7_findWays_102 : decode cX7_findWays 102 = .ok (.istore 4, 2) := by decide +kernel
theorem dX7_findWays_104 : decode cX7_findWays 104 = .ok (.aload_n 0, 1) := by decide +kernel
theorem dX7_findWays_105 : decode cX7_findWays 105 = .ok (.getfield 58, 3) := by decide +kernel
theorem dX7_findWays_108 : decode cX7_findWays 108 = .ok (.iload_n 3, 1) := by decide +kernel
theorem dX7_findWays_109 : decode cX7_findWays 109 = .ok (.iaload, 1) := by decide +kernel
theorem dX7_findWays_110 : decode cX7_findWays 110 = .ok (.ifCond .ge 24, 3) := by decide +kernel
theorem dX7_findWays_113 : decode cX7_findWays 113 = .ok (.aload_n 0, 1) := by decide +kernel
theorem dX7_findWays_114 : decode cX7_findWays 114 = .ok (.getfield 58, 3) := by decide +kernel
theorem dX7_findWays_117 : decode cX7_findWays 117 = .ok (.iload_n 3, 1) := by decide +kernel
theorem dX7_findWays_118 : decode cX7_findWays 118 = .ok (.iload 4, 2) := by decide +kernel
theorem dX7_findWays_120 : decode cX7_findWays 120 = .ok (.iastore, 1) := by decide +kernel
theorem dX7_findWays_121 : decode cX7_findWays 121 = .ok (.iinc 4 1, 3) := by decide +kernel
theorem dX7_findWays_124 : decode cX7_findWays 124 = .ok (.aload_n 0, 1) := by decide +kernel
theorem dX7_findWays_125 : decode cX7_findWays 125 = .ok (.getfield 43, 3) := by decide +kernel
theorem dX7_findWays_128 : decode cX7_findWays 128 = .ok (.iload_n 3, 1) := by decide +kernel
theorem dX7_findWays_129 : decode cX7_findWays 129 = .ok (.iaload, 1) := by decide +kernel
theorem dX7_findWays_130 : decode cX7_findWays 130 = .ok (.istore_n 3, 1) := by decide +kernel
theorem dX7_findWays_131 : decode cX7_findWays 131 = .ok (.goto (-27), 3) := by decide +kernel
theorem dX7_findWays_134 : decode cX7_findWays 134 = .ok (.aload_n 0, 1) := by decide +kernel
theorem dX7_findWays_135 : decode cX7_findWays 135 = .ok (.getfield 46, 3) := by decide +kernel
theorem dX7_findWays_138 : decode cX7_findWays 138 = .ok (.iload_n 2, 1) := by decide +kernel
theorem dX7_findWays_139 : decode cX7_findWays 139 = .ok (.aload_n 0, 1) := by decide +kernel
theorem dX7_findWays_140 : decode cX7_findWays 140 = .ok (.getfield 58, 3) := by decide +kernel
theorem dX7_findWays_143 : decode cX7_findWays 143 = .ok (.iload_n 3, 1) := by decide +kernel
theorem dX7_findWays_144 : decode cX7_findWays 144 = .ok (.iaload, 1) := by decide +kernel
theorem dX7_findWays_145 : decode cX7_findWays 145 = .ok (.iastore, 1) := by decide +kernel
theorem dX7_findWays_146 : decode cX7_findWays 146 = .ok (.aload_n 0, 1) := by decide +kernel
theorem dX7_findWays_147 : decode cX7_findWays 147 = .ok (.getfield 49, 3) := by decide +kernel
theorem dX7_findWays_150 : decode cX7_findWays 150 = .ok (.iload_n 2, 1) := by decide +kernel
theorem dX7_findWays_151 : decode cX7_findWays 151 = .ok (.iload 4, 2) := by decide +kernel
theorem dX7_findWays_153 : decode cX7_findWays 153 = .ok (.aload_n 0, 1) := by decide +kernel
theorem dX7_findWays_154 : decode cX7_findWays 154 = .ok (.getfield 58, 3) := by decide +kernel
theorem dX7_findWays_157 : decode cX7_findWays 157 = .ok (.iload_n 3, 1) := by decide +kernel
theorem dX7_findWays_158 : decode cX7_findWays 158 = .ok (.iaload, 1) := by decide +kernel
theorem dX7_findWays_159 : decode cX7_findWays 159 = .ok (.isub, 1) := by decide +kernel
theorem dX7_findWays_160 : decode cX7_findWays 160 = .ok (.iastore, 1) := by decide +kernel
theorem dX7_findWays_161 : decode cX7_findWays 161 = .ok (.iload_n 3, 1) := by decide +kernel
theorem dX7_findWays_162 : decode cX7_findWays 162 = .ok (.istore 5, 2) := by decide +kernel
theorem dX7_findWays_164 : decode cX7_findWays 164 = .ok (.iconst 0, 1) := by decide +kernel
theorem dX7_findWays_165 : decode cX7_findWays 165 = .ok (.istore 6, 2) := by decide +kernel
theorem dX7_findWays_167 : decode cX7_findWays 167 = .ok (.iload 6, 2) := by decide +kernel
theorem dX7_findWays_169 : decode cX7_findWays 169 = .ok (.aload_n 0, 1) := by decide +kernel
theorem dX7_findWays_170 : decode cX7_findWays 170 = .ok (.getfield 49, 3) := by decide +kernel
theorem dX7_findWays_173 : decode cX7_findWays 173 = .ok (.iload_n 2, 1) := by decide +kernel
theorem dX7_findWays_174 : decode cX7_findWays 174 = .ok (.iaload, 1) := by decide +kernel
theorem dX7_findWays_175 : decode cX7_findWays 175 = .ok (.if_icmp .ge 30, 3) := by decide +kernel
theorem dX7_findWays_178 : decode cX7_findWays 178 = .ok (.iload_n 3, 1) := by decide +kernel
theorem dX7_findWays_179 : decode cX7_findWays 179 = .ok (.iload 5, 2) := by decide +kernel
theorem dX7_findWays_181 : decode cX7_findWays 181 = .ok (.if_icmp .ge 7, 3) := by decide +kernel
theorem dX7_findWays_184 : decode cX7_findWays 184 = .ok (.iload_n 3, 1) := by decide +kernel
theorem dX7_findWays_185 : decode cX7_findWays 185 = .ok (.goto 5, 3) := by decide +kernel
theorem dX7_findWays_188 : decode cX7_findWays 188 = .ok (.iload 5, 2) := by decide +kernel
theorem dX7_findWays_190 : decode cX7_findWays 190 = .ok (.istore 5, 2) := by decide +kernel
theorem dX7_findWays_192 : decode cX7_findWays 192 = .ok (.aload_n 0, 1) := by decide +kernel
theorem dX7_findWays_193 : decode cX7_findWays 193 = .ok (.getfield 43, 3) := by decide +kernel
theorem dX7_findWays_196 : decode cX7_findWays 196 = .ok (.iload_n 3, 1) := by decide +kernel
theorem dX7_findWays_197 : decode cX7_findWays 197 = .ok (.iaload, 1) := by decide +kernel
theorem dX7_findWays_198 : decode cX7_findWays 198 = .ok (.istore_n 3, 1) := by decide +kernel
theorem dX7_findWays_199 : decode cX7_findWays 199 = .ok (.iinc 6 1, 3) := by decide +kernel
theorem dX7_findWays_202 : decode cX7_findWays 202 = .ok (.goto (-35), 3) := by decide +kernel
theorem dX7_findWays_205 : decode cX7_findWays 205 = .ok (.aload_n 0, 1) := by decide +kernel
theorem dX7_findWays_206 : decode cX7_findWays 206 = .ok (.getfield 52, 3) := by decide +kernel
theorem dX7_findWays_209 : decode cX7_findWays 209 = .ok (.iload_n 2, 1) := by decide +kernel
theorem dX7_findWays_210 : decode cX7_findWays 210 = .ok (.iload 5, 2) := by decide +kernel
theorem dX7_findWays_212 : decode cX7_findWays 212 = .ok (.iastore, 1) := by decide +kernel
theorem dX7_findWays_213 : decode cX7_findWays 213 = .ok (.iinc 2 1, 3) := by decide +kernel
theorem dX7_findWays_216 : decode cX7_findWays 216 = .ok (.goto (-148), 3) := by decide +kernel
theorem dX7_findWays_219 : decode cX7_findWays 219 = .ok (.return_, 1) := by decide +kernel
theorem dX7_valuesOf_0 : decode cX7_valuesOf 0 = .ok (.aload_n 0, 1) := by decide +kernel
theorem dX7_valuesOf_1 : decode cX7_valuesOf 1 = .ok (.iload_n 1, 1) := by decide +kernel
theorem dX7_valuesOf_2 : decode cX7_valuesOf 2 = .ok (.invokevirtual 155, 3) := by decide +kernel
theorem dX7_valuesOf_5 : decode cX7_valuesOf 5 = .ok (.iconst 0, 1) := by decide +kernel
theorem dX7_valuesOf_6 : decode cX7_valuesOf 6 = .ok (.istore_n 2, 1) := by decide +kernel
theorem dX7_valuesOf_7 : decode cX7_valuesOf 7 = .ok (.iconst 0, 1) := by decide +kernel
theorem dX7_valuesOf_8 : decode cX7_valuesOf 8 = .ok (.istore_n 3, 1) := by decide +kernel
theorem dX7_valuesOf_9 : decode cX7_valuesOf 9 = .ok (.iload_n 3, 1) := by decide +kernel
theorem dX7_valuesOf_10 : decode cX7_valuesOf 10 = .ok (.aload_n 0, 1) := by decide +kernel
theorem dX7_valuesOf_11 : decode cX7_valuesOf 11 = .ok (.getfield 98, 3) := by decide +kernel
theorem dX7_valuesOf_14 : decode cX7_valuesOf 14 = .ok (.if_icmp .ge 26, 3) := by decide +kernel
theorem dX7_valuesOf_17 : decode cX7_valuesOf 17 = .ok (.iload_n 2, 1) := by decide +kernel
theorem dX7_valuesOf_18 : decode cX7_valuesOf 18 = .ok (.aload_n 0, 1) := by decide +kernel
theorem dX7_valuesOf_19 : decode cX7_valuesOf 19 = .ok (.getfield 55, 3) := by decide +kernel
theorem dX7_valuesOf_22 : decode cX7_valuesOf 22 = .ok (.iload_n 3, 1) := by decide +kernel
theorem dX7_valuesOf_23 : decode cX7_valuesOf 23 = .ok (.iaload, 1) := by decide +kernel
theorem dX7_valuesOf_24 : decode cX7_valuesOf 24 = .ok (.ifCond .le 7, 3) := by decide +kernel
theorem dX7_valuesOf_27 : decode cX7_valuesOf 27 = .ok (.iconst 1, 1) := by decide +kernel
theorem dX7_valuesOf_28 : decode cX7_valuesOf 28 = .ok (.goto 4, 3) := by decide +kernel
theorem dX7_valuesOf_31 : decode cX7_valuesOf 31 = .ok (.iconst 0, 1) := by decide +kernel
theorem dX7_valuesOf_32 : decode cX7_valuesOf 32 = .ok (.iadd, 1) := by decide +kernel
theorem dX7_valuesOf_33 : decode cX7_valuesOf 33 = .ok (.istore_n 2, 1) := by decide +kernel
theorem dX7_valuesOf_34 : decode cX7_valuesOf 34 = .ok (.iinc 3 1, 3) := by decide +kernel
theorem dX7_valuesOf_37 : decode cX7_valuesOf 37 = .ok (.goto (-28), 3) := by decide +kernel
theorem dX7_valuesOf_40 : decode cX7_valuesOf 40 = .ok (.iload_n 2, 1) := by decide +kernel
theorem dX7_valuesOf_41 : decode cX7_valuesOf 41 = .ok (.ireturn, 1) := by decide +kernel
theorem dX7_began_0 : decode cX7_began 0 = .ok (.aload_n 0, 1) := by decide +kernel
theorem dX7_began_1 : decode cX7_began 1 = .ok (.getfield 158, 3) := by decide +kernel
theorem dX7_began_4 : decode cX7_began 4 = .ok (.bipush 16, 2) := by decide +kernel
theorem dX7_began_6 : decode cX7_began 6 = .ok (.if_icmp .ge 23, 3) := by decide +kernel
theorem dX7_began_9 : decode cX7_began 9 = .ok (.aload_n 0, 1) := by decide +kernel
theorem dX7_began_10 : decode cX7_began 10 = .ok (.getfield 61, 3) := by decide +kernel
theorem dX7_began_13 : decode cX7_began 13 = .ok (.aload_n 0, 1) := by decide +kernel
theorem dX7_began_14 : decode cX7_began 14 = .ok (.getfield 158, 3) := by decide +kernel
theorem dX7_began_17 : decode cX7_began 17 = .ok (.iload_n 1, 1) := by decide +kernel
theorem dX7_began_18 : decode cX7_began 18 = .ok (.iastore, 1) := by decide +kernel
theorem dX7_began_19 : decode cX7_began 19 = .ok (.aload_n 0, 1) := by decide +kernel
theorem dX7_began_20 : decode cX7_began 20 = .ok (.dup, 1) := by decide +kernel
theorem dX7_began_21 : decode cX7_began 21 = .ok (.getfield 158, 3) := by decide +kernel
theorem dX7_began_24 : decode cX7_began 24 = .ok (.iconst 1, 1) := by decide +kernel
theorem dX7_began_25 : decode cX7_began 25 = .ok (.iadd, 1) := by decide +kernel
theorem dX7_began_26 : decode cX7_began 26 = .ok (.putfield 158, 3) := by decide +kernel
theorem dX7_began_29 : decode cX7_began 29 = .ok (.return_, 1) := by decide +kernel
theorem dX7_plainSize_0 : decode cX7_plainSize 0 = .ok (.aload_n 0, 1) := by decide +kernel
theorem dX7_plainSize_1 : decode cX7_plainSize 1 = .ok (.bipush 10, 2) := by decide +kernel
theorem dX7_plainSize_3 : decode cX7_plainSize 3 = .ok (.invokevirtual 161, 3) := by decide +kernel
theorem dX7_plainSize_6 : decode cX7_plainSize 6 = .ok (.aload_n 0, 1) := by decide +kernel
theorem dX7_plainSize_7 : decode cX7_plainSize 7 = .ok (.iload_n 1, 1) := by decide +kernel
theorem dX7_plainSize_8 : decode cX7_plainSize 8 = .ok (.invokevirtual 164, 3) := by decide +kernel
theorem dX7_plainSize_11 : decode cX7_plainSize 11 = .ok (.ireturn, 1) := by decide +kernel
theorem dX7_marked_0 : decode cX7_marked 0 = .ok (.aload_n 0, 1) := by decide +kernel
theorem dX7_marked_1 : decode cX7_marked 1 = .ok (.iload_n 1, 1) := by decide +kernel
theorem dX7_marked_2 : decode cX7_marked 2 = .ok (.invokevirtual 117, 3) := by decide +kernel
theorem dX7_marked_5 : decode cX7_marked 5 = .ok (.istore_n 2, 1) := by decide +kernel
theorem dX7_marked_6 : decode cX7_marked 6 = .ok (.iload_n 2, 1) := by decide +kernel
theorem dX7_marked_7 : decode cX7_marked 7 = .ok (.iconst 5, 1) := by decide +kernel
theorem dX7_marked_8 : decode cX7_marked 8 = .ok (.if_icmp .ne 30, 3) := by decide +kernel
theorem dX7_marked_11 : decode cX7_marked 11 = .ok (.aload_n 0, 1) := by decide +kernel
theorem dX7_marked_12 : decode cX7_marked 12 = .ok (.bipush 23, 2) := by decide +kernel
theorem dX7_marked_14 : decode cX7_marked 14 = .ok (.invokevirtual 161, 3) := by decide +kernel
theorem dX7_marked_17 : decode cX7_marked 17 = .ok (.aload_n 0, 1) := by decide +kernel
theorem dX7_marked_18 : decode cX7_marked 18 = .ok (.bipush 20, 2) := by decide +kernel
theorem dX7_marked_20 : decode cX7_marked 20 = .ok (.invokevirtual 161, 3) := by decide +kernel
theorem dX7_marked_23 : decode cX7_marked 23 = .ok (.aload_n 0, 1) := by decide +kernel
theorem dX7_marked_24 : decode cX7_marked 24 = .ok (.getfield 31, 3) := by decide +kernel
theorem dX7_marked_27 : decode cX7_marked 27 = .ok (.iconst 5, 1) := by decide +kernel
theorem dX7_marked_28 : decode cX7_marked 28 = .ok (.iload_n 1, 1) := by decide +kernel
theorem dX7_marked_29 : decode cX7_marked 29 = .ok (.imul, 1) := by decide +kernel
theorem dX7_marked_30 : decode cX7_marked 30 = .ok (.iaload, 1) := by decide +kernel
theorem dX7_marked_31 : decode cX7_marked 31 = .ok (.aload_n 0, 1) := by decide +kernel
theorem dX7_marked_32 : decode cX7_marked 32 = .ok (.iload_n 1, 1) := by decide +kernel
theorem dX7_marked_33 : decode cX7_marked 33 = .ok (.invokevirtual 167, 3) := by decide +kernel
theorem dX7_marked_36 : decode cX7_marked 36 = .ok (.iadd, 1) := by decide +kernel
theorem dX7_marked_37 : decode cX7_marked 37 = .ok (.ireturn, 1) := by decide +kernel
theorem dX7_marked_38 : decode cX7_marked 38 = .ok (.iload_n 2, 1) := by decide +kernel
theorem dX7_marked_39 : decode cX7_marked 39 = .ok (.iconst 4, 1) := by decide +kernel
theorem dX7_marked_40 : decode cX7_marked 40 = .ok (.if_icmp .ne 9, 3) := by decide +kernel
theorem dX7_marked_43 : decode cX7_marked 43 = .ok (.aload_n 0, 1) := by decide +kernel
theorem dX7_marked_44 : decode cX7_marked 44 = .ok (.bipush 22, 2) := by decide +kernel
theorem dX7_marked_46 : decode cX7_marked 46 = .ok (.invokevirtual 161, 3) := by decide +kernel
theorem dX7_marked_49 : decode cX7_marked 49 = .ok (.iload_n 2, 1) := by decide +kernel
theorem dX7_marked_50 : decode cX7_marked 50 = .ok (.iconst 3, 1) := by decide +kernel
theorem dX7_marked_51 : decode cX7_marked 51 = .ok (.invokestatic 147, 3) := by decide +kernel
theorem dX7_marked_54 : decode cX7_marked 54 = .ok (.ifCond .eq 9, 3) := by decide +kernel
theorem dX7_marked_57 : decode cX7_marked 57 = .ok (.aload_n 0, 1) := by decide +kernel
theorem dX7_marked_58 : decode cX7_marked 58 = .ok (.bipush 21, 2) := by decide +kernel
theorem dX7_marked_60 : decode cX7_marked 60 = .ok (.invokevirtual 161, 3) := by decide +kernel
theorem dX7_marked_63 : decode cX7_marked 63 = .ok (.aload_n 0, 1) := by decide +kernel
theorem dX7_marked_64 : decode cX7_marked 64 = .ok (.bipush 20, 2) := by decide +kernel
theorem dX7_marked_66 : decode cX7_marked 66 = .ok (.invokevirtual 161, 3) := by decide +kernel
theorem dX7_marked_69 : decode cX7_marked 69 = .ok (.aload_n 0, 1) := by decide +kernel
theorem dX7_marked_70 : decode cX7_marked 70 = .ok (.getfield 31, 3) := by decide +kernel
theorem dX7_marked_73 : decode cX7_marked 73 = .ok (.iconst 5, 1) := by decide +kernel
theorem dX7_marked_74 : decode cX7_marked 74 = .ok (.iload_n 1, 1) := by decide +kernel
theorem dX7_marked_75 : decode cX7_marked 75 = .ok (.imul, 1) := by decide +kernel
theorem dX7_marked_76 : decode cX7_marked 76 = .ok (.iaload, 1) := by decide +kernel
theorem dX7_marked_77 : decode cX7_marked 77 = .ok (.iload_n 2, 1) := by decide +kernel
theorem dX7_marked_78 : decode cX7_marked 78 = .ok (.iconst 3, 1) := by decide +kernel
theorem dX7_marked_79 : decode cX7_marked 79 = .ok (.invokestatic 147, 3) := by decide +kernel
theorem dX7_marked_82 : decode cX7_marked 82 = .ok (.ifCond .eq 10, 3) := by decide +kernel
theorem dX7_marked_85 : decode cX7_marked 85 = .ok (.aload_n 0, 1) := by decide +kernel
theorem dX7_marked_86 : decode cX7_marked 86 = .ok (.getfield 98, 3) := by decide +kernel
theorem dX7_marked_89 : decode cX7_marked 89 = .ok (.goto 4, 3) := by decide +kernel
theorem dX7_marked_92 : decode cX7_marked 92 = .ok (.iconst 0, 1) := by decide +kernel
theorem dX7_marked_93 : decode cX7_marked 93 = .ok (.iadd, 1) := by decide +kernel
theorem dX7_marked_94 : decode cX7_marked 94 = .ok (.istore_n 3, 1) := by decide +kernel
theorem dX7_marked_95 : decode cX7_marked 95 = .ok (.iload_n 2, 1) := by decide +kernel
theorem dX7_marked_96 : decode cX7_marked 96 = .ok (.iconst 4, 1) := by decide +kernel
theorem dX7_marked_97 : decode cX7_marked 97 = .ok (.if_icmp .ne 17, 3) := by decide +kernel
theorem dX7_marked_100 : decode cX7_marked 100 = .ok (.aload_n 0, 1) := by decide +kernel
theorem dX7_marked_101 : decode cX7_marked 101 = .ok (.iload_n 1, 1) := by decide +kernel
theorem dX7_marked_102 : decode cX7_marked 102 = .ok (.invokevirtual 155, 3) := by decide +kernel
theorem dX7_marked_105 : decode cX7_marked 105 = .ok (.iload_n 3, 1) := by decide +kernel
theorem dX7_marked_106 : decode cX7_marked 106 = .ok (.aload_n 0, 1) := by decide +kernel
theorem dX7_marked_107 : decode cX7_marked 107 = .ok (.getfield 49, 3) := by decide +kernel
theorem dX7_marked_110 : decode cX7_marked 110 = .ok (.iconst 0, 1) := by decide +kernel
theorem dX7_marked_111 : decode cX7_marked 111 = .ok (.iaload, 1) := by decide +kernel
theorem dX7_marked_112 : decode cX7_marked 112 = .ok (.iadd, 1) := by decide +kernel
theorem dX7_marked_113 : decode cX7_marked 113 = .ok (.istore_n 3, 1) := by decide +kernel
theorem dX7_marked_114 : decode cX7_marked 114 = .ok (.iload_n 3, 1) := by decide +kernel
theorem dX7_marked_115 : decode cX7_marked 115 = .ok (.ireturn, 1) := by decide +kernel
theorem dX7_sized_0 : decode cX7_sized 0 = .ok (.aload_n 0, 1) := by decide +kernel
theorem dX7_sized_1 : decode cX7_sized 1 = .ok (.iload_n 1, 1) := by decide +kernel
theorem dX7_sized_2 : decode cX7_sized 2 = .ok (.invokevirtual 117, 3) := by decide +kernel
theorem dX7_sized_5 : decode cX7_sized 5 = .ok (.istore_n 2, 1) := by decide +kernel
theorem dX7_sized_6 : decode cX7_sized 6 = .ok (.iload_n 2, 1) := by decide +kernel
theorem dX7_sized_7 : decode cX7_sized 7 = .ok (.iconst 2, 1) := by decide +kernel
theorem dX7_sized_8 : decode cX7_sized 8 = .ok (.if_icmp .ne 14, 3) := by decide +kernel
theorem dX7_sized_11 : decode cX7_sized 11 = .ok (.aload_n 0, 1) := by decide +kernel
theorem dX7_sized_12 : decode cX7_sized 12 = .ok (.bipush 11, 2) := by decide +kernel
theorem dX7_sized_14 : decode cX7_sized 14 = .ok (.invokevirtual 161, 3) := by decide +kernel
theorem dX7_sized_17 : decode cX7_sized 17 = .ok (.aload_n 0, 1) := by decide +kernel
theorem dX7_sized_18 : decode cX7_sized 18 = .ok (.getfield 98, 3) := by decide +kernel
theorem dX7_sized_21 : decode cX7_sized 21 = .ok (.ireturn, 1) := by decide +kernel
theorem dX7_sized_22 : decode cX7_sized 22 = .ok (.iload_n 2, 1) := by decide +kernel
theorem dX7_sized_23 : decode cX7_sized 23 = .ok (.iconst 4, 1) := by decide +kernel
theorem dX7_sized_24 : decode cX7_sized 24 = .ok (.if_icmp .ne 9, 3) := by decide +kernel
theorem dX7_sized_27 : decode cX7_sized 27 = .ok (.aload_n 0, 1) := by decide +kernel
theorem dX7_sized_28 : decode cX7_sized 28 = .ok (.bipush 13, 2) := by decide +kernel
theorem dX7_sized_30 : decode cX7_sized 30 = .ok (.invokevirtual 161, 3) := by decide +kernel
theorem dX7_sized_33 : decode cX7_sized 33 = .ok (.iload_n 2, 1) := by decide +kernel
theorem dX7_sized_34 : decode cX7_sized 34 = .ok (.iconst 3, 1) := by decide +kernel
theorem dX7_sized_35 : decode cX7_sized 35 = .ok (.invokestatic 147, 3) := by decide +kernel
theorem dX7_sized_38 : decode cX7_sized 38 = .ok (.ifCond .eq 9, 3) := by decide +kernel
theorem dX7_sized_41 : decode cX7_sized 41 = .ok (.aload_n 0, 1) := by decide +kernel
theorem dX7_sized_42 : decode cX7_sized 42 = .ok (.bipush 12, 2) := by decide +kernel
theorem dX7_sized_44 : decode cX7_sized 44 = .ok (.invokevirtual 161, 3) := by decide +kernel
theorem dX7_sized_47 : decode cX7_sized 47 = .ok (.aload_n 0, 1) := by decide +kernel
theorem dX7_sized_48 : decode cX7_sized 48 = .ok (.iload_n 1, 1) := by decide +kernel
theorem dX7_sized_49 : decode cX7_sized 49 = .ok (.invokevirtual 167, 3) := by decide +kernel
theorem dX7_sized_52 : decode cX7_sized 52 = .ok (.istore_n 3, 1) := by decide +kernel
theorem dX7_sized_53 : decode cX7_sized 53 = .ok (.iload_n 2, 1) := by decide +kernel
theorem dX7_sized_54 : decode cX7_sized 54 = .ok (.iconst 4, 1) := by decide +kernel
theorem dX7_sized_55 : decode cX7_sized 55 = .ok (.if_icmp .ne 15, 3) := by decide +kernel
theorem dX7_sized_58 : decode cX7_sized 58 = .ok (.iconst 2, 1) := by decide +kernel
theorem dX7_sized_59 : decode cX7_sized 59 = .ok (.iload_n 3, 1) := by decide +kernel
theorem dX7_sized_60 : decode cX7_sized 60 = .ok (.imul, 1) := by decide +kernel
theorem dX7_sized_61 : decode cX7_sized 61 = .ok (.aload_n 0, 1) := by decide +kernel
theorem dX7_sized_62 : decode cX7_sized 62 = .ok (.iload_n 1, 1) := by decide +kernel
theorem dX7_sized_63 : decode cX7_sized 63 = .ok (.invokevirtual 170, 3) := by decide +kernel
theorem dX7_sized_66 : decode cX7_sized 66 = .ok (.iadd, 1) := by decide +kernel
theorem dX7_sized_67 : decode cX7_sized 67 = .ok (.goto 15, 3) := by decide +kernel
theorem dX7_sized_70 : decode cX7_sized 70 = .ok (.iload_n 2, 1) := by decide +kernel
theorem dX7_sized_71 : decode cX7_sized 71 = .ok (.iconst 3, 1) := by decide +kernel
theorem dX7_sized_72 : decode cX7_sized 72 = .ok (.if_icmp .ne 9, 3) := by decide +kernel
theorem dX7_sized_75 : decode cX7_sized 75 = .ok (.iconst 2, 1) := by decide +kernel
theorem dX7_sized_76 : decode cX7_sized 76 = .ok (.iload_n 3, 1) := by decide +kernel
theorem dX7_sized_77 : decode cX7_sized 77 = .ok (.imul, 1) := by decide +kernel
theorem dX7_sized_78 : decode cX7_sized 78 = .ok (.goto 4, 3) := by decide +kernel
theorem dX7_sized_81 : decode cX7_sized 81 = .ok (.iload_n 3, 1) := by decide +kernel
theorem dX7_sized_82 : decode cX7_sized 82 = .ok (.ireturn, 1) := by decide +kernel
theorem dX7_ask_0 : decode cX7_ask 0 = .ok (.aload_n 0, 1) := by decide +kernel
theorem dX7_ask_1 : decode cX7_ask 1 = .ok (.iconst 0, 1) := by decide +kernel
theorem dX7_ask_2 : decode cX7_ask 2 = .ok (.putfield 1, 3) := by decide +kernel
theorem dX7_ask_5 : decode cX7_ask 5 = .ok (.iload_n 1, 1) := by decide +kernel
theorem dX7_ask_6 : decode cX7_ask 6 = .ok (.invokestatic 120, 3) := by decide +kernel
theorem dX7_ask_9 : decode cX7_ask 9 = .ok (.ifCond .eq 13, 3) := by decide +kernel
theorem dX7_ask_12 : decode cX7_ask 12 = .ok (.iload_n 2, 1) := by decide +kernel
theorem dX7_ask_13 : decode cX7_ask 13 = .ok (.i2l, 1) := by decide +kernel
theorem dX7_ask_14 : decode cX7_ask 14 = .ok (.lconst 0, 1) := by decide +kernel
theorem dX7_ask_15 : decode cX7_ask 15 = .ok (.lconst 1, 1) := by decide +kernel
theorem dX7_ask_16 : decode cX7_ask 16 = .ok (.invokestatic 90, 3) := by decide +kernel
theorem dX7_ask_19 : decode cX7_ask 19 = .ok (.ifCond .ne 6, 3) := by decide +kernel
theorem dX7_ask_22 : decode cX7_ask 22 = .ok (.ldc 108, 2) := by decide +kernel
theorem dX7_ask_24 : decode cX7_ask 24 = .ok (.ireturn, 1) := by decide +kernel
theorem dX7_ask_25 : decode cX7_ask 25 = .ok (.aload_n 0, 1) := by decide +kernel
theorem dX7_ask_26 : decode cX7_ask 26 = .ok (.iconst 0, 1) := by decide +kernel
theorem dX7_ask_27 : decode cX7_ask 27 = .ok (.putfield 158, 3) := by decide +kernel
theorem dX7_ask_30 : decode cX7_ask 30 = .ok (.aload_n 0, 1) := by decide +kernel
theorem dX7_ask_31 : decode cX7_ask 31 = .ok (.iload_n 1, 1) := by decide +kernel
theorem dX7_ask_32 : decode cX7_ask 32 = .ok (.invokevirtual 144, 3) := by decide +kernel
theorem dX7_ask_35 : decode cX7_ask 35 = .ok (.istore_n 3, 1) := by decide +kernel
theorem dX7_ask_36 : decode cX7_ask 36 = .ok (.iload_n 3, 1) := by decide +kernel
theorem dX7_ask_37 : decode cX7_ask 37 = .ok (.ifCond .ge 7, 3) := by decide +kernel
theorem dX7_ask_40 : decode cX7_ask 40 = .ok (.iload_n 3, 1) := by decide +kernel
theorem dX7_ask_41 : decode cX7_ask 41 = .ok (.goto 20, 3) := by decide +kernel
theorem dX7_ask_44 : decode cX7_ask 44 = .ok (.iload_n 2, 1) := by decide +kernel
theorem dX7_ask_45 : decode cX7_ask 45 = .ok (.ifCond .ne 11, 3) := by decide +kernel
theorem dX7_ask_48 : decode cX7_ask 48 = .ok (.aload_n 0, 1) := by decide +kernel
theorem dX7_ask_49 : decode cX7_ask 49 = .ok (.iload_n 1, 1) := by decide +kernel
theorem dX7_ask_50 : decode cX7_ask 50 = .ok (.invokevirtual 173, 3) := by decide +kernel
theorem dX7_ask_53 : decode cX7_ask 53 = .ok (.goto 8, 3) := by decide +kernel
theorem dX7_ask_56 : decode cX7_ask 56 = .ok (.aload_n 0, 1) := by decide +kernel
theorem dX7_ask_57 : decode cX7_ask 57 = .ok (.iload_n 1, 1) := by decide +kernel
theorem dX7_ask_58 : decode cX7_ask 58 = .ok (.invokevirtual 170, 3) := by decide +kernel
theorem dX7_ask_61 : decode cX7_ask 61 = .ok (.ireturn, 1) := by decide +kernel
theorem dX7_trace_0 : decode cX7_trace 0 = .ok (.aload_n 0, 1) := by decide +kernel
theorem dX7_trace_1 : decode cX7_trace 1 = .ok (.iconst 0, 1) := by decide +kernel
theorem dX7_trace_2 : decode cX7_trace 2 = .ok (.putfield 1, 3) := by decide +kernel
theorem dX7_trace_5 : decode cX7_trace 5 = .ok (.iload_n 1, 1) := by decide +kernel
theorem dX7_trace_6 : decode cX7_trace 6 = .ok (.i2l, 1) := by decide +kernel
theorem dX7_trace_7 : decode cX7_trace 7 = .ok (.lconst 0, 1) := by decide +kernel
theorem dX7_trace_8 : decode cX7_trace 8 = .ok (.aload_n 0, 1) := by decide +kernel
theorem dX7_trace_9 : decode cX7_trace 9 = .ok (.getfield 158, 3) := by decide +kernel
theorem dX7_trace_12 : decode cX7_trace 12 = .ok (.iconst 1, 1) := by decide +kernel
theorem dX7_trace_13 : decode cX7_trace 13 = .ok (.isub, 1) := by decide +kernel
theorem dX7_trace_14 : decode cX7_trace 14 = .ok (.i2l, 1) := by decide +kernel
theorem dX7_trace_15 : decode cX7_trace 15 = .ok (.invokestatic 90, 3) := by decide +kernel
theorem dX7_trace_18 : decode cX7_trace 18 = .ok (.ifCond .eq 12, 3) := by decide +kernel
theorem dX7_trace_21 : decode cX7_trace 21 = .ok (.aload_n 0, 1) := by decide +kernel
theorem dX7_trace_22 : decode cX7_trace 22 = .ok (.getfield 61, 3) := by decide +kernel
theorem dX7_trace_25 : decode cX7_trace 25 = .ok (.iload_n 1, 1) := by decide +kernel
theorem dX7_trace_26 : decode cX7_trace 26 = .ok (.iaload, 1) := by decide +kernel
theorem dX7_trace_27 : decode cX7_trace 27 = .ok (.goto 5, 3) := by decide +kernel
theorem dX7_trace_30 : decode cX7_trace 30 = .ok (.ldc 176, 2) := by decide +kernel
theorem dX7_trace_32 : decode cX7_trace 32 = .ok (.ireturn, 1) := by decide +kernel
theorem dX7_step_0 : decode cX7_step 0 = .ok (.aload_n 0, 1) := by decide +kernel
theorem dX7_step_1 : decode cX7_step 1 = .ok (.iconst 0, 1) := by decide +kernel
theorem dX7_step_2 : decode cX7_step 2 = .ok (.putfield 1, 3) := by decide +kernel
theorem dX7_step_5 : decode cX7_step 5 = .ok (.iload_n 1, 1) := by decide +kernel
theorem dX7_step_6 : decode cX7_step 6 = .ok (.invokestatic 120, 3) := by decide +kernel
theorem dX7_step_9 : decode cX7_step 9 = .ok (.ifCond .eq 31, 3) := by decide +kernel
theorem dX7_step_12 : decode cX7_step 12 = .ok (.iload_n 2, 1) := by decide +kernel
theorem dX7_step_13 : decode cX7_step 13 = .ok (.i2l, 1) := by decide +kernel
theorem dX7_step_14 : decode cX7_step 14 = .ok (.lconst 0, 1) := by decide +kernel
theorem dX7_step_15 : decode cX7_step 15 = .ok (.aload_n 0, 1) := by decide +kernel
theorem dX7_step_16 : decode cX7_step 16 = .ok (.getfield 98, 3) := by decide +kernel
theorem dX7_step_19 : decode cX7_step 19 = .ok (.iconst 1, 1) := by decide +kernel
theorem dX7_step_20 : decode cX7_step 20 = .ok (.isub, 1) := by decide +kernel
theorem dX7_step_21 : decode cX7_step 21 = .ok (.i2l, 1) := by decide +kernel
theorem dX7_step_22 : decode cX7_step 22 = .ok (.invokestatic 90, 3) := by decide +kernel
theorem dX7_step_25 : decode cX7_step 25 = .ok (.ifCond .eq 15, 3) := by decide +kernel
theorem dX7_step_28 : decode cX7_step 28 = .ok (.iload_n 3, 1) := by decide +kernel
theorem dX7_step_29 : decode cX7_step 29 = .ok (.i2l, 1) := by decide +kernel
theorem dX7_step_30 : decode cX7_step 30 = .ok (.lconst 0, 1) := by decide +kernel
theorem dX7_step_31 : decode cX7_step 31 = .ok (.ldc2_w 177, 3) := by decide +kernel
theorem dX7_step_34 : decode cX7_step 34 = .ok (.invokestatic 90, 3) := by decide +kernel
theorem dX7_step_37 : decode cX7_step 37 = .ok (.ifCond .ne 6, 3) := by decide +kernel
theorem dX7_step_40 : decode cX7_step 40 = .ok (.ldc 108, 2) := by decide +kernel
theorem dX7_step_42 : decode cX7_step 42 = .ok (.ireturn, 1) := by decide +kernel
theorem dX7_step_43 : decode cX7_step 43 = .ok (.aload_n 0, 1) := by decide +kernel
theorem dX7_step_44 : decode cX7_step 44 = .ok (.iload_n 1, 1) := by decide +kernel
theorem dX7_step_45 : decode cX7_step 45 = .ok (.invokevirtual 144, 3) := by decide +kernel
theorem dX7_step_48 : decode cX7_step 48 = .ok (.istore 4, 2) := by decide +kernel
theorem dX7_step_50 : decode cX7_step 50 = .ok (.iload 4, 2) := by decide +kernel
theorem dX7_step_52 : decode cX7_step 52 = .ok (.ifCond .ge 6, 3) := by decide +kernel
theorem dX7_step_55 : decode cX7_step 55 = .ok (.iload 4, 2) := by decide +kernel
theorem dX7_step_57 : decode cX7_step 57 = .ok (.ireturn, 1) := by decide +kernel
theorem dX7_step_58 : decode cX7_step 58 = .ok (.aload_n 0, 1) := by decide +kernel
theorem dX7_step_59 : decode cX7_step 59 = .ok (.iload_n 1, 1) := by decide +kernel
theorem dX7_step_60 : decode cX7_step 60 = .ok (.invokevirtual 155, 3) := by decide +kernel
theorem dX7_step_63 : decode cX7_step 63 = .ok (.iload_n 3, 1) := by decide +kernel
theorem dX7_step_64 : decode cX7_step 64 = .ok (.aload_n 0, 1) := by decide +kernel
theorem dX7_step_65 : decode cX7_step 65 = .ok (.getfield 46, 3) := by decide +kernel
theorem dX7_step_68 : decode cX7_step 68 = .ok (.iload_n 2, 1) := by decide +kernel
theorem dX7_step_69 : decode cX7_step 69 = .ok (.iaload, 1) := by decide +kernel
theorem dX7_step_70 : decode cX7_step 70 = .ok (.if_icmp .gt 7, 3) := by decide +kernel
theorem dX7_step_73 : decode cX7_step 73 = .ok (.iload_n 3, 1) := by decide +kernel
theorem dX7_step_74 : decode cX7_step 74 = .ok (.goto 25, 3) := by decide +kernel
theorem dX7_step_77 : decode cX7_step 77 = .ok (.aload_n 0, 1) := by decide +kernel
theorem dX7_step_78 : decode cX7_step 78 = .ok (.getfield 46, 3) := by decide +kernel
theorem dX7_step_81 : decode cX7_step 81 = .ok (.iload_n 2, 1) := by decide +kernel
theorem dX7_step_82 : decode cX7_step 82 = .ok (.iaload, 1) := by decide +kernel
theorem dX7_step_83 : decode cX7_step 83 = .ok (.iload_n 3, 1) := by decide +kernel
theorem dX7_step_84 : decode cX7_step 84 = .ok (.aload_n 0, 1) := by decide +kernel
theorem dX7_step_85 : decode cX7_step 85 = .ok (.getfield 46, 3) := by decide +kernel
theorem dX7_step_88 : decode cX7_step 88 = .ok (.iload_n 2, 1) := by decide +kernel
theorem dX7_step_89 : decode cX7_step 89 = .ok (.iaload, 1) := by decide +kernel
theorem dX7_step_90 : decode cX7_step 90 = .ok (.isub, 1) := by decide +kernel
theorem dX7_step_91 : decode cX7_step 91 = .ok (.aload_n 0, 1) := by decide +kernel
theorem dX7_step_92 : decode cX7_step 92 = .ok (.getfield 49, 3) := by decide +kernel
theorem dX7_step_95 : decode cX7_step 95 = .ok (.iload_n 2, 1) := by decide +kernel
theorem dX7_step_96 : decode cX7_step 96 = .ok (.iaload, 1) := by decide +kernel
theorem dX7_step_97 : decode cX7_step 97 = .ok (.irem, 1) := by decide +kernel
theorem dX7_step_98 : decode cX7_step 98 = .ok (.iadd, 1) := by decide +kernel
theorem dX7_step_99 : decode cX7_step 99 = .ok (.istore 5, 2) := by decide +kernel
theorem dX7_step_101 : decode cX7_step 101 = .ok (.iload_n 2, 1) := by decide +kernel
theorem dX7_step_102 : decode cX7_step 102 = .ok (.istore 6, 2) := by decide +kernel
theorem dX7_step_104 : decode cX7_step 104 = .ok (.iconst 0, 1) := by decide +kernel
theorem dX7_step_105 : decode cX7_step 105 = .ok (.istore 7, 2) := by decide +kernel
theorem dX7_step_107 : decode cX7_step 107 = .ok (.iload 7, 2) := by decide +kernel
theorem dX7_step_109 : decode cX7_step 109 = .ok (.iload 5, 2) := by decide +kernel
theorem dX7_step_111 : decode cX7_step 111 = .ok (.if_icmp .ge 18, 3) := by decide +kernel
theorem dX7_step_114 : decode cX7_step 114 = .ok (.aload_n 0, 1) := by decide +kernel
theorem dX7_step_115 : decode cX7_step 115 = .ok (.getfield 43, 3) := by decide +kernel
theorem dX7_step_118 : decode cX7_step 118 = .ok (.iload 6, 2) := by decide +kernel
theorem dX7_step_120 : decode cX7_step 120 = .ok (.iaload, 1) := by decide +kernel
theorem dX7_step_121 : decode cX7_step 121 = .ok (.istore 6, 2) := by decide +kernel
theorem dX7_step_123 : decode cX7_step 123 = .ok (.iinc 7 1, 3) := by decide +kernel
theorem dX7_step_126 : decode cX7_step 126 = .ok (.goto (-19), 3) := by decide +kernel
theorem dX7_step_129 : decode cX7_step 129 = .ok (.iload 6, 2) := by decide +kernel
theorem dX7_step_131 : decode cX7_step 131 = .ok (.ireturn, 1) := by decide +kernel
theorem dX7_ringOf_0 : decode cX7_ringOf 0 = .ok (.iconst 0, 1) := by decide +kernel
theorem dX7_ringOf_1 : decode cX7_ringOf 1 = .ok (.istore_n 2, 1) := by decide +kernel
theorem dX7_ringOf_2 : decode cX7_ringOf 2 = .ok (.iconst 0, 1) := by decide +kernel
theorem dX7_ringOf_3 : decode cX7_ringOf 3 = .ok (.istore_n 3, 1) := by decide +kernel
theorem dX7_ringOf_4 : decode cX7_ringOf 4 = .ok (.iload_n 3, 1) := by decide +kernel
theorem dX7_ringOf_5 : decode cX7_ringOf 5 = .ok (.iload_n 1, 1) := by decide +kernel
theorem dX7_ringOf_6 : decode cX7_ringOf 6 = .ok (.if_icmp .ge 36, 3) := by decide +kernel
theorem dX7_ringOf_9 : decode cX7_ringOf 9 = .ok (.iload_n 2, 1) := by decide +kernel
theorem dX7_ringOf_10 : decode cX7_ringOf 10 = .ok (.aload_n 0, 1) := by decide +kernel
theorem dX7_ringOf_11 : decode cX7_ringOf 11 = .ok (.getfield 46, 3) := by decide +kernel
theorem dX7_ringOf_14 : decode cX7_ringOf 14 = .ok (.iload_n 3, 1) := by decide +kernel
theorem dX7_ringOf_15 : decode cX7_ringOf 15 = .ok (.iaload, 1) := by decide +kernel
theorem dX7_ringOf_16 : decode cX7_ringOf 16 = .ok (.ifCond .ne 17, 3) := by decide +kernel
theorem dX7_ringOf_19 : decode cX7_ringOf 19 = .ok (.aload_n 0, 1) := by decide +kernel
theorem dX7_ringOf_20 : decode cX7_ringOf 20 = .ok (.getfield 52, 3) := by decide +kernel
theorem dX7_ringOf_23 : decode cX7_ringOf 23 = .ok (.iload_n 3, 1) := by decide +kernel
theorem dX7_ringOf_24 : decode cX7_ringOf 24 = .ok (.iaload, 1) := by decide +kernel
theorem dX7_ringOf_25 : decode cX7_ringOf 25 = .ok (.iload_n 3, 1) := by decide +kernel
theorem dX7_ringOf_26 : decode cX7_ringOf 26 = .ok (.if_icmp .ne 7, 3) := by decide +kernel
theorem dX7_ringOf_29 : decode cX7_ringOf 29 = .ok (.iconst 1, 1) := by decide +kernel
theorem dX7_ringOf_30 : decode cX7_ringOf 30 = .ok (.goto 4, 3) := by decide +kernel
theorem dX7_ringOf_33 : decode cX7_ringOf 33 = .ok (.iconst 0, 1) := by decide +kernel
theorem dX7_ringOf_34 : decode cX7_ringOf 34 = .ok (.iadd, 1) := by decide +kernel
theorem dX7_ringOf_35 : decode cX7_ringOf 35 = .ok (.istore_n 2, 1) := by decide +kernel
theorem dX7_ringOf_36 : decode cX7_ringOf 36 = .ok (.iinc 3 1, 3) := by decide +kernel
theorem dX7_ringOf_39 : decode cX7_ringOf 39 = .ok (.goto (-35), 3) := by decide +kernel
theorem dX7_ringOf_42 : decode cX7_ringOf 42 = .ok (.iload_n 2, 1) := by decide +kernel
theorem dX7_ringOf_43 : decode cX7_ringOf 43 = .ok (.ireturn, 1) := by decide +kernel
theorem dX7_way_0 : decode cX7_way 0 = .ok (.aload_n 0, 1) := by decide +kernel
theorem dX7_way_1 : decode cX7_way 1 = .ok (.iconst 0, 1) := by decide +kernel
theorem dX7_way_2 : decode cX7_way 2 = .ok (.putfield 1, 3) := by decide +kernel
theorem dX7_way_5 : decode cX7_way 5 = .ok (.iload_n 1, 1) := by decide +kernel
theorem dX7_way_6 : decode cX7_way 6 = .ok (.invokestatic 120, 3) := by decide +kernel
theorem dX7_way_9 : decode cX7_way 9 = .ok (.ifCond .eq 31, 3) := by decide +kernel
theorem dX7_way_12 : decode cX7_way 12 = .ok (.iload_n 2, 1) := by decide +kernel
theorem dX7_way_13 : decode cX7_way 13 = .ok (.i2l, 1) := by decide +kernel
theorem dX7_way_14 : decode cX7_way 14 = .ok (.lconst 0, 1) := by decide +kernel
theorem dX7_way_15 : decode cX7_way 15 = .ok (.aload_n 0, 1) := by decide +kernel
theorem dX7_way_16 : decode cX7_way 16 = .ok (.getfield 98, 3) := by decide +kernel
theorem dX7_way_19 : decode cX7_way 19 = .ok (.iconst 1, 1) := by decide +kernel
theorem dX7_way_20 : decode cX7_way 20 = .ok (.isub, 1) := by decide +kernel
theorem dX7_way_21 : decode cX7_way 21 = .ok (.i2l, 1) := by decide +kernel
theorem dX7_way_22 : decode cX7_way 22 = .ok (.invokestatic 90, 3) := by decide +kernel
theorem dX7_way_25 : decode cX7_way 25 = .ok (.ifCond .eq 15, 3) := by decide +kernel
theorem dX7_way_28 : decode cX7_way 28 = .ok (.iload_n 3, 1) := by decide +kernel
theorem dX7_way_29 : decode cX7_way 29 = .ok (.i2l, 1) := by decide +kernel
theorem dX7_way_30 : decode cX7_way 30 = .ok (.lconst 0, 1) := by decide +kernel
theorem dX7_way_31 : decode cX7_way 31 = .ok (.ldc2_w 86, 3) := by decide +kernel
theorem dX7_way_34 : decode cX7_way 34 = .ok (.invokestatic 90, 3) := by decide +kernel
theorem dX7_way_37 : decode cX7_way 37 = .ok (.ifCond .ne 6, 3) := by decide +kernel
theorem dX7_way_40 : decode cX7_way 40 = .ok (.ldc 108, 2) := by decide +kernel
theorem dX7_way_42 : decode cX7_way 42 = .ok (.ireturn, 1) := by decide +kernel
theorem dX7_way_43 : decode cX7_way 43 = .ok (.aload_n 0, 1) := by decide +kernel
theorem dX7_way_44 : decode cX7_way 44 = .ok (.iload_n 1, 1) := by decide +kernel
theorem dX7_way_45 : decode cX7_way 45 = .ok (.invokevirtual 144, 3) := by decide +kernel
theorem dX7_way_48 : decode cX7_way 48 = .ok (.istore 4, 2) := by decide +kernel
theorem dX7_way_50 : decode cX7_way 50 = .ok (.iload 4, 2) := by decide +kernel
theorem dX7_way_52 : decode cX7_way 52 = .ok (.ifCond .ge 6, 3) := by decide +kernel
theorem dX7_way_55 : decode cX7_way 55 = .ok (.iload 4, 2) := by decide +kernel
theorem dX7_way_57 : decode cX7_way 57 = .ok (.ireturn, 1) := by decide +kernel
theorem dX7_way_58 : decode cX7_way 58 = .ok (.aload_n 0, 1) := by decide +kernel
theorem dX7_way_59 : decode cX7_way 59 = .ok (.iload_n 1, 1) := by decide +kernel
theorem dX7_way_60 : decode cX7_way 60 = .ok (.invokevirtual 155, 3) := by decide +kernel
theorem dX7_way_63 : decode cX7_way 63 = .ok (.iload_n 3, 1) := by decide +kernel
theorem dX7_way_64 : decode cX7_way 64 = .ok (.ifCond .ne 12, 3) := by decide +kernel
theorem dX7_way_67 : decode cX7_way 67 = .ok (.aload_n 0, 1) := by decide +kernel
theorem dX7_way_68 : decode cX7_way 68 = .ok (.getfield 46, 3) := by decide +kernel
theorem dX7_way_71 : decode cX7_way 71 = .ok (.iload_n 2, 1) := by decide +kernel
theorem dX7_way_72 : decode cX7_way 72 = .ok (.iaload, 1) := by decide +kernel
theorem dX7_way_73 : decode cX7_way 73 = .ok (.goto 41, 3) := by decide +kernel
theorem dX7_way_76 : decode cX7_way 76 = .ok (.iload_n 3, 1) := by decide +kernel
theorem dX7_way_77 : decode cX7_way 77 = .ok (.iconst 1, 1) := by decide +kernel
theorem dX7_way_78 : decode cX7_way 78 = .ok (.if_icmp .ne 12, 3) := by decide +kernel
theorem dX7_way_81 : decode cX7_way 81 = .ok (.aload_n 0, 1) := by decide +kernel
theorem dX7_way_82 : decode cX7_way 82 = .ok (.getfield 49, 3) := by decide +kernel
theorem dX7_way_85 : decode cX7_way 85 = .ok (.iload_n 2, 1) := by decide +kernel
theorem dX7_way_86 : decode cX7_way 86 = .ok (.iaload, 1) := by decide +kernel
theorem dX7_way_87 : decode cX7_way 87 = .ok (.goto 27, 3) := by decide +kernel
theorem dX7_way_90 : decode cX7_way 90 = .ok (.iload_n 3, 1) := by decide +kernel
theorem dX7_way_91 : decode cX7_way 91 = .ok (.iconst 2, 1) := by decide +kernel
theorem dX7_way_92 : decode cX7_way 92 = .ok (.if_icmp .ne 16, 3) := by decide +kernel
theorem dX7_way_95 : decode cX7_way 95 = .ok (.aload_n 0, 1) := by decide +kernel
theorem dX7_way_96 : decode cX7_way 96 = .ok (.aload_n 0, 1) := by decide +kernel
theorem dX7_way_97 : decode cX7_way 97 = .ok (.getfield 52, 3) := by decide +kernel
theorem dX7_way_100 : decode cX7_way 100 = .ok (.iload_n 2, 1) := by decide +kernel
theorem dX7_way_101 : decode cX7_way 101 = .ok (.iaload, 1) := by decide +kernel
theorem dX7_way_102 : decode cX7_way 102 = .ok (.invokevirtual 179, 3) := by decide +kernel
theorem dX7_way_105 : decode cX7_way 105 = .ok (.goto 9, 3) := by decide +kernel
theorem dX7_way_108 : decode cX7_way 108 = .ok (.aload_n 0, 1) := by decide +kernel
theorem dX7_way_109 : decode cX7_way 109 = .ok (.getfield 55, 3) := by decide +kernel
theorem dX7_way_112 : decode cX7_way 112 = .ok (.iload_n 2, 1) := by decide +kernel
theorem dX7_way_113 : decode cX7_way 113 = .ok (.iaload, 1) := by decide +kernel
theorem dX7_way_114 : decode cX7_way 114 = .ok (.ireturn, 1) := by decide +kernel
theorem dX7_times_0 : decode cX7_times 0 = .ok (.iconst 1, 1) := by decide +kernel
theorem dX7_times_1 : decode cX7_times 1 = .ok (.istore_n 3, 1) := by decide +kernel
theorem dX7_times_2 : decode cX7_times 2 = .ok (.iload_n 2, 1) := by decide +kernel
theorem dX7_times_3 : decode cX7_times 3 = .ok (.istore 4, 2) := by decide +kernel
theorem dX7_times_5 : decode cX7_times 5 = .ok (.iconst 0, 1) := by decide +kernel
theorem dX7_times_6 : decode cX7_times 6 = .ok (.istore 5, 2) := by decide +kernel
theorem dX7_times_8 : decode cX7_times 8 = .ok (.iload 5, 2) := by decide +kernel
theorem dX7_times_10 : decode cX7_times 10 = .ok (.aload_n 0, 1) := by decide +kernel
theorem dX7_times_11 : decode cX7_times 11 = .ok (.getfield 49, 3) := by decide +kernel
theorem dX7_times_14 : decode cX7_times 14 = .ok (.iload_n 2, 1) := by decide +kernel
theorem dX7_times_15 : decode cX7_times 15 = .ok (.iaload, 1) := by decide +kernel
theorem dX7_times_16 : decode cX7_times 16 = .ok (.if_icmp .ge 33, 3) := by decide +kernel
theorem dX7_times_19 : decode cX7_times 19 = .ok (.iload_n 3, 1) := by decide +kernel
theorem dX7_times_20 : decode cX7_times 20 = .ok (.aload_n 0, 1) := by decide +kernel
theorem dX7_times_21 : decode cX7_times 21 = .ok (.iload_n 1, 1) := by decide +kernel
theorem dX7_times_22 : decode cX7_times 22 = .ok (.iload 4, 2) := by decide +kernel
theorem dX7_times_24 : decode cX7_times 24 = .ok (.invokevirtual 182, 3) := by decide +kernel
theorem dX7_times_27 : decode cX7_times 27 = .ok (.imul, 1) := by decide +kernel
theorem dX7_times_28 : decode cX7_times 28 = .ok (.aload_n 0, 1) := by decide +kernel
theorem dX7_times_29 : decode cX7_times 29 = .ok (.getfield 98, 3) := by decide +kernel
theorem dX7_times_32 : decode cX7_times 32 = .ok (.irem, 1) := by decide +kernel
theorem dX7_times_33 : decode cX7_times 33 = .ok (.istore_n 3, 1) := by decide +kernel
theorem dX7_times_34 : decode cX7_times 34 = .ok (.aload_n 0, 1) := by decide +kernel
theorem dX7_times_35 : decode cX7_times 35 = .ok (.getfield 43, 3) := by decide +kernel
theorem dX7_times_38 : decode cX7_times 38 = .ok (.iload 4, 2) := by decide +kernel
theorem dX7_times_40 : decode cX7_times 40 = .ok (.iaload, 1) := by decide +kernel
theorem dX7_times_41 : decode cX7_times 41 = .ok (.istore 4, 2) := by decide +kernel
theorem dX7_times_43 : decode cX7_times 43 = .ok (.iinc 5 1, 3) := by decide +kernel
theorem dX7_times_46 : decode cX7_times 46 = .ok (.goto (-38), 3) := by decide +kernel
theorem dX7_times_49 : decode cX7_times 49 = .ok (.iload_n 3, 1) := by decide +kernel
theorem dX7_times_50 : decode cX7_times 50 = .ok (.ireturn, 1) := by decide +kernel
theorem dX7_ring_0 : decode cX7_ring 0 = .ok (.aload_n 0, 1) := by decide +kernel
theorem dX7_ring_1 : decode cX7_ring 1 = .ok (.iconst 0, 1) := by decide +kernel
theorem dX7_ring_2 : decode cX7_ring 2 = .ok (.putfield 1, 3) := by decide +kernel
theorem dX7_ring_5 : decode cX7_ring 5 = .ok (.iload_n 1, 1) := by decide +kernel
theorem dX7_ring_6 : decode cX7_ring 6 = .ok (.invokestatic 120, 3) := by decide +kernel
theorem dX7_ring_9 : decode cX7_ring 9 = .ok (.ifCond .eq 15, 3) := by decide +kernel
theorem dX7_ring_12 : decode cX7_ring 12 = .ok (.iload_n 3, 1) := by decide +kernel
theorem dX7_ring_13 : decode cX7_ring 13 = .ok (.i2l, 1) := by decide +kernel
theorem dX7_ring_14 : decode cX7_ring 14 = .ok (.lconst 0, 1) := by decide +kernel
theorem dX7_ring_15 : decode cX7_ring 15 = .ok (.ldc2_w 86, 3) := by decide +kernel
theorem dX7_ring_18 : decode cX7_ring 18 = .ok (.invokestatic 90, 3) := by decide +kernel
theorem dX7_ring_21 : decode cX7_ring 21 = .ok (.ifCond .ne 6, 3) := by decide +kernel
theorem dX7_ring_24 : decode cX7_ring 24 = .ok (.ldc 108, 2) := by decide +kernel
theorem dX7_ring_26 : decode cX7_ring 26 = .ok (.ireturn, 1) := by decide +kernel
theorem dX7_ring_27 : decode cX7_ring 27 = .ok (.aload_n 0, 1) := by decide +kernel
theorem dX7_ring_28 : decode cX7_ring 28 = .ok (.iload_n 1, 1) := by decide +kernel
theorem dX7_ring_29 : decode cX7_ring 29 = .ok (.invokevirtual 144, 3) := by decide +kernel
theorem dX7_ring_32 : decode cX7_ring 32 = .ok (.istore 4, 2) := by decide +kernel
theorem dX7_ring_34 : decode cX7_ring 34 = .ok (.iload 4, 2) := by decide +kernel
theorem dX7_ring_36 : decode cX7_ring 36 = .ok (.ifCond .ge 6, 3) := by decide +kernel
theorem dX7_ring_39 : decode cX7_ring 39 = .ok (.iload 4, 2) := by decide +kernel
theorem dX7_ring_41 : decode cX7_ring 41 = .ok (.ireturn, 1) := by decide +kernel
theorem dX7_ring_42 : decode cX7_ring 42 = .ok (.aload_n 0, 1) := by decide +kernel
theorem dX7_ring_43 : decode cX7_ring 43 = .ok (.iload_n 1, 1) := by decide +kernel
theorem dX7_ring_44 : decode cX7_ring 44 = .ok (.invokevirtual 155, 3) := by decide +kernel
theorem dX7_ring_47 : decode cX7_ring 47 = .ok (.iconst 0, 1) := by decide +kernel
theorem dX7_ring_48 : decode cX7_ring 48 = .ok (.istore 5, 2) := by decide +kernel
theorem dX7_ring_50 : decode cX7_ring 50 = .ok (.ldc 176, 2) := by decide +kernel
theorem dX7_ring_52 : decode cX7_ring 52 = .ok (.istore 6, 2) := by decide +kernel
theorem dX7_ring_54 : decode cX7_ring 54 = .ok (.iconst 0, 1) := by decide +kernel
theorem dX7_ring_55 : decode cX7_ring 55 = .ok (.istore 7, 2) := by decide +kernel
theorem dX7_ring_57 : decode cX7_ring 57 = .ok (.iload 7, 2) := by decide +kernel
theorem dX7_ring_59 : decode cX7_ring 59 = .ok (.aload_n 0, 1) := by decide +kernel
theorem dX7_ring_60 : decode cX7_ring 60 = .ok (.getfield 98, 3) := by decide +kernel
theorem dX7_ring_63 : decode cX7_ring 63 = .ok (.if_icmp .ge 49, 3) := by decide +kernel
theorem dX7_ring_66 : decode cX7_ring 66 = .ok (.aload_n 0, 1) := by decide +kernel
theorem dX7_ring_67 : decode cX7_ring 67 = .ok (.getfield 46, 3) := by decide +kernel
theorem dX7_ring_70 : decode cX7_ring 70 = .ok (.iload 7, 2) := by decide +kernel
theorem dX7_ring_72 : decode cX7_ring 72 = .ok (.iaload, 1) := by decide +kernel
theorem dX7_ring_73 : decode cX7_ring 73 = .ok (.ifCond .ne 33, 3) := by decide +kernel
theorem dX7_ring_76 : decode cX7_ring 76 = .ok (.aload_n 0, 1) := by decide +kernel
theorem dX7_ring_77 : decode cX7_ring 77 = .ok (.getfield 52, 3) := by decide +kernel
theorem dX7_ring_80 : decode cX7_ring 80 = .ok (.iload 7, 2) := by decide +kernel
theorem dX7_ring_82 : decode cX7_ring 82 = .ok (.iaload, 1) := by decide +kernel
theorem dX7_ring_83 : decode cX7_ring 83 = .ok (.iload 7, 2) := by decide +kernel
theorem dX7_ring_85 : decode cX7_ring 85 = .ok (.if_icmp .ne 21, 3) := by decide +kernel
theorem dX7_ring_88 : decode cX7_ring 88 = .ok (.iload 5, 2) := by decide +kernel
theorem dX7_ring_90 : decode cX7_ring 90 = .ok (.iload_n 2, 1) := by decide +kernel
theorem dX7_ring_91 : decode cX7_ring 91 = .ok (.if_icmp .ne 8, 3) := by decide +kernel
theorem dX7_ring_94 : decode cX7_ring 94 = .ok (.iload 7, 2) := by decide +kernel
theorem dX7_ring_96 : decode cX7_ring 96 = .ok (.goto 5, 3) := by decide +kernel
theorem dX7_ring_99 : decode cX7_ring 99 = .ok (.iload 6, 2) := by decide +kernel
theorem dX7_ring_101 : decode cX7_ring 101 = .ok (.istore 6, 2) := by decide +kernel
theorem dX7_ring_103 : decode cX7_ring 103 = .ok (.iinc 5 1, 3) := by decide +kernel
theorem dX7_ring_106 : decode cX7_ring 106 = .ok (.iinc 7 1, 3) := by decide +kernel
theorem dX7_ring_109 : decode cX7_ring 109 = .ok (.goto (-52), 3) := by decide +kernel
theorem dX7_ring_112 : decode cX7_ring 112 = .ok (.iload 6, 2) := by decide +kernel
theorem dX7_ring_114 : decode cX7_ring 114 = .ok (.ldc 176, 2) := by decide +kernel
theorem dX7_ring_116 : decode cX7_ring 116 = .ok (.if_icmp .ne 6, 3) := by decide +kernel
theorem dX7_ring_119 : decode cX7_ring 119 = .ok (.ldc 176, 2) := by decide +kernel
theorem dX7_ring_121 : decode cX7_ring 121 = .ok (.ireturn, 1) := by decide +kernel
theorem dX7_ring_122 : decode cX7_ring 122 = .ok (.iconst 0, 1) := by decide +kernel
theorem dX7_ring_123 : decode cX7_ring 123 = .ok (.istore 7, 2) := by decide +kernel
theorem dX7_ring_125 : decode cX7_ring 125 = .ok (.iconst 0, 1) := by decide +kernel
theorem dX7_ring_126 : decode cX7_ring 126 = .ok (.istore 8, 2) := by decide +kernel
theorem dX7_ring_128 : decode cX7_ring 128 = .ok (.iload 8, 2) := by decide +kernel
theorem dX7_ring_130 : decode cX7_ring 130 = .ok (.aload_n 0, 1) := by decide +kernel
theorem dX7_ring_131 : decode cX7_ring 131 = .ok (.getfield 98, 3) := by decide +kernel
theorem dX7_ring_134 : decode cX7_ring 134 = .ok (.if_icmp .ge 31, 3) := by decide +kernel
theorem dX7_ring_137 : decode cX7_ring 137 = .ok (.iload 7, 2) := by decide +kernel
theorem dX7_ring_139 : decode cX7_ring 139 = .ok (.aload_n 0, 1) := by decide +kernel
theorem dX7_ring_140 : decode cX7_ring 140 = .ok (.getfield 52, 3) := by decide +kernel
theorem dX7_ring_143 : decode cX7_ring 143 = .ok (.iload 8, 2) := by decide +kernel
theorem dX7_ring_145 : decode cX7_ring 145 = .ok (.iaload, 1) := by decide +kernel
theorem dX7_ring_146 : decode cX7_ring 146 = .ok (.iload 6, 2) := by decide +kernel
theorem dX7_ring_148 : decode cX7_ring 148 = .ok (.if_icmp .ne 7, 3) := by decide +kernel
theorem dX7_ring_151 : decode cX7_ring 151 = .ok (.iconst 1, 1) := by decide +kernel
theorem dX7_ring_152 : decode cX7_ring 152 = .ok (.goto 4, 3) := by decide +kernel
theorem dX7_ring_155 : decode cX7_ring 155 = .ok (.iconst 0, 1) := by decide +kernel
theorem dX7_ring_156 : decode cX7_ring 156 = .ok (.iadd, 1) := by decide +kernel
theorem dX7_ring_157 : decode cX7_ring 157 = .ok (.istore 7, 2) := by decide +kernel
theorem dX7_ring_159 : decode cX7_ring 159 = .ok (.iinc 8 1, 3) := by decide +kernel
theorem dX7_ring_162 : decode cX7_ring 162 = .ok (.goto (-34), 3) := by decide +kernel
theorem dX7_ring_165 : decode cX7_ring 165 = .ok (.iload_n 3, 1) := by decide +kernel
theorem dX7_ring_166 : decode cX7_ring 166 = .ok (.ifCond .ne 13, 3) := by decide +kernel
theorem dX7_ring_169 : decode cX7_ring 169 = .ok (.aload_n 0, 1) := by decide +kernel
theorem dX7_ring_170 : decode cX7_ring 170 = .ok (.getfield 49, 3) := by decide +kernel
theorem dX7_ring_173 : decode cX7_ring 173 = .ok (.iload 6, 2) := by decide +kernel
theorem dX7_ring_175 : decode cX7_ring 175 = .ok (.iaload, 1) := by decide +kernel
theorem dX7_ring_176 : decode cX7_ring 176 = .ok (.goto 30, 3) := by decide +kernel
theorem dX7_ring_179 : decode cX7_ring 179 = .ok (.iload_n 3, 1) := by decide +kernel
theorem dX7_ring_180 : decode cX7_ring 180 = .ok (.iconst 1, 1) := by decide +kernel
theorem dX7_ring_181 : decode cX7_ring 181 = .ok (.if_icmp .ne 8, 3) := by decide +kernel
theorem dX7_ring_184 : decode cX7_ring 184 = .ok (.iload 6, 2) := by decide +kernel
theorem dX7_ring_186 : decode cX7_ring 186 = .ok (.goto 20, 3) := by decide +kernel
theorem dX7_ring_189 : decode cX7_ring 189 = .ok (.iload_n 3, 1) := by decide +kernel
theorem dX7_ring_190 : decode cX7_ring 190 = .ok (.iconst 2, 1) := by decide +kernel
theorem dX7_ring_191 : decode cX7_ring 191 = .ok (.if_icmp .ne 13, 3) := by decide +kernel
theorem dX7_ring_194 : decode cX7_ring 194 = .ok (.aload_n 0, 1) := by decide +kernel
theorem dX7_ring_195 : decode cX7_ring 195 = .ok (.iload_n 1, 1) := by decide +kernel
theorem dX7_ring_196 : decode cX7_ring 196 = .ok (.iload 6, 2) := by decide +kernel
theorem dX7_ring_198 : decode cX7_ring 198 = .ok (.invokevirtual 185, 3) := by decide +kernel
theorem dX7_ring_201 : decode cX7_ring 201 = .ok (.goto 5, 3) := by decide +kernel
theorem dX7_ring_204 : decode cX7_ring 204 = .ok (.iload 7, 2) := by decide +kernel
theorem dX7_ring_206 : decode cX7_ring 206 = .ok (.ireturn, 1) := by decide +kernel
theorem dX7_all_0 : decode cX7_all 0 = .ok (.aload_n 0, 1) := by decide +kernel
theorem dX7_all_1 : decode cX7_all 1 = .ok (.iconst 0, 1) := by decide +kernel
theorem dX7_all_2 : decode cX7_all 2 = .ok (.putfield 1, 3) := by decide +kernel
theorem dX7_all_5 : decode cX7_all 5 = .ok (.iload_n 1, 1) := by decide +kernel
theorem dX7_all_6 : decode cX7_all 6 = .ok (.invokestatic 120, 3) := by decide +kernel
theorem dX7_all_9 : decode cX7_all 9 = .ok (.ifCond .eq 15, 3) := by decide +kernel
theorem dX7_all_12 : decode cX7_all 12 = .ok (.iload_n 2, 1) := by decide +kernel
theorem dX7_all_13 : decode cX7_all 13 = .ok (.i2l, 1) := by decide +kernel
theorem dX7_all_14 : decode cX7_all 14 = .ok (.lconst 0, 1) := by decide +kernel
theorem dX7_all_15 : decode cX7_all 15 = .ok (.ldc2_w 123, 3) := by decide +kernel
theorem dX7_all_18 : decode cX7_all 18 = .ok (.invokestatic 90, 3) := by decide +kernel
theorem dX7_all_21 : decode cX7_all 21 = .ok (.ifCond .ne 6, 3) := by decide +kernel
theorem dX7_all_24 : decode cX7_all 24 = .ok (.ldc 108, 2) := by decide +kernel
theorem dX7_all_26 : decode cX7_all 26 = .ok (.ireturn, 1) := by decide +kernel
theorem dX7_all_27 : decode cX7_all 27 = .ok (.aload_n 0, 1) := by decide +kernel
theorem dX7_all_28 : decode cX7_all 28 = .ok (.iload_n 1, 1) := by decide +kernel
theorem dX7_all_29 : decode cX7_all 29 = .ok (.invokevirtual 144, 3) := by decide +kernel
theorem dX7_all_32 : decode cX7_all 32 = .ok (.istore_n 3, 1) := by decide +kernel
theorem dX7_all_33 : decode cX7_all 33 = .ok (.iload_n 3, 1) := by decide +kernel
theorem dX7_all_34 : decode cX7_all 34 = .ok (.ifCond .ge 5, 3) := by decide +kernel
theorem dX7_all_37 : decode cX7_all 37 = .ok (.iload_n 3, 1) := by decide +kernel
theorem dX7_all_38 : decode cX7_all 38 = .ok (.ireturn, 1) := by decide +kernel
theorem dX7_all_39 : decode cX7_all 39 = .ok (.aload_n 0, 1) := by decide +kernel
theorem dX7_all_40 : decode cX7_all 40 = .ok (.iload_n 1, 1) := by decide +kernel
theorem dX7_all_41 : decode cX7_all 41 = .ok (.invokevirtual 155, 3) := by decide +kernel
theorem dX7_all_44 : decode cX7_all 44 = .ok (.iconst 0, 1) := by decide +kernel
theorem dX7_all_45 : decode cX7_all 45 = .ok (.istore 4, 2) := by decide +kernel
theorem dX7_all_47 : decode cX7_all 47 = .ok (.iconst 0, 1) := by decide +kernel
theorem dX7_all_48 : decode cX7_all 48 = .ok (.istore 5, 2) := by decide +kernel
theorem dX7_all_50 : decode cX7_all 50 = .ok (.iconst 0, 1) := by decide +kernel
theorem dX7_all_51 : decode cX7_all 51 = .ok (.istore 6, 2) := by decide +kernel
theorem dX7_all_53 : decode cX7_all 53 = .ok (.iconst 0, 1) := by decide +kernel
theorem dX7_all_54 : decode cX7_all 54 = .ok (.istore 7, 2) := by decide +kernel
theorem dX7_all_56 : decode cX7_all 56 = .ok (.iconst 0, 1) := by decide +kernel
theorem dX7_all_57 : decode cX7_all 57 = .ok (.istore 8, 2) := by decide +kernel
theorem dX7_all_59 : decode cX7_all 59 = .ok (.iconst 0, 1) := by decide +kernel
theorem dX7_all_60 : decode cX7_all 60 = .ok (.istore 9, 2) := by decide +kernel
theorem dX7_all_62 : decode cX7_all 62 = .ok (.iconst 0, 1) := by decide +kernel
theorem dX7_all_63 : decode cX7_all 63 = .ok (.istore 10, 2) := by decide +kernel
theorem dX7_all_65 : decode cX7_all 65 = .ok (.iload 10, 2) := by decide +kernel
theorem dX7_all_67 : decode cX7_all 67 = .ok (.aload_n 0, 1) := by decide +kernel
theorem dX7_all_68 : decode cX7_all 68 = .ok (.getfield 98, 3) := by decide +kernel
theorem dX7_all_71 : decode cX7_all 71 = .ok (.if_icmp .ge 170, 3) := by decide +kernel
theorem dX7_all_74 : decode cX7_all 74 = .ok (.aload_n 0, 1) := by decide +kernel
theorem dX7_all_75 : decode cX7_all 75 = .ok (.getfield 46, 3) := by decide +kernel
theorem dX7_all_78 : decode cX7_all 78 = .ok (.iload 10, 2) := by decide +kernel
theorem dX7_all_80 : decode cX7_all 80 = .ok (.iaload, 1) := by decide +kernel
theorem dX7_all_81 : decode cX7_all 81 = .ok (.ifCond .ne 19, 3) := by decide +kernel
theorem dX7_all_84 : decode cX7_all 84 = .ok (.aload_n 0, 1) := by decide +kernel
theorem dX7_all_85 : decode cX7_all 85 = .ok (.getfield 52, 3) := by decide +kernel
theorem dX7_all_88 : decode cX7_all 88 = .ok (.iload 10, 2) := by decide +kernel
theorem dX7_all_90 : decode cX7_all 90 = .ok (.iaload, 1) := by decide +kernel
theorem dX7_all_91 : decode cX7_all 91 = .ok (.iload 10, 2) := by decide +kernel
theorem dX7_all_93 : decode cX7_all 93 = .ok (.if_icmp .ne 7, 3) := by decide +kernel
theorem dX7_all_96 : decode cX7_all 96 = .ok (.iconst 1, 1) := by decide +kernel
theorem dX7_all_97 : decode cX7_all 97 = .ok (.goto 4, 3) := by decide +kernel
theorem dX7_all_100 : decode cX7_all 100 = .ok (.iconst 0, 1) := by decide +kernel
theorem dX7_all_101 : decode cX7_all 101 = .ok (.istore 11, 2) := by decide +kernel
theorem dX7_all_103 : decode cX7_all 103 = .ok (.iload 4, 2) := by decide +kernel
theorem dX7_all_105 : decode cX7_all 105 = .ok (.iload 11, 2) := by decide +kernel
theorem dX7_all_107 : decode cX7_all 107 = .ok (.ifCond .eq 7, 3) := by decide +kernel
theorem dX7_all_110 : decode cX7_all 110 = .ok (.iconst 1, 1) := by decide +kernel
theorem dX7_all_111 : decode cX7_all 111 = .ok (.goto 4, 3) := by decide +kernel
theorem dX7_all_114 : decode cX7_all 114 = .ok (.iconst 0, 1) := by decide +kernel
theorem dX7_all_115 : decode cX7_all 115 = .ok (.iadd, 1) := by decide +kernel
theorem dX7_all_116 : decode cX7_all 116 = .ok (.istore 4, 2) := by decide +kernel
theorem dX7_all_118 : decode cX7_all 118 = .ok (.iload 5, 2) := by decide +kernel
theorem dX7_all_120 : decode cX7_all 120 = .ok (.aload_n 0, 1) := by decide +kernel
theorem dX7_all_121 : decode cX7_all 121 = .ok (.getfield 46, 3) := by decide +kernel
theorem dX7_all_124 : decode cX7_all 124 = .ok (.iload 10, 2) := by decide +kernel
theorem dX7_all_126 : decode cX7_all 126 = .ok (.iaload, 1) := by decide +kernel
theorem dX7_all_127 : decode cX7_all 127 = .ok (.ifCond .ne 7, 3) := by decide +kernel
theorem dX7_all_130 : decode cX7_all 130 = .ok (.iconst 1, 1) := by decide +kernel
theorem dX7_all_131 : decode cX7_all 131 = .ok (.goto 4, 3) := by decide +kernel
theorem dX7_all_134 : decode cX7_all 134 = .ok (.iconst 0, 1) := by decide +kernel
theorem dX7_all_135 : decode cX7_all 135 = .ok (.iadd, 1) := by decide +kernel
theorem dX7_all_136 : decode cX7_all 136 = .ok (.istore 5, 2) := by decide +kernel
theorem dX7_all_138 : decode cX7_all 138 = .ok (.aload_n 0, 1) := by decide +kernel
theorem dX7_all_139 : decode cX7_all 139 = .ok (.getfield 49, 3) := by decide +kernel
theorem dX7_all_142 : decode cX7_all 142 = .ok (.iload 10, 2) := by decide +kernel
theorem dX7_all_144 : decode cX7_all 144 = .ok (.iaload, 1) := by decide +kernel
theorem dX7_all_145 : decode cX7_all 145 = .ok (.iload 6, 2) := by decide +kernel
theorem dX7_all_147 : decode cX7_all 147 = .ok (.if_icmp .le 13, 3) := by decide +kernel
theorem dX7_all_150 : decode cX7_all 150 = .ok (.aload_n 0, 1) := by decide +kernel
theorem dX7_all_151 : decode cX7_all 151 = .ok (.getfield 49, 3) := by decide +kernel
theorem dX7_all_154 : decode cX7_all 154 = .ok (.iload 10, 2) := by decide +kernel
theorem dX7_all_156 : decode cX7_all 156 = .ok (.iaload, 1) := by decide +kernel
theorem dX7_all_157 : decode cX7_all 157 = .ok (.goto 5, 3) := by decide +kernel
theorem dX7_all_160 : decode cX7_all 160 = .ok (.iload 6, 2) := by decide +kernel
theorem dX7_all_162 : decode cX7_all 162 = .ok (.istore 6, 2) := by decide +kernel
theorem dX7_all_164 : decode cX7_all 164 = .ok (.aload_n 0, 1) := by decide +kernel
theorem dX7_all_165 : decode cX7_all 165 = .ok (.getfield 46, 3) := by decide +kernel
theorem dX7_all_168 : decode cX7_all 168 = .ok (.iload 10, 2) := by decide +kernel
theorem dX7_all_170 : decode cX7_all 170 = .ok (.iaload, 1) := by decide +kernel
theorem dX7_all_171 : decode cX7_all 171 = .ok (.iload 7, 2) := by decide +kernel
theorem dX7_all_173 : decode cX7_all 173 = .ok (.if_icmp .le 13, 3) := by decide +kernel
theorem dX7_all_176 : decode cX7_all 176 = .ok (.aload_n 0, 1) := by decide +kernel
theorem dX7_all_177 : decode cX7_all 177 = .ok (.getfield 46, 3) := by decide +kernel
theorem dX7_all_180 : decode cX7_all 180 = .ok (.iload 10, 2) := by decide +kernel
theorem dX7_all_182 : decode cX7_all 182 = .ok (.iaload, 1) := by decide +kernel
theorem dX7_all_183 : decode cX7_all 183 = .ok (.goto 5, 3) := by decide +kernel
theorem dX7_all_186 : decode cX7_all 186 = .ok (.iload 7, 2) := by decide +kernel
theorem dX7_all_188 : decode cX7_all 188 = .ok (.istore 7, 2) := by decide +kernel
theorem dX7_all_190 : decode cX7_all 190 = .ok (.iload 8, 2) := by decide +kernel
theorem dX7_all_192 : decode cX7_all 192 = .ok (.aload_n 0, 1) := by decide +kernel
theorem dX7_all_193 : decode cX7_all 193 = .ok (.getfield 55, 3) := by decide +kernel
theorem dX7_all_196 : decode cX7_all 196 = .ok (.iload 10, 2) := by decide +kernel
theorem dX7_all_198 : decode cX7_all 198 = .ok (.iaload, 1) := by decide +kernel
theorem dX7_all_199 : decode cX7_all 199 = .ok (.ifCond .ne 7, 3) := by decide +kernel
theorem dX7_all_202 : decode cX7_all 202 = .ok (.iconst 1, 1) := by decide +kernel
theorem dX7_all_203 : decode cX7_all 203 = .ok (.goto 4, 3) := by decide +kernel
theorem dX7_all_206 : decode cX7_all 206 = .ok (.iconst 0, 1) := by decide +kernel
theorem dX7_all_207 : decode cX7_all 207 = .ok (.iadd, 1) := by decide +kernel
theorem dX7_all_208 : decode cX7_all 208 = .ok (.istore 8, 2) := by decide +kernel
theorem dX7_all_210 : decode cX7_all 210 = .ok (.iload 9, 2) := by decide +kernel
theorem dX7_all_212 : decode cX7_all 212 = .ok (.iload 11, 2) := by decide +kernel
theorem dX7_all_214 : decode cX7_all 214 = .ok (.ifCond .eq 17, 3) := by decide +kernel
theorem dX7_all_217 : decode cX7_all 217 = .ok (.aload_n 0, 1) := by decide +kernel
theorem dX7_all_218 : decode cX7_all 218 = .ok (.iload_n 1, 1) := by decide +kernel
theorem dX7_all_219 : decode cX7_all 219 = .ok (.iload 10, 2) := by decide +kernel
theorem dX7_all_221 : decode cX7_all 221 = .ok (.invokevirtual 185, 3) := by decide +kernel
theorem dX7_all_224 : decode cX7_all 224 = .ok (.ifCond .ne 7, 3) := by decide +kernel
theorem dX7_all_227 : decode cX7_all 227 = .ok (.iconst 1, 1) := by decide +kernel
theorem dX7_all_228 : decode cX7_all 228 = .ok (.goto 4, 3) := by decide +kernel
theorem dX7_all_231 : decode cX7_all 231 = .ok (.iconst 0, 1) := by decide +kernel
theorem dX7_all_232 : decode cX7_all 232 = .ok (.iadd, 1) := by decide +kernel
theorem dX7_all_233 : decode cX7_all 233 = .ok (.istore 9, 2) := by decide +kernel
theorem dX7_all_235 : decode cX7_all 235 = .ok (.iinc 10 1, 3) := by decide +kernel
theorem dX7_all_238 : decode cX7_all 238 = .ok (.goto (-173), 3) := by decide +kernel
theorem dX7_all_241 : decode cX7_all 241 = .ok (.iload_n 2, 1) := by decide +kernel
theorem dX7_all_242 : decode cX7_all 242 = .ok (.ifCond .ne 8, 3) := by decide +kernel
theorem dX7_all_245 : decode cX7_all 245 = .ok (.iload 4, 2) := by decide +kernel
theorem dX7_all_247 : decode cX7_all 247 = .ok (.goto 45, 3) := by decide +kernel
theorem dX7_all_250 : decode cX7_all 250 = .ok (.iload_n 2, 1) := by decide +kernel
theorem dX7_all_251 : decode cX7_all 251 = .ok (.iconst 1, 1) := by decide +kernel
theorem dX7_all_252 : decode cX7_all 252 = .ok (.if_icmp .ne 8, 3) := by decide +kernel
theorem dX7_all_255 : decode cX7_all 255 = .ok (.iload 5, 2) := by decide +kernel
theorem dX7_all_257 : decode cX7_all 257 = .ok (.goto 35, 3) := by decide +kernel
theorem dX7_all_260 : decode cX7_all 260 = .ok (.iload_n 2, 1) := by decide +kernel
theorem dX7_all_261 : decode cX7_all 261 = .ok (.iconst 2, 1) := by decide +kernel
theorem dX7_all_262 : decode cX7_all 262 = .ok (.if_icmp .ne 8, 3) := by decide +kernel
theorem dX7_all_265 : decode cX7_all 265 = .ok (.iload 6, 2) := by decide +kernel
theorem dX7_all_267 : decode cX7_all 267 = .ok (.goto 25, 3) := by decide +kernel
theorem dX7_all_270 : decode cX7_all 270 = .ok (.iload_n 2, 1) := by decide +kernel
theorem dX7_all_271 : decode cX7_all 271 = .ok (.iconst 3, 1) := by decide +kernel
theorem dX7_all_272 : decode cX7_all 272 = .ok (.if_icmp .ne 8, 3) := by decide +kernel
theorem dX7_all_275 : decode cX7_all 275 = .ok (.iload 7, 2) := by decide +kernel
theorem dX7_all_277 : decode cX7_all 277 = .ok (.goto 15, 3) := by decide +kernel
theorem dX7_all_280 : decode cX7_all 280 = .ok (.iload_n 2, 1) := by decide +kernel
theorem dX7_all_281 : decode cX7_all 281 = .ok (.iconst 4, 1) := by decide +kernel
theorem dX7_all_282 : decode cX7_all 282 = .ok (.if_icmp .ne 8, 3) := by decide +kernel
theorem dX7_all_285 : decode cX7_all 285 = .ok (.iload 8, 2) := by decide +kernel
theorem dX7_all_287 : decode cX7_all 287 = .ok (.goto 5, 3) := by decide +kernel
theorem dX7_all_290 : decode cX7_all 290 = .ok (.iload 9, 2) := by decide +kernel
theorem dX7_all_292 : decode cX7_all 292 = .ok (.ireturn, 1) := by decide +kernel
theorem dX7_alike_0 : decode cX7_alike 0 = .ok (.aload_n 0, 1) := by decide +kernel
theorem dX7_alike_1 : decode cX7_alike 1 = .ok (.iconst 0, 1) := by decide +kernel
theorem dX7_alike_2 : decode cX7_alike 2 = .ok (.putfield 1, 3) := by decide +kernel
theorem dX7_alike_5 : decode cX7_alike 5 = .ok (.iload_n 1, 1) := by decide +kernel
theorem dX7_alike_6 : decode cX7_alike 6 = .ok (.invokestatic 120, 3) := by decide +kernel
theorem dX7_alike_9 : decode cX7_alike 9 = .ok (.ifCond .eq 10, 3) := by decide +kernel
theorem dX7_alike_12 : decode cX7_alike 12 = .ok (.iload_n 2, 1) := by decide +kernel
theorem dX7_alike_13 : decode cX7_alike 13 = .ok (.invokestatic 120, 3) := by decide +kernel
theorem dX7_alike_16 : decode cX7_alike 16 = .ok (.ifCond .ne 6, 3) := by decide +kernel
theorem dX7_alike_19 : decode cX7_alike 19 = .ok (.ldc 108, 2) := by decide +kernel
theorem dX7_alike_21 : decode cX7_alike 21 = .ok (.ireturn, 1) := by decide +kernel
theorem dX7_alike_22 : decode cX7_alike 22 = .ok (.aload_n 0, 1) := by decide +kernel
theorem dX7_alike_23 : decode cX7_alike 23 = .ok (.iconst 0, 1) := by decide +kernel
theorem dX7_alike_24 : decode cX7_alike 24 = .ok (.putfield 7, 3) := by decide +kernel
theorem dX7_alike_27 : decode cX7_alike 27 = .ok (.aload_n 0, 1) := by decide +kernel
theorem dX7_alike_28 : decode cX7_alike 28 = .ok (.getfield 28, 3) := by decide +kernel
theorem dX7_alike_31 : decode cX7_alike 31 = .ok (.iload_n 1, 1) := by decide +kernel
theorem dX7_alike_32 : decode cX7_alike 32 = .ok (.iaload, 1) := by decide +kernel
theorem dX7_alike_33 : decode cX7_alike 33 = .ok (.ifCond .lt 12, 3) := by decide +kernel
theorem dX7_alike_36 : decode cX7_alike 36 = .ok (.aload_n 0, 1) := by decide +kernel
theorem dX7_alike_37 : decode cX7_alike 37 = .ok (.getfield 28, 3) := by decide +kernel
theorem dX7_alike_40 : decode cX7_alike 40 = .ok (.iload_n 2, 1) := by decide +kernel
theorem dX7_alike_41 : decode cX7_alike 41 = .ok (.iaload, 1) := by decide +kernel
theorem dX7_alike_42 : decode cX7_alike 42 = .ok (.ifCond .ge 9, 3) := by decide +kernel
theorem dX7_alike_45 : decode cX7_alike 45 = .ok (.aload_n 0, 1) := by decide +kernel
theorem dX7_alike_46 : decode cX7_alike 46 = .ok (.iconst 1, 1) := by decide +kernel
theorem dX7_alike_47 : decode cX7_alike 47 = .ok (.invokevirtual 109, 3) := by decide +kernel
theorem dX7_alike_50 : decode cX7_alike 50 = .ok (.ireturn, 1) := by decide +kernel
theorem dX7_alike_51 : decode cX7_alike 51 = .ok (.iconst 0, 1) := by decide +kernel
theorem dX7_alike_52 : decode cX7_alike 52 = .ok (.istore_n 3, 1) := by decide +kernel
theorem dX7_alike_53 : decode cX7_alike 53 = .ok (.iload_n 3, 1) := by decide +kernel
theorem dX7_alike_54 : decode cX7_alike 54 = .ok (.ldc 64, 2) := by decide +kernel
theorem dX7_alike_56 : decode cX7_alike 56 = .ok (.if_icmp .ge 16, 3) := by decide +kernel
theorem dX7_alike_59 : decode cX7_alike 59 = .ok (.aload_n 0, 1) := by decide +kernel
theorem dX7_alike_60 : decode cX7_alike 60 = .ok (.getfield 65, 3) := by decide +kernel
theorem dX7_alike_63 : decode cX7_alike 63 = .ok (.iload_n 3, 1) := by decide +kernel
theorem dX7_alike_64 : decode cX7_alike 64 = .ok (.iconst 0, 1) := by decide +kernel
theorem dX7_alike_65 : decode cX7_alike 65 = .ok (.iastore, 1) := by decide +kernel
theorem dX7_alike_66 : decode cX7_alike 66 = .ok (.iinc 3 1, 3) := by decide +kernel
theorem dX7_alike_69 : decode cX7_alike 69 = .ok (.goto (-16), 3) := by decide +kernel
theorem dX7_alike_72 : decode cX7_alike 72 = .ok (.aload_n 0, 1) := by decide +kernel
theorem dX7_alike_73 : decode cX7_alike 73 = .ok (.iload_n 1, 1) := by decide +kernel
theorem dX7_alike_74 : decode cX7_alike 74 = .ok (.invokevirtual 155, 3) := by decide +kernel
theorem dX7_alike_77 : decode cX7_alike 77 = .ok (.iconst 0, 1) := by decide +kernel
theorem dX7_alike_78 : decode cX7_alike 78 = .ok (.istore_n 3, 1) := by decide +kernel
theorem dX7_alike_79 : decode cX7_alike 79 = .ok (.iload_n 3, 1) := by decide +kernel
theorem dX7_alike_80 : decode cX7_alike 80 = .ok (.aload_n 0, 1) := by decide +kernel
theorem dX7_alike_81 : decode cX7_alike 81 = .ok (.getfield 98, 3) := by decide +kernel
theorem dX7_alike_84 : decode cX7_alike 84 = .ok (.if_icmp .ge 35, 3) := by decide +kernel
theorem dX7_alike_87 : decode cX7_alike 87 = .ok (.aload_n 0, 1) := by decide +kernel
theorem dX7_alike_88 : decode cX7_alike 88 = .ok (.getfield 65, 3) := by decide +kernel
theorem dX7_alike_91 : decode cX7_alike 91 = .ok (.sipush 200, 3) := by decide +kernel
theorem dX7_alike_94 : decode cX7_alike 94 = .ok (.aload_n 0, 1) := by decide +kernel
theorem dX7_alike_95 : decode cX7_alike 95 = .ok (.getfield 46, 3) := by decide +kernel
theorem dX7_alike_98 : decode cX7_alike 98 = .ok (.iload_n 3, 1) := by decide +kernel
theorem dX7_alike_99 : decode cX7_alike 99 = .ok (.iaload, 1) := by decide +kernel
theorem dX7_alike_100 : decode cX7_alike 100 = .ok (.imul, 1) := by decide +kernel
theorem dX7_alike_101 : decode cX7_alike 101 = .ok (.aload_n 0, 1) := by decide +kernel
theorem dX7_alike_102 : decode cX7_alike 102 = .ok (.getfield 49, 3) := by decide +kernel
theorem dX7_alike_105 : decode cX7_alike 105 = .ok (.iload_n 3, 1) := by decide +kernel
theorem dX7_alike_106 : decode cX7_alike 106 = .ok (.iaload, 1) := by decide +kernel
theorem dX7_alike_107 : decode cX7_alike 107 = .ok (.iadd, 1) := by decide +kernel
theorem dX7_alike_108 : decode cX7_alike 108 = .ok (.dup2, 1) := by decide +kernel
theorem dX7_alike_109 : decode cX7_alike 109 = .ok (.iaload, 1) := by decide +kernel
theorem dX7_alike_110 : decode cX7_alike 110 = .ok (.iconst 1, 1) := by decide +kernel
theorem dX7_alike_111 : decode cX7_alike 111 = .ok (.iadd, 1) := by decide +kernel
theorem dX7_alike_112 : decode cX7_alike 112 = .ok (.iastore, 1) := by decide +kernel
theorem dX7_alike_113 : decode cX7_alike 113 = .ok (.iinc 3 1, 3) := by decide +kernel
theorem dX7_alike_116 : decode cX7_alike 116 = .ok (.goto (-37), 3) := by decide +kernel
theorem dX7_alike_119 : decode cX7_alike 119 = .ok (.aload_n 0, 1) := by decide +kernel
theorem dX7_alike_120 : decode cX7_alike 120 = .ok (.iload_n 2, 1) := by decide +kernel
theorem dX7_alike_121 : decode cX7_alike 121 = .ok (.invokevirtual 155, 3) := by decide +kernel
theorem dX7_alike_124 : decode cX7_alike 124 = .ok (.iconst 0, 1) := by decide +kernel
theorem dX7_alike_125 : decode cX7_alike 125 = .ok (.istore_n 3, 1) := by decide +kernel
theorem dX7_alike_126 : decode cX7_alike 126 = .ok (.iload_n 3, 1) := by decide +kernel
theorem dX7_alike_127 : decode cX7_alike 127 = .ok (.aload_n 0, 1) := by decide +kernel
theorem dX7_alike_128 : decode cX7_alike 128 = .ok (.getfield 98, 3) := by decide +kernel
theorem dX7_alike_131 : decode cX7_alike 131 = .ok (.if_icmp .ge 35, 3) := by decide +kernel
theorem dX7_alike_134 : decode cX7_alike 134 = .ok (.aload_n 0, 1) := by decide +kernel
theorem dX7_alike_135 : decode cX7_alike 135 = .ok (.getfield 65, 3) := by decide +kernel
theorem dX7_alike_138 : decode cX7_alike 138 = .ok (.sipush 200, 3) := by decide +kernel
theorem dX7_alike_141 : decode cX7_alike 141 = .ok (.aload_n 0, 1) := by decide +kernel
theorem dX7_alike_142 : decode cX7_alike 142 = .ok (.getfield 46, 3) := by decide +kernel
theorem dX7_alike_145 : decode cX7_alike 145 = .ok (.iload_n 3, 1) := by decide +kernel
theorem dX7_alike_146 : decode cX7_alike 146 = .ok (.iaload, 1) := by decide +kernel
theorem dX7_alike_147 : decode cX7_alike 147 = .ok (.imul, 1) := by decide +kernel
theorem dX7_alike_148 : decode cX7_alike 148 = .ok (.aload_n 0, 1) := by decide +kernel
theorem dX7_alike_149 : decode cX7_alike 149 = .ok (.getfield 49, 3) := by decide +kernel
theorem dX7_alike_152 : decode cX7_alike 152 = .ok (.iload_n 3, 1) := by decide +kernel
theorem dX7_alike_153 : decode cX7_alike 153 = .ok (.iaload, 1) := by decide +kernel
theorem dX7_alike_154 : decode cX7_alike 154 = .ok (.iadd, 1) := by decide +kernel
theorem dX7_alike_155 : decode cX7_alike 155 = .ok (.dup2, 1) := by decide +kernel
theorem dX7_alike_156 : decode cX7_alike 156 = .ok (.iaload, 1) := by decide +kernel
theorem dX7_alike_157 : decode cX7_alike 157 = .ok (.iconst 1, 1) := by decide +kernel
theorem dX7_alike_158 : decode cX7_alike 158 = .ok (.isub, 1) := by decide +kernel
theorem dX7_alike_159 : decode cX7_alike 159 = .ok (.iastore, 1) := by decide +kernel
theorem dX7_alike_160 : decode cX7_alike 160 = .ok (.iinc 3 1, 3) := by decide +kernel
theorem dX7_alike_163 : decode cX7_alike 163 = .ok (.goto (-37), 3) := by decide +kernel
theorem dX7_alike_166 : decode cX7_alike 166 = .ok (.iconst 1, 1) := by decide +kernel
theorem dX7_alike_167 : decode cX7_alike 167 = .ok (.istore_n 3, 1) := by decide +kernel
theorem dX7_alike_168 : decode cX7_alike 168 = .ok (.iconst 0, 1) := by decide +kernel
theorem dX7_alike_169 : decode cX7_alike 169 = .ok (.istore 4, 2) := by decide +kernel
theorem dX7_alike_171 : decode cX7_alike 171 = .ok (.iload 4, 2) := by decide +kernel
theorem dX7_alike_173 : decode cX7_alike 173 = .ok (.ldc 64, 2) := by decide +kernel
theorem dX7_alike_175 : decode cX7_alike 175 = .ok (.if_icmp .ge 29, 3) := by decide +kernel
theorem dX7_alike_178 : decode cX7_alike 178 = .ok (.iload_n 3, 1) := by decide +kernel
theorem dX7_alike_179 : decode cX7_alike 179 = .ok (.ifCond .eq 17, 3) := by decide +kernel
theorem dX7_alike_182 : decode cX7_alike 182 = .ok (.aload_n 0, 1) := by decide +kernel
theorem dX7_alike_183 : decode cX7_alike 183 = .ok (.getfield 65, 3) := by decide +kernel
theorem dX7_alike_186 : decode cX7_alike 186 = .ok (.iload 4, 2) := by decide +kernel
theorem dX7_alike_188 : decode cX7_alike 188 = .ok (.iaload, 1) := by decide +kernel
theorem dX7_alike_189 : decode cX7_alike 189 = .ok (.ifCond .ne 7, 3) := by decide +kernel
theorem dX7_alike_192 : decode cX7_alike 192 = .ok (.iconst 1, 1) := by decide +kernel
theorem dX7_alike_193 : decode cX7_alike 193 = .ok (.goto 4, 3) := by decide +kernel
theorem dX7_alike_196 : decode cX7_alike 196 = .ok (.iconst 0, 1) := by decide +kernel
theorem dX7_alike_197 : decode cX7_alike 197 = .ok (.istore_n 3, 1) := by decide +kernel
theorem dX7_alike_198 : decode cX7_alike 198 = .ok (.iinc 4 1, 3) := by decide +kernel
theorem dX7_alike_201 : decode cX7_alike 201 = .ok (.goto (-30), 3) := by decide +kernel
theorem dX7_alike_204 : decode cX7_alike 204 = .ok (.iload_n 3, 1) := by decide +kernel
theorem dX7_alike_205 : decode cX7_alike 205 = .ok (.ifCond .eq 7, 3) := by decide +kernel
theorem dX7_alike_208 : decode cX7_alike 208 = .ok (.iconst 1, 1) := by decide +kernel
theorem dX7_alike_209 : decode cX7_alike 209 = .ok (.goto 4, 3) := by decide +kernel
theorem dX7_alike_212 : decode cX7_alike 212 = .ok (.iconst 0, 1) := by decide +kernel
theorem dX7_alike_213 : decode cX7_alike 213 = .ok (.ireturn, 1) := by decide +kernel
theorem dX7_goOn_0 : decode cX7_goOn 0 = .ok (.iconst 0, 1) := by decide +kernel
theorem dX7_goOn_1 : decode cX7_goOn 1 = .ok (.istore_n 2, 1) := by decide +kernel
theorem dX7_goOn_2 : decode cX7_goOn 2 = .ok (.iload_n 2, 1) := by decide +kernel
theorem dX7_goOn_3 : decode cX7_goOn 3 = .ok (.bipush 65, 2) := by decide +kernel
theorem dX7_goOn_5 : decode cX7_goOn 5 = .ok (.if_icmp .ge 16, 3) := by decide +kernel
theorem dX7_goOn_8 : decode cX7_goOn 8 = .ok (.aload_n 0, 1) := by decide +kernel
theorem dX7_goOn_9 : decode cX7_goOn 9 = .ok (.getfield 71, 3) := by decide +kernel
theorem dX7_goOn_12 : decode cX7_goOn 12 = .ok (.iload_n 2, 1) := by decide +kernel
theorem dX7_goOn_13 : decode cX7_goOn 13 = .ok (.iconst 0, 1) := by decide +kernel
theorem dX7_goOn_14 : decode cX7_goOn 14 = .ok (.iastore, 1) := by decide +kernel
theorem dX7_goOn_15 : decode cX7_goOn 15 = .ok (.iinc 2 1, 3) := by decide +kernel
theorem dX7_goOn_18 : decode cX7_goOn 18 = .ok (.goto (-16), 3) := by decide +kernel
theorem dX7_goOn_21 : decode cX7_goOn 21 = .ok (.aload_n 0, 1) := by decide +kernel
theorem dX7_goOn_22 : decode cX7_goOn 22 = .ok (.getfield 28, 3) := by decide +kernel
theorem dX7_goOn_25 : decode cX7_goOn 25 = .ok (.iload_n 1, 1) := by decide +kernel
theorem dX7_goOn_26 : decode cX7_goOn 26 = .ok (.iaload, 1) := by decide +kernel
theorem dX7_goOn_27 : decode cX7_goOn 27 = .ok (.istore_n 2, 1) := by decide +kernel
theorem dX7_goOn_28 : decode cX7_goOn 28 = .ok (.iload_n 2, 1) := by decide +kernel
theorem dX7_goOn_29 : decode cX7_goOn 29 = .ok (.ifCond .lt 163, 3) := by decide +kernel
theorem dX7_goOn_32 : decode cX7_goOn 32 = .ok (.iconst 0, 1) := by decide +kernel
theorem dX7_goOn_33 : decode cX7_goOn 33 = .ok (.istore_n 3, 1) := by decide +kernel
theorem dX7_goOn_34 : decode cX7_goOn 34 = .ok (.iload_n 3, 1) := by decide +kernel
theorem dX7_goOn_35 : decode cX7_goOn 35 = .ok (.bipush 65, 2) := by decide +kernel
theorem dX7_goOn_37 : decode cX7_goOn 37 = .ok (.if_icmp .ge 16, 3) := by decide +kernel
theorem dX7_goOn_40 : decode cX7_goOn 40 = .ok (.aload_n 0, 1) := by decide +kernel
theorem dX7_goOn_41 : decode cX7_goOn 41 = .ok (.getfield 74, 3) := by decide +kernel
theorem dX7_goOn_44 : decode cX7_goOn 44 = .ok (.iload_n 3, 1) := by decide +kernel
theorem dX7_goOn_45 : decode cX7_goOn 45 = .ok (.iconst 0, 1) := by decide +kernel
theorem dX7_goOn_46 : decode cX7_goOn 46 = .ok (.iastore, 1) := by decide +kernel
theorem dX7_goOn_47 : decode cX7_goOn 47 = .ok (.iinc 3 1, 3) := by decide +kernel
theorem dX7_goOn_50 : decode cX7_goOn 50 = .ok (.goto (-16), 3) := by decide +kernel
theorem dX7_goOn_53 : decode cX7_goOn 53 = .ok (.iconst 0, 1) := by decide +kernel
theorem dX7_goOn_54 : decode cX7_goOn 54 = .ok (.istore_n 3, 1) := by decide +kernel
theorem dX7_goOn_55 : decode cX7_goOn 55 = .ok (.iload_n 3, 1) := by decide +kernel
theorem dX7_goOn_56 : decode cX7_goOn 56 = .ok (.bipush 65, 2) := by decide +kernel
theorem dX7_goOn_58 : decode cX7_goOn 58 = .ok (.if_icmp .ge 74, 3) := by decide +kernel
theorem dX7_goOn_61 : decode cX7_goOn 61 = .ok (.iconst 0, 1) := by decide +kernel
theorem dX7_goOn_62 : decode cX7_goOn 62 = .ok (.istore 4, 2) := by decide +kernel
theorem dX7_goOn_64 : decode cX7_goOn 64 = .ok (.iload_n 3, 1) := by decide +kernel
theorem dX7_goOn_65 : decode cX7_goOn 65 = .ok (.iload 4, 2) := by decide +kernel
theorem dX7_goOn_67 : decode cX7_goOn 67 = .ok (.iadd, 1) := by decide +kernel
theorem dX7_goOn_68 : decode cX7_goOn 68 = .ok (.bipush 65, 2) := by decide +kernel
theorem dX7_goOn_70 : decode cX7_goOn 70 = .ok (.if_icmp .ge 56, 3) := by decide +kernel
theorem dX7_goOn_73 : decode cX7_goOn 73 = .ok (.aload_n 0, 1) := by decide +kernel
theorem dX7_goOn_74 : decode cX7_goOn 74 = .ok (.getfield 71, 3) := by decide +kernel
theorem dX7_goOn_77 : decode cX7_goOn 77 = .ok (.iload_n 3, 1) := by decide +kernel
theorem dX7_goOn_78 : decode cX7_goOn 78 = .ok (.iaload, 1) := by decide +kernel
theorem dX7_goOn_79 : decode cX7_goOn 79 = .ok (.ifCond .eq 47, 3) := by decide +kernel
theorem dX7_goOn_82 : decode cX7_goOn 82 = .ok (.aload_n 0, 1) := by decide +kernel
theorem dX7_goOn_83 : decode cX7_goOn 83 = .ok (.getfield 74, 3) := by decide +kernel
theorem dX7_goOn_86 : decode cX7_goOn 86 = .ok (.iload_n 3, 1) := by decide +kernel
theorem dX7_goOn_87 : decode cX7_goOn 87 = .ok (.iload 4, 2) := by decide +kernel
theorem dX7_goOn_89 : decode cX7_goOn 89 = .ok (.iadd, 1) := by decide +kernel
theorem dX7_goOn_90 : decode cX7_goOn 90 = .ok (.aload_n 0, 1) := by decide +kernel
theorem dX7_goOn_91 : decode cX7_goOn 91 = .ok (.getfield 74, 3) := by decide +kernel
theorem dX7_goOn_94 : decode cX7_goOn 94 = .ok (.iload_n 3, 1) := by decide +kernel
theorem dX7_goOn_95 : decode cX7_goOn 95 = .ok (.iload 4, 2) := by decide +kernel
theorem dX7_goOn_97 : decode cX7_goOn 97 = .ok (.iadd, 1) := by decide +kernel
theorem dX7_goOn_98 : decode cX7_goOn 98 = .ok (.iaload, 1) := by decide +kernel
theorem dX7_goOn_99 : decode cX7_goOn 99 = .ok (.aload_n 0, 1) := by decide +kernel
theorem dX7_goOn_100 : decode cX7_goOn 100 = .ok (.getfield 71, 3) := by decide +kernel
theorem dX7_goOn_103 : decode cX7_goOn 103 = .ok (.iload_n 3, 1) := by decide +kernel
theorem dX7_goOn_104 : decode cX7_goOn 104 = .ok (.iaload, 1) := by decide +kernel
theorem dX7_goOn_105 : decode cX7_goOn 105 = .ok (.aload_n 0, 1) := by decide +kernel
theorem dX7_goOn_106 : decode cX7_goOn 106 = .ok (.getfield 68, 3) := by decide +kernel
theorem dX7_goOn_109 : decode cX7_goOn 109 = .ok (.iload 4, 2) := by decide +kernel
theorem dX7_goOn_111 : decode cX7_goOn 111 = .ok (.iaload, 1) := by decide +kernel
theorem dX7_goOn_112 : decode cX7_goOn 112 = .ok (.imul, 1) := by decide +kernel
theorem dX7_goOn_113 : decode cX7_goOn 113 = .ok (.iadd, 1) := by decide +kernel
theorem dX7_goOn_114 : decode cX7_goOn 114 = .ok (.aload_n 0, 1) := by decide +kernel
theorem dX7_goOn_115 : decode cX7_goOn 115 = .ok (.getfield 98, 3) := by decide +kernel
theorem dX7_goOn_118 : decode cX7_goOn 118 = .ok (.irem, 1) := by decide +kernel
theorem dX7_goOn_119 : decode cX7_goOn 119 = .ok (.iastore, 1) := by decide +kernel
theorem dX7_goOn_120 : decode cX7_goOn 120 = .ok (.iinc 4 1, 3) := by decide +kernel
theorem dX7_goOn_123 : decode cX7_goOn 123 = .ok (.goto (-59), 3) := by decide +kernel
theorem dX7_goOn_126 : decode cX7_goOn 126 = .ok (.iinc 3 1, 3) := by decide +kernel
theorem dX7_goOn_129 : decode cX7_goOn 129 = .ok (.goto (-74), 3) := by decide +kernel
theorem dX7_goOn_132 : decode cX7_goOn 132 = .ok (.iconst 0, 1) := by decide +kernel
theorem dX7_goOn_133 : decode cX7_goOn 133 = .ok (.istore_n 3, 1) := by decide +kernel
theorem dX7_goOn_134 : decode cX7_goOn 134 = .ok (.iload_n 3, 1) := by decide +kernel
theorem dX7_goOn_135 : decode cX7_goOn 135 = .ok (.bipush 65, 2) := by decide +kernel
theorem dX7_goOn_137 : decode cX7_goOn 137 = .ok (.if_icmp .ge 21, 3) := by decide +kernel
theorem dX7_goOn_140 : decode cX7_goOn 140 = .ok (.aload_n 0, 1) := by decide +kernel
theorem dX7_goOn_141 : decode cX7_goOn 141 = .ok (.getfield 71, 3) := by decide +kernel
theorem dX7_goOn_144 : decode cX7_goOn 144 = .ok (.iload_n 3, 1) := by decide +kernel
theorem dX7_goOn_145 : decode cX7_goOn 145 = .ok (.aload_n 0, 1) := by decide +kernel
theorem dX7_goOn_146 : decode cX7_goOn 146 = .ok (.getfield 74, 3) := by decide +kernel
theorem dX7_goOn_149 : decode cX7_goOn 149 = .ok (.iload_n 3, 1) := by decide +kernel
theorem dX7_goOn_150 : decode cX7_goOn 150 = .ok (.iaload, 1) := by decide +kernel
theorem dX7_goOn_151 : decode cX7_goOn 151 = .ok (.iastore, 1) := by decide +kernel
theorem dX7_goOn_152 : decode cX7_goOn 152 = .ok (.iinc 3 1, 3) := by decide +kernel
theorem dX7_goOn_155 : decode cX7_goOn 155 = .ok (.goto (-21), 3) := by decide +kernel
theorem dX7_goOn_158 : decode cX7_goOn 158 = .ok (.aload_n 0, 1) := by decide +kernel
theorem dX7_goOn_159 : decode cX7_goOn 159 = .ok (.getfield 71, 3) := by decide +kernel
theorem dX7_goOn_162 : decode cX7_goOn 162 = .ok (.iconst 0, 1) := by decide +kernel
theorem dX7_goOn_163 : decode cX7_goOn 163 = .ok (.aload_n 0, 1) := by decide +kernel
theorem dX7_goOn_164 : decode cX7_goOn 164 = .ok (.getfield 71, 3) := by decide +kernel
theorem dX7_goOn_167 : decode cX7_goOn 167 = .ok (.iconst 0, 1) := by decide +kernel
theorem dX7_goOn_168 : decode cX7_goOn 168 = .ok (.iaload, 1) := by decide +kernel
theorem dX7_goOn_169 : decode cX7_goOn 169 = .ok (.aload_n 0, 1) := by decide +kernel
theorem dX7_goOn_170 : decode cX7_goOn 170 = .ok (.getfield 31, 3) := by decide +kernel
theorem dX7_goOn_173 : decode cX7_goOn 173 = .ok (.iconst 5, 1) := by decide +kernel
theorem dX7_goOn_174 : decode cX7_goOn 174 = .ok (.iload_n 1, 1) := by decide +kernel
theorem dX7_goOn_175 : decode cX7_goOn 175 = .ok (.imul, 1) := by decide +kernel
theorem dX7_goOn_176 : decode cX7_goOn 176 = .ok (.iload_n 2, 1) := by decide +kernel
theorem dX7_goOn_177 : decode cX7_goOn 177 = .ok (.iadd, 1) := by decide +kernel
theorem dX7_goOn_178 : decode cX7_goOn 178 = .ok (.iaload, 1) := by decide +kernel
theorem dX7_goOn_179 : decode cX7_goOn 179 = .ok (.iadd, 1) := by decide +kernel
theorem dX7_goOn_180 : decode cX7_goOn 180 = .ok (.aload_n 0, 1) := by decide +kernel
theorem dX7_goOn_181 : decode cX7_goOn 181 = .ok (.getfield 98, 3) := by decide +kernel
theorem dX7_goOn_184 : decode cX7_goOn 184 = .ok (.irem, 1) := by decide +kernel
theorem dX7_goOn_185 : decode cX7_goOn 185 = .ok (.iastore, 1) := by decide +kernel
theorem dX7_goOn_186 : decode cX7_goOn 186 = .ok (.iinc 2 (-1), 3) := by decide +kernel
theorem dX7_goOn_189 : decode cX7_goOn 189 = .ok (.goto (-161), 3) := by decide +kernel
theorem dX7_goOn_192 : decode cX7_goOn 192 = .ok (.iconst 0, 1) := by decide +kernel
theorem dX7_goOn_193 : decode cX7_goOn 193 = .ok (.istore_n 2, 1) := by decide +kernel
theorem dX7_goOn_194 : decode cX7_goOn 194 = .ok (.iload_n 2, 1) := by decide +kernel
theorem dX7_goOn_195 : decode cX7_goOn 195 = .ok (.bipush 65, 2) := by decide +kernel
theorem dX7_goOn_197 : decode cX7_goOn 197 = .ok (.if_icmp .ge 21, 3) := by decide +kernel
theorem dX7_goOn_200 : decode cX7_goOn 200 = .ok (.aload_n 0, 1) := by decide +kernel
theorem dX7_goOn_201 : decode cX7_goOn 201 = .ok (.getfield 68, 3) := by decide +kernel
theorem dX7_goOn_204 : decode cX7_goOn 204 = .ok (.iload_n 2, 1) := by decide +kernel
theorem dX7_goOn_205 : decode cX7_goOn 205 = .ok (.aload_n 0, 1) := by decide +kernel
theorem dX7_goOn_206 : decode cX7_goOn 206 = .ok (.getfield 71, 3) := by decide +kernel
theorem dX7_goOn_209 : decode cX7_goOn 209 = .ok (.iload_n 2, 1) := by decide +kernel
theorem dX7_goOn_210 : decode cX7_goOn 210 = .ok (.iaload, 1) := by decide +kernel
theorem dX7_goOn_211 : decode cX7_goOn 211 = .ok (.iastore, 1) := by decide +kernel
theorem dX7_goOn_212 : decode cX7_goOn 212 = .ok (.iinc 2 1, 3) := by decide +kernel
theorem dX7_goOn_215 : decode cX7_goOn 215 = .ok (.goto (-21), 3) := by decide +kernel
theorem dX7_goOn_218 : decode cX7_goOn 218 = .ok (.return_, 1) := by decide +kernel
theorem dX7_degreeOf_0 : decode cX7_degreeOf 0 = .ok (.iconst 0, 1) := by decide +kernel
theorem dX7_degreeOf_1 : decode cX7_degreeOf 1 = .ok (.istore_n 2, 1) := by decide +kernel
theorem dX7_degreeOf_2 : decode cX7_degreeOf 2 = .ok (.iconst 0, 1) := by decide +kernel
theorem dX7_degreeOf_3 : decode cX7_degreeOf 3 = .ok (.istore_n 3, 1) := by decide +kernel
theorem dX7_degreeOf_4 : decode cX7_degreeOf 4 = .ok (.iload_n 3, 1) := by decide +kernel
theorem dX7_degreeOf_5 : decode cX7_degreeOf 5 = .ok (.bipush 65, 2) := by decide +kernel
theorem dX7_degreeOf_7 : decode cX7_degreeOf 7 = .ok (.if_icmp .ge 29, 3) := by decide +kernel
theorem dX7_degreeOf_10 : decode cX7_degreeOf 10 = .ok (.aload_n 0, 1) := by decide +kernel
theorem dX7_degreeOf_11 : decode cX7_degreeOf 11 = .ok (.getfield 80, 3) := by decide +kernel
theorem dX7_degreeOf_14 : decode cX7_degreeOf 14 = .ok (.bipush 65, 2) := by decide +kernel
theorem dX7_degreeOf_16 : decode cX7_degreeOf 16 = .ok (.iload_n 1, 1) := by decide +kernel
theorem dX7_degreeOf_17 : decode cX7_degreeOf 17 = .ok (.imul, 1) := by decide +kernel
theorem dX7_degreeOf_18 : decode cX7_degreeOf 18 = .ok (.iload_n 3, 1) := by decide +kernel
theorem dX7_degreeOf_19 : decode cX7_degreeOf 19 = .ok (.iadd, 1) := by decide +kernel
theorem dX7_degreeOf_20 : decode cX7_degreeOf 20 = .ok (.iaload, 1) := by decide +kernel
theorem dX7_degreeOf_21 : decode cX7_degreeOf 21 = .ok (.ifCond .eq 7, 3) := by decide +kernel
theorem dX7_degreeOf_24 : decode cX7_degreeOf 24 = .ok (.iload_n 3, 1) := by decide +kernel
theorem dX7_degreeOf_25 : decode cX7_degreeOf 25 = .ok (.goto 4, 3) := by decide +kernel
theorem dX7_degreeOf_28 : decode cX7_degreeOf 28 = .ok (.iload_n 2, 1) := by decide +kernel
theorem dX7_degreeOf_29 : decode cX7_degreeOf 29 = .ok (.istore_n 2, 1) := by decide +kernel
theorem dX7_degreeOf_30 : decode cX7_degreeOf 30 = .ok (.iinc 3 1, 3) := by decide +kernel
theorem dX7_degreeOf_33 : decode cX7_degreeOf 33 = .ok (.goto (-29), 3) := by decide +kernel
theorem dX7_degreeOf_36 : decode cX7_degreeOf 36 = .ok (.iload_n 2, 1) := by decide +kernel
theorem dX7_degreeOf_37 : decode cX7_degreeOf 37 = .ok (.ireturn, 1) := by decide +kernel
theorem dX7_divide_0 : decode cX7_divide 0 = .ok (.aload_n 0, 1) := by decide +kernel
theorem dX7_divide_1 : decode cX7_divide 1 = .ok (.iload_n 1, 1) := by decide +kernel
theorem dX7_divide_2 : decode cX7_divide 2 = .ok (.invokevirtual 188, 3) := by decide +kernel
theorem dX7_divide_5 : decode cX7_divide 5 = .ok (.istore_n 2, 1) := by decide +kernel
theorem dX7_divide_6 : decode cX7_divide 6 = .ok (.aload_n 0, 1) := by decide +kernel
theorem dX7_divide_7 : decode cX7_divide 7 = .ok (.aload_n 0, 1) := by decide +kernel
theorem dX7_divide_8 : decode cX7_divide 8 = .ok (.getfield 80, 3) := by decide +kernel
theorem dX7_divide_11 : decode cX7_divide 11 = .ok (.bipush 65, 2) := by decide +kernel
theorem dX7_divide_13 : decode cX7_divide 13 = .ok (.iload_n 1, 1) := by decide +kernel
theorem dX7_divide_14 : decode cX7_divide 14 = .ok (.imul, 1) := by decide +kernel
theorem dX7_divide_15 : decode cX7_divide 15 = .ok (.iload_n 2, 1) := by decide +kernel
theorem dX7_divide_16 : decode cX7_divide 16 = .ok (.iadd, 1) := by decide +kernel
theorem dX7_divide_17 : decode cX7_divide 17 = .ok (.iaload, 1) := by decide +kernel
theorem dX7_divide_18 : decode cX7_divide 18 = .ok (.invokevirtual 136, 3) := by decide +kernel
theorem dX7_divide_21 : decode cX7_divide 21 = .ok (.istore_n 3, 1) := by decide +kernel
theorem dX7_divide_22 : decode cX7_divide 22 = .ok (.iconst 0, 1) := by decide +kernel
theorem dX7_divide_23 : decode cX7_divide 23 = .ok (.istore 4, 2) := by decide +kernel
theorem dX7_divide_25 : decode cX7_divide 25 = .ok (.iload 4, 2) := by decide +kernel
theorem dX7_divide_27 : decode cX7_divide 27 = .ok (.bipush 65, 2) := by decide +kernel
theorem dX7_divide_29 : decode cX7_divide 29 = .ok (.if_icmp .ge 17, 3) := by decide +kernel
theorem dX7_divide_32 : decode cX7_divide 32 = .ok (.aload_n 0, 1) := by decide +kernel
theorem dX7_divide_33 : decode cX7_divide 33 = .ok (.getfield 77, 3) := by decide +kernel
theorem dX7_divide_36 : decode cX7_divide 36 = .ok (.iload 4, 2) := by decide +kernel
theorem dX7_divide_38 : decode cX7_divide 38 = .ok (.iconst 0, 1) := by decide +kernel
theorem dX7_divide_39 : decode cX7_divide 39 = .ok (.iastore, 1) := by decide +kernel
theorem dX7_divide_40 : decode cX7_divide 40 = .ok (.iinc 4 1, 3) := by decide +kernel
theorem dX7_divide_43 : decode cX7_divide 43 = .ok (.goto (-18), 3) := by decide +kernel
theorem dX7_divide_46 : decode cX7_divide 46 = .ok (.bipush 64, 2) := by decide +kernel
theorem dX7_divide_48 : decode cX7_divide 48 = .ok (.iload_n 2, 1) := by decide +kernel
theorem dX7_divide_49 : decode cX7_divide 49 = .ok (.isub, 1) := by decide +kernel
theorem dX7_divide_50 : decode cX7_divide 50 = .ok (.istore 4, 2) := by decide +kernel
theorem dX7_divide_52 : decode cX7_divide 52 = .ok (.iload 4, 2) := by decide +kernel
theorem dX7_divide_54 : decode cX7_divide 54 = .ok (.ifCond .lt 97, 3) := by decide +kernel
theorem dX7_divide_57 : decode cX7_divide 57 = .ok (.aload_n 0, 1) := by decide +kernel
theorem dX7_divide_58 : decode cX7_divide 58 = .ok (.getfield 74, 3) := by decide +kernel
theorem dX7_divide_61 : decode cX7_divide 61 = .ok (.iload 4, 2) := by decide +kernel
theorem dX7_divide_63 : decode cX7_divide 63 = .ok (.iload_n 2, 1) := by decide +kernel
theorem dX7_divide_64 : decode cX7_divide 64 = .ok (.iadd, 1) := by decide +kernel
theorem dX7_divide_65 : decode cX7_divide 65 = .ok (.iaload, 1) := by decide +kernel
theorem dX7_divide_66 : decode cX7_divide 66 = .ok (.iload_n 3, 1) := by decide +kernel
theorem dX7_divide_67 : decode cX7_divide 67 = .ok (.imul, 1) := by decide +kernel
theorem dX7_divide_68 : decode cX7_divide 68 = .ok (.aload_n 0, 1) := by decide +kernel
theorem dX7_divide_69 : decode cX7_divide 69 = .ok (.getfield 98, 3) := by decide +kernel
theorem dX7_divide_72 : decode cX7_divide 72 = .ok (.irem, 1) := by decide +kernel
theorem dX7_divide_73 : decode cX7_divide 73 = .ok (.istore 5, 2) := by decide +kernel
theorem dX7_divide_75 : decode cX7_divide 75 = .ok (.aload_n 0, 1) := by decide +kernel
theorem dX7_divide_76 : decode cX7_divide 76 = .ok (.getfield 77, 3) := by decide +kernel
theorem dX7_divide_79 : decode cX7_divide 79 = .ok (.iload 4, 2) := by decide +kernel
theorem dX7_divide_81 : decode cX7_divide 81 = .ok (.iload 5, 2) := by decide +kernel
theorem dX7_divide_83 : decode cX7_divide 83 = .ok (.iastore, 1) := by decide +kernel
theorem dX7_divide_84 : decode cX7_divide 84 = .ok (.iconst 0, 1) := by decide +kernel
theorem dX7_divide_85 : decode cX7_divide 85 = .ok (.istore 6, 2) := by decide +kernel
theorem dX7_divide_87 : decode cX7_divide 87 = .ok (.iload 6, 2) := by decide +kernel
theorem dX7_divide_89 : decode cX7_divide 89 = .ok (.iload_n 2, 1) := by decide +kernel
theorem dX7_divide_90 : decode cX7_divide 90 = .ok (.if_icmp .gt 55, 3) := by decide +kernel
theorem dX7_divide_93 : decode cX7_divide 93 = .ok (.aload_n 0, 1) := by decide +kernel
theorem dX7_divide_94 : decode cX7_divide 94 = .ok (.getfield 74, 3) := by decide +kernel
theorem dX7_divide_97 : decode cX7_divide 97 = .ok (.iload 4, 2) := by decide +kernel
theorem dX7_divide_99 : decode cX7_divide 99 = .ok (.iload 6, 2) := by decide +kernel
theorem dX7_divide_101 : decode cX7_divide 101 = .ok (.iadd, 1) := by decide +kernel
theorem dX7_divide_102 : decode cX7_divide 102 = .ok (.aload_n 0, 1) := by decide +kernel
theorem dX7_divide_103 : decode cX7_divide 103 = .ok (.getfield 74, 3) := by decide +kernel
theorem dX7_divide_106 : decode cX7_divide 106 = .ok (.iload 4, 2) := by decide +kernel
theorem dX7_divide_108 : decode cX7_divide 108 = .ok (.iload 6, 2) := by decide +kernel
theorem dX7_divide_110 : decode cX7_divide 110 = .ok (.iadd, 1) := by decide +kernel
theorem dX7_divide_111 : decode cX7_divide 111 = .ok (.iaload, 1) := by decide +kernel
theorem dX7_divide_112 : decode cX7_divide 112 = .ok (.aload_n 0, 1) := by decide +kernel
theorem dX7_divide_113 : decode cX7_divide 113 = .ok (.getfield 98, 3) := by decide +kernel
theorem dX7_divide_116 : decode cX7_divide 116 = .ok (.iload 5, 2) := by decide +kernel
theorem dX7_divide_118 : decode cX7_divide 118 = .ok (.isub, 1) := by decide +kernel
theorem dX7_divide_119 : decode cX7_divide 119 = .ok (.aload_n 0, 1) := by decide +kernel
theorem dX7_divide_120 : decode cX7_divide 120 = .ok (.getfield 80, 3) := by decide +kernel
theorem dX7_divide_123 : decode cX7_divide 123 = .ok (.bipush 65, 2) := by decide +kernel
theorem dX7_divide_125 : decode cX7_divide 125 = .ok (.iload_n 1, 1) := by decide +kernel
theorem dX7_divide_126 : decode cX7_divide 126 = .ok (.imul, 1) := by decide +kernel
theorem dX7_divide_127 : decode cX7_divide 127 = .ok (.iload 6, 2) := by decide +kernel
theorem dX7_divide_129 : decode cX7_divide 129 = .ok (.iadd, 1) := by decide +kernel
theorem dX7_divide_130 : decode cX7_divide 130 = .ok (.iaload, 1) := by decide +kernel
theorem dX7_divide_131 : decode cX7_divide 131 = .ok (.imul, 1) := by decide +kernel
theorem dX7_divide_132 : decode cX7_divide 132 = .ok (.iadd, 1) := by decide +kernel
theorem dX7_divide_133 : decode cX7_divide 133 = .ok (.aload_n 0, 1) := by decide +kernel
theorem dX7_divide_134 : decode cX7_divide 134 = .ok (.getfield 98, 3) := by decide +kernel
theorem dX7_divide_137 : decode cX7_divide 137 = .ok (.irem, 1) := by decide +kernel
theorem dX7_divide_138 : decode cX7_divide 138 = .ok (.iastore, 1) := by decide +kernel
theorem dX7_divide_139 : decode cX7_divide 139 = .ok (.iinc 6 1, 3) := by decide +kernel
theorem dX7_divide_142 : decode cX7_divide 142 = .ok (.goto (-55), 3) := by decide +kernel
theorem dX7_divide_145 : decode cX7_divide 145 = .ok (.iinc 4 (-1), 3) := by decide +kernel
theorem dX7_divide_148 : decode cX7_divide 148 = .ok (.goto (-96), 3) := by decide +kernel
theorem dX7_divide_151 : decode cX7_divide 151 = .ok (.iconst 0, 1) := by decide +kernel
theorem dX7_divide_152 : decode cX7_divide 152 = .ok (.istore 4, 2) := by decide +kernel
theorem dX7_divide_154 : decode cX7_divide 154 = .ok (.iload 4, 2) := by decide +kernel
theorem dX7_divide_156 : decode cX7_divide 156 = .ok (.bipush 65, 2) := by decide +kernel
theorem dX7_divide_158 : decode cX7_divide 158 = .ok (.if_icmp .ge 23, 3) := by decide +kernel
theorem dX7_divide_161 : decode cX7_divide 161 = .ok (.aload_n 0, 1) := by decide +kernel
theorem dX7_divide_162 : decode cX7_divide 162 = .ok (.getfield 74, 3) := by decide +kernel
theorem dX7_divide_165 : decode cX7_divide 165 = .ok (.iload 4, 2) := by decide +kernel
theorem dX7_divide_167 : decode cX7_divide 167 = .ok (.aload_n 0, 1) := by decide +kernel
theorem dX7_divide_168 : decode cX7_divide 168 = .ok (.getfield 77, 3) := by decide +kernel
theorem dX7_divide_171 : decode cX7_divide 171 = .ok (.iload 4, 2) := by decide +kernel
theorem dX7_divide_173 : decode cX7_divide 173 = .ok (.iaload, 1) := by decide +kernel
theorem dX7_divide_174 : decode cX7_divide 174 = .ok (.iastore, 1) := by decide +kernel
theorem dX7_divide_175 : decode cX7_divide 175 = .ok (.iinc 4 1, 3) := by decide +kernel
theorem dX7_divide_178 : decode cX7_divide 178 = .ok (.goto (-24), 3) := by decide +kernel
theorem dX7_divide_181 : decode cX7_divide 181 = .ok (.return_, 1) := by decide +kernel
theorem dX7_findRounds_0 : decode cX7_findRounds 0 = .ok (.iconst 0, 1) := by decide +kernel
theorem dX7_findRounds_1 : decode cX7_findRounds 1 = .ok (.istore_n 3, 1) := by decide +kernel
theorem dX7_findRounds_2 : decode cX7_findRounds 2 = .ok (.iload_n 3, 1) := by decide +kernel
theorem dX7_findRounds_3 : decode cX7_findRounds 3 = .ok (.bipush 65, 2) := by decide +kernel
theorem dX7_findRounds_5 : decode cX7_findRounds 5 = .ok (.if_icmp .ge 25, 3) := by decide +kernel
theorem dX7_findRounds_8 : decode cX7_findRounds 8 = .ok (.aload_n 0, 1) := by decide +kernel
theorem dX7_findRounds_9 : decode cX7_findRounds 9 = .ok (.getfield 68, 3) := by decide +kernel
theorem dX7_findRounds_12 : decode cX7_findRounds 12 = .ok (.iload_n 3, 1) := by decide +kernel
theorem dX7_findRounds_13 : decode cX7_findRounds 13 = .ok (.iload_n 3, 1) := by decide +kernel
theorem dX7_findRounds_14 : decode cX7_findRounds 14 = .ok (.iconst 1, 1) := by decide +kernel
theorem dX7_findRounds_15 : decode cX7_findRounds 15 = .ok (.if_icmp .ne 7, 3) := by decide +kernel
theorem dX7_findRounds_18 : decode cX7_findRounds 18 = .ok (.iconst 1, 1) := by decide +kernel
theorem dX7_findRounds_19 : decode cX7_findRounds 19 = .ok (.goto 4, 3) := by decide +kernel
theorem dX7_findRounds_22 : decode cX7_findRounds 22 = .ok (.iconst 0, 1) := by decide +kernel
theorem dX7_findRounds_23 : decode cX7_findRounds 23 = .ok (.iastore, 1) := by decide +kernel
theorem dX7_findRounds_24 : decode cX7_findRounds 24 = .ok (.iinc 3 1, 3) := by decide +kernel
theorem dX7_findRounds_27 : decode cX7_findRounds 27 = .ok (.goto (-25), 3) := by decide +kernel
theorem dX7_findRounds_30 : decode cX7_findRounds 30 = .ok (.iconst 1, 1) := by decide +kernel
theorem dX7_findRounds_31 : decode cX7_findRounds 31 = .ok (.istore_n 3, 1) := by decide +kernel
theorem dX7_findRounds_32 : decode cX7_findRounds 32 = .ok (.iload_n 3, 1) := by decide +kernel
theorem dX7_findRounds_33 : decode cX7_findRounds 33 = .ok (.iload_n 2, 1) := by decide +kernel
theorem dX7_findRounds_34 : decode cX7_findRounds 34 = .ok (.if_icmp .gt 135, 3) := by decide +kernel
theorem dX7_findRounds_37 : decode cX7_findRounds 37 = .ok (.aload_n 0, 1) := by decide +kernel
theorem dX7_findRounds_38 : decode cX7_findRounds 38 = .ok (.iload_n 1, 1) := by decide +kernel
theorem dX7_findRounds_39 : decode cX7_findRounds 39 = .ok (.invokevirtual 191, 3) := by decide +kernel
theorem dX7_findRounds_42 : decode cX7_findRounds 42 = .ok (.iconst 0, 1) := by decide +kernel
theorem dX7_findRounds_43 : decode cX7_findRounds 43 = .ok (.istore 4, 2) := by decide +kernel
theorem dX7_findRounds_45 : decode cX7_findRounds 45 = .ok (.iload 4, 2) := by decide +kernel
theorem dX7_findRounds_47 : decode cX7_findRounds 47 = .ok (.bipush 65, 2) := by decide +kernel
theorem dX7_findRounds_49 : decode cX7_findRounds 49 = .ok (.if_icmp .ge 51, 3) := by decide +kernel
theorem dX7_findRounds_52 : decode cX7_findRounds 52 = .ok (.aload_n 0, 1) := by decide +kernel
theorem dX7_findRounds_53 : decode cX7_findRounds 53 = .ok (.getfield 74, 3) := by decide +kernel
theorem dX7_findRounds_56 : decode cX7_findRounds 56 = .ok (.iload 4, 2) := by decide +kernel
theorem dX7_findRounds_58 : decode cX7_findRounds 58 = .ok (.iload 4, 2) := by decide +kernel
theorem dX7_findRounds_60 : decode cX7_findRounds 60 = .ok (.iconst 1, 1) := by decide +kernel
theorem dX7_findRounds_61 : decode cX7_findRounds 61 = .ok (.if_icmp .ne 25, 3) := by decide +kernel
theorem dX7_findRounds_64 : decode cX7_findRounds 64 = .ok (.aload_n 0, 1) := by decide +kernel
theorem dX7_findRounds_65 : decode cX7_findRounds 65 = .ok (.getfield 68, 3) := by decide +kernel
theorem dX7_findRounds_68 : decode cX7_findRounds 68 = .ok (.iload 4, 2) := by decide +kernel
theorem dX7_findRounds_70 : decode cX7_findRounds 70 = .ok (.iaload, 1) := by decide +kernel
theorem dX7_findRounds_71 : decode cX7_findRounds 71 = .ok (.aload_n 0, 1) := by decide +kernel
theorem dX7_findRounds_72 : decode cX7_findRounds 72 = .ok (.getfield 98, 3) := by decide +kernel
theorem dX7_findRounds_75 : decode cX7_findRounds 75 = .ok (.iadd, 1) := by decide +kernel
theorem dX7_findRounds_76 : decode cX7_findRounds 76 = .ok (.iconst 1, 1) := by decide +kernel
theorem dX7_findRounds_77 : decode cX7_findRounds 77 = .ok (.isub, 1) := by decide +kernel
theorem dX7_findRounds_78 : decode cX7_findRounds 78 = .ok (.aload_n 0, 1) := by decide +kernel
theorem dX7_findRounds_79 : decode cX7_findRounds 79 = .ok (.getfield 98, 3) := by decide +kernel
theorem dX7_findRounds_82 : decode cX7_findRounds 82 = .ok (.irem, 1) := by decide +kernel
theorem dX7_findRounds_83 : decode cX7_findRounds 83 = .ok (.goto 10, 3) := by decide +kernel
theorem dX7_findRounds_86 : decode cX7_findRounds 86 = .ok (.aload_n 0, 1) := by decide +kernel
theorem dX7_findRounds_87 : decode cX7_findRounds 87 = .ok (.getfield 68, 3) := by decide +kernel
theorem dX7_findRounds_90 : decode cX7_findRounds 90 = .ok (.iload 4, 2) := by decide +kernel
theorem dX7_findRounds_92 : decode cX7_findRounds 92 = .ok (.iaload, 1) := by decide +kernel
theorem dX7_findRounds_93 : decode cX7_findRounds 93 = .ok (.iastore, 1) := by decide +kernel
theorem dX7_findRounds_94 : decode cX7_findRounds 94 = .ok (.iinc 4 1, 3) := by decide +kernel
theorem dX7_findRounds_97 : decode cX7_findRounds 97 = .ok (.goto (-52), 3) := by decide +kernel
theorem dX7_findRounds_100 : decode cX7_findRounds 100 = .ok (.iconst 1, 1) := by decide +kernel
theorem dX7_findRounds_101 : decode cX7_findRounds 101 = .ok (.istore 4, 2) := by decide +kernel
theorem dX7_findRounds_103 : decode cX7_findRounds 103 = .ok (.iload 4, 2) := by decide +kernel
theorem dX7_findRounds_105 : decode cX7_findRounds 105 = .ok (.iload_n 3, 1) := by decide +kernel
theorem dX7_findRounds_106 : decode cX7_findRounds 106 = .ok (.if_icmp .ge 22, 3) := by decide +kernel
theorem dX7_findRounds_109 : decode cX7_findRounds 109 = .ok (.iload_n 3, 1) := by decide +kernel
theorem dX7_findRounds_110 : decode cX7_findRounds 110 = .ok (.iload 4, 2) := by decide +kernel
theorem dX7_findRounds_112 : decode cX7_findRounds 112 = .ok (.irem, 1) := by decide +kernel
theorem dX7_findRounds_113 : decode cX7_findRounds 113 = .ok (.ifCond .ne 9, 3) := by decide +kernel
theorem dX7_findRounds_116 : decode cX7_findRounds 116 = .ok (.aload_n 0, 1) := by decide +kernel
theorem dX7_findRounds_117 : decode cX7_findRounds 117 = .ok (.iload 4, 2) := by decide +kernel
theorem dX7_findRounds_119 : decode cX7_findRounds 119 = .ok (.invokevirtual 194, 3) := by decide +kernel
theorem dX7_findRounds_122 : decode cX7_findRounds 122 = .ok (.iinc 4 1, 3) := by decide +kernel
theorem dX7_findRounds_125 : decode cX7_findRounds 125 = .ok (.goto (-22), 3) := by decide +kernel
theorem dX7_findRounds_128 : decode cX7_findRounds 128 = .ok (.iconst 0, 1) := by decide +kernel
theorem dX7_findRounds_129 : decode cX7_findRounds 129 = .ok (.istore 4, 2) := by decide +kernel
theorem dX7_findRounds_131 : decode cX7_findRounds 131 = .ok (.iload 4, 2) := by decide +kernel
theorem dX7_findRounds_133 : decode cX7_findRounds 133 = .ok (.bipush 65, 2) := by decide +kernel
theorem dX7_findRounds_135 : decode cX7_findRounds 135 = .ok (.if_icmp .ge 28, 3) := by decide +kernel
theorem dX7_findRounds_138 : decode cX7_findRounds 138 = .ok (.aload_n 0, 1) := by decide +kernel
theorem dX7_findRounds_139 : decode cX7_findRounds 139 = .ok (.getfield 80, 3) := by decide +kernel
theorem dX7_findRounds_142 : decode cX7_findRounds 142 = .ok (.bipush 65, 2) := by decide +kernel
theorem dX7_findRounds_144 : decode cX7_findRounds 144 = .ok (.iload_n 3, 1) := by decide +kernel
theorem dX7_findRounds_145 : decode cX7_findRounds 145 = .ok (.imul, 1) := by decide +kernel
theorem dX7_findRounds_146 : decode cX7_findRounds 146 = .ok (.iload 4, 2) := by decide +kernel
theorem dX7_findRounds_148 : decode cX7_findRounds 148 = .ok (.iadd, 1) := by decide +kernel
theorem dX7_findRounds_149 : decode cX7_findRounds 149 = .ok (.aload_n 0, 1) := by decide +kernel
theorem dX7_findRounds_150 : decode cX7_findRounds 150 = .ok (.getfield 74, 3) := by decide +kernel
theorem dX7_findRounds_153 : decode cX7_findRounds 153 = .ok (.iload 4, 2) := by decide +kernel
theorem dX7_findRounds_155 : decode cX7_findRounds 155 = .ok (.iaload, 1) := by decide +kernel
theorem dX7_findRounds_156 : decode cX7_findRounds 156 = .ok (.iastore, 1) := by decide +kernel
theorem dX7_findRounds_157 : decode cX7_findRounds 157 = .ok (.iinc 4 1, 3) := by decide +kernel
theorem dX7_findRounds_160 : decode cX7_findRounds 160 = .ok (.goto (-29), 3) := by decide +kernel
theorem dX7_findRounds_163 : decode cX7_findRounds 163 = .ok (.iinc 3 1, 3) := by decide +kernel
theorem dX7_findRounds_166 : decode cX7_findRounds 166 = .ok (.goto (-134), 3) := by decide +kernel
theorem dX7_findRounds_169 : decode cX7_findRounds 169 = .ok (.return_, 1) := by decide +kernel
theorem dX7_round_0 : decode cX7_round 0 = .ok (.aload_n 0, 1) := by decide +kernel
theorem dX7_round_1 : decode cX7_round 1 = .ok (.iconst 0, 1) := by decide +kernel
theorem dX7_round_2 : decode cX7_round 2 = .ok (.putfield 1, 3) := by decide +kernel
theorem dX7_round_5 : decode cX7_round 5 = .ok (.iload_n 1, 1) := by decide +kernel
theorem dX7_round_6 : decode cX7_round 6 = .ok (.invokestatic 120, 3) := by decide +kernel
theorem dX7_round_9 : decode cX7_round 9 = .ok (.ifCond .eq 20, 3) := by decide +kernel
theorem dX7_round_12 : decode cX7_round 12 = .ok (.iload_n 2, 1) := by decide +kernel
theorem dX7_round_13 : decode cX7_round 13 = .ok (.i2l, 1) := by decide +kernel
theorem dX7_round_14 : decode cX7_round 14 = .ok (.lconst 1, 1) := by decide +kernel
theorem dX7_round_15 : decode cX7_round 15 = .ok (.ldc2_w 197, 3) := by decide +kernel
theorem dX7_round_18 : decode cX7_round 18 = .ok (.invokestatic 90, 3) := by decide +kernel
theorem dX7_round_21 : decode cX7_round 21 = .ok (.ifCond .eq 8, 3) := by decide +kernel
theorem dX7_round_24 : decode cX7_round 24 = .ok (.iload_n 3, 1) := by decide +kernel
theorem dX7_round_25 : decode cX7_round 25 = .ok (.iconst (-1), 1) := by decide +kernel
theorem dX7_round_26 : decode cX7_round 26 = .ok (.if_icmp .ge 6, 3) := by decide +kernel
theorem dX7_round_29 : decode cX7_round 29 = .ok (.ldc 108, 2) := by decide +kernel
theorem dX7_round_31 : decode cX7_round 31 = .ok (.ireturn, 1) := by decide +kernel
theorem dX7_round_32 : decode cX7_round 32 = .ok (.aload_n 0, 1) := by decide +kernel
theorem dX7_round_33 : decode cX7_round 33 = .ok (.getfield 7, 3) := by decide +kernel
theorem dX7_round_36 : decode cX7_round 36 = .ok (.istore 4, 2) := by decide +kernel
theorem dX7_round_38 : decode cX7_round 38 = .ok (.aload_n 0, 1) := by decide +kernel
theorem dX7_round_39 : decode cX7_round 39 = .ok (.iload_n 1, 1) := by decide +kernel
theorem dX7_round_40 : decode cX7_round 40 = .ok (.invokevirtual 144, 3) := by decide +kernel
theorem dX7_round_43 : decode cX7_round 43 = .ok (.istore 5, 2) := by decide +kernel
theorem dX7_round_45 : decode cX7_round 45 = .ok (.iload 5, 2) := by decide +kernel
theorem dX7_round_47 : decode cX7_round 47 = .ok (.ifCond .ge 6, 3) := by decide +kernel
theorem dX7_round_50 : decode cX7_round 50 = .ok (.iload 5, 2) := by decide +kernel
theorem dX7_round_52 : decode cX7_round 52 = .ok (.ireturn, 1) := by decide +kernel
theorem dX7_round_53 : decode cX7_round 53 = .ok (.aload_n 0, 1) := by decide +kernel
theorem dX7_round_54 : decode cX7_round 54 = .ok (.getfield 28, 3) := by decide +kernel
theorem dX7_round_57 : decode cX7_round 57 = .ok (.iload_n 1, 1) := by decide +kernel
theorem dX7_round_58 : decode cX7_round 58 = .ok (.iaload, 1) := by decide +kernel
theorem dX7_round_59 : decode cX7_round 59 = .ok (.iconst 2, 1) := by decide +kernel
theorem dX7_round_60 : decode cX7_round 60 = .ok (.if_icmp .ge 9, 3) := by decide +kernel
theorem dX7_round_63 : decode cX7_round 63 = .ok (.aload_n 0, 1) := by decide +kernel
theorem dX7_round_64 : decode cX7_round 64 = .ok (.iconst 3, 1) := by decide +kernel
theorem dX7_round_65 : decode cX7_round 65 = .ok (.invokevirtual 109, 3) := by decide +kernel
theorem dX7_round_68 : decode cX7_round 68 = .ok (.ireturn, 1) := by decide +kernel
theorem dX7_round_69 : decode cX7_round 69 = .ok (.iconst 1, 1) := by decide +kernel
theorem dX7_round_70 : decode cX7_round 70 = .ok (.istore 6, 2) := by decide +kernel
theorem dX7_round_72 : decode cX7_round 72 = .ok (.iconst 0, 1) := by decide +kernel
theorem dX7_round_73 : decode cX7_round 73 = .ok (.istore 7, 2) := by decide +kernel
theorem dX7_round_75 : decode cX7_round 75 = .ok (.iload 7, 2) := by decide +kernel
theorem dX7_round_77 : decode cX7_round 77 = .ok (.iload_n 2, 1) := by decide +kernel
theorem dX7_round_78 : decode cX7_round 78 = .ok (.if_icmp .ge 32, 3) := by decide +kernel
theorem dX7_round_81 : decode cX7_round 81 = .ok (.iload 6, 2) := by decide +kernel
theorem dX7_round_83 : decode cX7_round 83 = .ok (.bipush 64, 2) := by decide +kernel
theorem dX7_round_85 : decode cX7_round 85 = .ok (.if_icmp .le 8, 3) := by decide +kernel
theorem dX7_round_88 : decode cX7_round 88 = .ok (.iload 6, 2) := by decide +kernel
theorem dX7_round_90 : decode cX7_round 90 = .ok (.goto 12, 3) := by decide +kernel
theorem dX7_round_93 : decode cX7_round 93 = .ok (.iload 6, 2) := by decide +kernel
theorem dX7_round_95 : decode cX7_round 95 = .ok (.aload_n 0, 1) := by decide +kernel
theorem dX7_round_96 : decode cX7_round 96 = .ok (.getfield 28, 3) := by decide +kernel
theorem dX7_round_99 : decode cX7_round 99 = .ok (.iload_n 1, 1) := by decide +kernel
theorem dX7_round_100 : decode cX7_round 100 = .ok (.iaload, 1) := by decide +kernel
theorem dX7_round_101 : decode cX7_round 101 = .ok (.imul, 1) := by decide +kernel
theorem dX7_round_102 : decode cX7_round 102 = .ok (.istore 6, 2) := by decide +kernel
theorem dX7_round_104 : decode cX7_round 104 = .ok (.iinc 7 1, 3) := by decide +kernel
theorem dX7_round_107 : decode cX7_round 107 = .ok (.goto (-32), 3) := by decide +kernel
theorem dX7_round_110 : decode cX7_round 110 = .ok (.iload 6, 2) := by decide +kernel
theorem dX7_round_112 : decode cX7_round 112 = .ok (.bipush 64, 2) := by decide +kernel
theorem dX7_round_114 : decode cX7_round 114 = .ok (.if_icmp .le 12, 3) := by decide +kernel
theorem dX7_round_117 : decode cX7_round 117 = .ok (.aload_n 0, 1) := by decide +kernel
theorem dX7_round_118 : decode cX7_round 118 = .ok (.iload 4, 2) := by decide +kernel
theorem dX7_round_120 : decode cX7_round 120 = .ok (.putfield 7, 3) := by decide +kernel
theorem dX7_round_123 : decode cX7_round 123 = .ok (.ldc 139, 2) := by decide +kernel
theorem dX7_round_125 : decode cX7_round 125 = .ok (.ireturn, 1) := by decide +kernel
theorem dX7_round_126 : decode cX7_round 126 = .ok (.aload_n 0, 1) := by decide +kernel
theorem dX7_round_127 : decode cX7_round 127 = .ok (.iload_n 1, 1) := by decide +kernel
theorem dX7_round_128 : decode cX7_round 128 = .ok (.iload_n 2, 1) := by decide +kernel
theorem dX7_round_129 : decode cX7_round 129 = .ok (.invokevirtual 199, 3) := by decide +kernel
theorem dX7_round_132 : decode cX7_round 132 = .ok (.iload_n 3, 1) := by decide +kernel
theorem dX7_round_133 : decode cX7_round 133 = .ok (.ifCond .ge 11, 3) := by decide +kernel
theorem dX7_round_136 : decode cX7_round 136 = .ok (.aload_n 0, 1) := by decide +kernel
theorem dX7_round_137 : decode cX7_round 137 = .ok (.iload_n 2, 1) := by decide +kernel
theorem dX7_round_138 : decode cX7_round 138 = .ok (.invokevirtual 188, 3) := by decide +kernel
theorem dX7_round_141 : decode cX7_round 141 = .ok (.goto 24, 3) := by decide +kernel
theorem dX7_round_144 : decode cX7_round 144 = .ok (.iload_n 3, 1) := by decide +kernel
theorem dX7_round_145 : decode cX7_round 145 = .ok (.bipush 64, 2) := by decide +kernel
theorem dX7_round_147 : decode cX7_round 147 = .ok (.if_icmp .le 7, 3) := by decide +kernel
theorem dX7_round_150 : decode cX7_round 150 = .ok (.iconst 0, 1) := by decide +kernel
theorem dX7_round_151 : decode cX7_round 151 = .ok (.goto 14, 3) := by decide +kernel
theorem dX7_round_154 : decode cX7_round 154 = .ok (.aload_n 0, 1) := by decide +kernel
theorem dX7_round_155 : decode cX7_round 155 = .ok (.getfield 80, 3) := by decide +kernel
theorem dX7_round_158 : decode cX7_round 158 = .ok (.bipush 65, 2) := by decide +kernel
theorem dX7_round_160 : decode cX7_round 160 = .ok (.iload_n 2, 1) := by decide +kernel
theorem dX7_round_161 : decode cX7_round 161 = .ok (.imul, 1) := by decide +kernel
theorem dX7_round_162 : decode cX7_round 162 = .ok (.iload_n 3, 1) := by decide +kernel
theorem dX7_round_163 : decode cX7_round 163 = .ok (.iadd, 1) := by decide +kernel
theorem dX7_round_164 : decode cX7_round 164 = .ok (.iaload, 1) := by decide +kernel
theorem dX7_round_165 : decode cX7_round 165 = .ok (.ireturn, 1) := by decide +kernel
theorem dX7_divisor_0 : decode cX7_divisor 0 = .ok (.iload_n 0, 1) := by decide +kernel
theorem dX7_divisor_1 : decode cX7_divisor 1 = .ok (.ifCond .ge 8, 3) := by decide +kernel
theorem dX7_divisor_4 : decode cX7_divisor 4 = .ok (.iload_n 0, 1) := by decide +kernel
theorem dX7_divisor_5 : decode cX7_divisor 5 = .ok (.ineg, 1) := by decide +kernel
theorem dX7_divisor_6 : decode cX7_divisor 6 = .ok (.goto 4, 3) := by decide +kernel
theorem dX7_divisor_9 : decode cX7_divisor 9 = .ok (.iload_n 0, 1) := by decide +kernel
theorem dX7_divisor_10 : decode cX7_divisor 10 = .ok (.istore_n 2, 1) := by decide +kernel
theorem dX7_divisor_11 : decode cX7_divisor 11 = .ok (.iload_n 1, 1) := by decide +kernel
theorem dX7_divisor_12 : decode cX7_divisor 12 = .ok (.istore_n 3, 1) := by decide +kernel
theorem dX7_divisor_13 : decode cX7_divisor 13 = .ok (.iload_n 3, 1) := by decide +kernel
theorem dX7_divisor_14 : decode cX7_divisor 14 = .ok (.ifCond .eq 16, 3) := by decide +kernel
theorem dX7_divisor_17 : decode cX7_divisor 17 = .ok (.iload_n 2, 1) := by decide +kernel
theorem dX7_divisor_18 : decode cX7_divisor 18 = .ok (.iload_n 3, 1) := by decide +kernel
theorem dX7_divisor_19 : decode cX7_divisor 19 = .ok (.irem, 1) := by decide +kernel
theorem dX7_divisor_20 : decode cX7_divisor 20 = .ok (.istore 4, 2) := by decide +kernel
theorem dX7_divisor_22 : decode cX7_divisor 22 = .ok (.iload_n 3, 1) := by decide +kernel
theorem dX7_divisor_23 : decode cX7_divisor 23 = .ok (.istore_n 2, 1) := by decide +kernel
theorem dX7_divisor_24 : decode cX7_divisor 24 = .ok (.iload 4, 2) := by decide +kernel
theorem dX7_divisor_26 : decode cX7_divisor 26 = .ok (.istore_n 3, 1) := by decide +kernel
theorem dX7_divisor_27 : decode cX7_divisor 27 = .ok (.goto (-14), 3) := by decide +kernel
theorem dX7_divisor_30 : decode cX7_divisor 30 = .ok (.iload_n 2, 1) := by decide +kernel
theorem dX7_divisor_31 : decode cX7_divisor 31 = .ok (.ireturn, 1) := by decide +kernel
theorem dX7_isFraction_0 : decode cX7_isFraction 0 = .ok (.iload_n 0, 1) := by decide +kernel
theorem dX7_isFraction_1 : decode cX7_isFraction 1 = .ok (.i2l, 1) := by decide +kernel
theorem dX7_isFraction_2 : decode cX7_isFraction 2 = .ok (.ldc2_w 203, 3) := by decide +kernel
theorem dX7_isFraction_5 : decode cX7_isFraction 5 = .ok (.ldc2_w 205, 3) := by decide +kernel
theorem dX7_isFraction_8 : decode cX7_isFraction 8 = .ok (.invokestatic 90, 3) := by decide +kernel
theorem dX7_isFraction_11 : decode cX7_isFraction 11 = .ok (.ifCond .eq 28, 3) := by decide +kernel
theorem dX7_isFraction_14 : decode cX7_isFraction 14 = .ok (.iload_n 1, 1) := by decide +kernel
theorem dX7_isFraction_15 : decode cX7_isFraction 15 = .ok (.i2l, 1) := by decide +kernel
theorem dX7_isFraction_16 : decode cX7_isFraction 16 = .ok (.lconst 1, 1) := by decide +kernel
theorem dX7_isFraction_17 : decode cX7_isFraction 17 = .ok (.ldc2_w 207, 3) := by decide +kernel
theorem dX7_isFraction_20 : decode cX7_isFraction 20 = .ok (.invokestatic 90, 3) := by decide +kernel
theorem dX7_isFraction_23 : decode cX7_isFraction 23 = .ok (.ifCond .eq 16, 3) := by decide +kernel
theorem dX7_isFraction_26 : decode cX7_isFraction 26 = .ok (.iload_n 0, 1) := by decide +kernel
theorem dX7_isFraction_27 : decode cX7_isFraction 27 = .ok (.iload_n 1, 1) := by decide +kernel
theorem dX7_isFraction_28 : decode cX7_isFraction 28 = .ok (.invokestatic 209, 3) := by decide +kernel
theorem dX7_isFraction_31 : decode cX7_isFraction 31 = .ok (.iconst 1, 1) := by decide +kernel
theorem dX7_isFraction_32 : decode cX7_isFraction 32 = .ok (.if_icmp .ne 7, 3) := by decide +kernel
theorem dX7_isFraction_35 : decode cX7_isFraction 35 = .ok (.iconst 1, 1) := by decide +kernel
theorem dX7_isFraction_36 : decode cX7_isFraction 36 = .ok (.goto 4, 3) := by decide +kernel
theorem dX7_isFraction_39 : decode cX7_isFraction 39 = .ok (.iconst 0, 1) := by decide +kernel
theorem dX7_isFraction_40 : decode cX7_isFraction 40 = .ok (.ireturn, 1) := by decide +kernel
theorem dX7_nextOf_0 : decode cX7_nextOf 0 = .ok (.iload_n 2, 1) := by decide +kernel
theorem dX7_nextOf_1 : decode cX7_nextOf 1 = .ok (.iload_n 2, 1) := by decide +kernel
theorem dX7_nextOf_2 : decode cX7_nextOf 2 = .ok (.imul, 1) := by decide +kernel
theorem dX7_nextOf_3 : decode cX7_nextOf 3 = .ok (.iload_n 0, 1) := by decide +kernel
theorem dX7_nextOf_4 : decode cX7_nextOf 4 = .ok (.iadd, 1) := by decide +kernel
theorem dX7_nextOf_5 : decode cX7_nextOf 5 = .ok (.istore_n 3, 1) := by decide +kernel
theorem dX7_nextOf_6 : decode cX7_nextOf 6 = .ok (.iload_n 3, 1) := by decide +kernel
theorem dX7_nextOf_7 : decode cX7_nextOf 7 = .ok (.iload_n 1, 1) := by decide +kernel
theorem dX7_nextOf_8 : decode cX7_nextOf 8 = .ok (.irem, 1) := by decide +kernel
theorem dX7_nextOf_9 : decode cX7_nextOf 9 = .ok (.ifCond .ne 20, 3) := by decide +kernel
theorem dX7_nextOf_12 : decode cX7_nextOf 12 = .ok (.iload_n 3, 1) := by decide +kernel
theorem dX7_nextOf_13 : decode cX7_nextOf 13 = .ok (.iload_n 1, 1) := by decide +kernel
theorem dX7_nextOf_14 : decode cX7_nextOf 14 = .ok (.idiv, 1) := by decide +kernel
theorem dX7_nextOf_15 : decode cX7_nextOf 15 = .ok (.iload_n 1, 1) := by decide +kernel
theorem dX7_nextOf_16 : decode cX7_nextOf 16 = .ok (.invokestatic 209, 3) := by decide +kernel
theorem dX7_nextOf_19 : decode cX7_nextOf 19 = .ok (.iconst 1, 1) := by decide +kernel
theorem dX7_nextOf_20 : decode cX7_nextOf 20 = .ok (.if_icmp .ne 9, 3) := by decide +kernel
theorem dX7_nextOf_23 : decode cX7_nextOf 23 = .ok (.iload_n 3, 1) := by decide +kernel
theorem dX7_nextOf_24 : decode cX7_nextOf 24 = .ok (.iload_n 1, 1) := by decide +kernel
theorem dX7_nextOf_25 : decode cX7_nextOf 25 = .ok (.idiv, 1) := by decide +kernel
theorem dX7_nextOf_26 : decode cX7_nextOf 26 = .ok (.goto 5, 3) := by decide +kernel
theorem dX7_nextOf_29 : decode cX7_nextOf 29 = .ok (.ldc 176, 2) := by decide +kernel
theorem dX7_nextOf_31 : decode cX7_nextOf 31 = .ok (.ireturn, 1) := by decide +kernel
theorem dX7_returns_0 : decode cX7_returns 0 = .ok (.iload_n 3, 1) := by decide +kernel
theorem dX7_returns_1 : decode cX7_returns 1 = .ok (.iload_n 2, 1) := by decide +kernel
theorem dX7_returns_2 : decode cX7_returns 2 = .ok (.invokestatic 209, 3) := by decide +kernel
theorem dX7_returns_5 : decode cX7_returns 5 = .ok (.iconst 1, 1) := by decide +kernel
theorem dX7_returns_6 : decode cX7_returns 6 = .ok (.if_icmp .eq 5, 3) := by decide +kernel
theorem dX7_returns_9 : decode cX7_returns 9 = .ok (.iconst 0, 1) := by decide +kernel
theorem dX7_returns_10 : decode cX7_returns 10 = .ok (.ireturn, 1) := by decide +kernel
theorem dX7_returns_11 : decode cX7_returns 11 = .ok (.iconst 0, 1) := by decide +kernel
theorem dX7_returns_12 : decode cX7_returns 12 = .ok (.istore 4, 2) := by decide +kernel
theorem dX7_returns_14 : decode cX7_returns 14 = .ok (.iload 4, 2) := by decide +kernel
theorem dX7_returns_16 : decode cX7_returns 16 = .ok (.sipush 241, 3) := by decide +kernel
theorem dX7_returns_19 : decode cX7_returns 19 = .ok (.if_icmp .ge 17, 3) := by decide +kernel
theorem dX7_returns_22 : decode cX7_returns 22 = .ok (.aload_n 0, 1) := by decide +kernel
theorem dX7_returns_23 : decode cX7_returns 23 = .ok (.getfield 83, 3) := by decide +kernel
theorem dX7_returns_26 : decode cX7_returns 26 = .ok (.iload 4, 2) := by decide +kernel
theorem dX7_returns_28 : decode cX7_returns 28 = .ok (.iconst (-1), 1) := by decide +kernel
theorem dX7_returns_29 : decode cX7_returns 29 = .ok (.iastore, 1) := by decide +kernel
theorem dX7_returns_30 : decode cX7_returns 30 = .ok (.iinc 4 1, 3) := by decide +kernel
theorem dX7_returns_33 : decode cX7_returns 33 = .ok (.goto (-19), 3) := by decide +kernel
theorem dX7_returns_36 : decode cX7_returns 36 = .ok (.iload_n 3, 1) := by decide +kernel
theorem dX7_returns_37 : decode cX7_returns 37 = .ok (.istore 4, 2) := by decide +kernel
theorem dX7_returns_39 : decode cX7_returns 39 = .ok (.iconst 0, 1) := by decide +kernel
theorem dX7_returns_40 : decode cX7_returns 40 = .ok (.istore 5, 2) := by decide +kernel
theorem dX7_returns_42 : decode cX7_returns 42 = .ok (.iload 4, 2) := by decide +kernel
theorem dX7_returns_44 : decode cX7_returns 44 = .ok (.i2l, 1) := by decide +kernel
theorem dX7_returns_45 : decode cX7_returns 45 = .ok (.ldc2_w 212, 3) := by decide +kernel
theorem dX7_returns_48 : decode cX7_returns 48 = .ok (.ldc2_w 214, 3) := by decide +kernel
theorem dX7_returns_51 : decode cX7_returns 51 = .ok (.invokestatic 90, 3) := by decide +kernel
theorem dX7_returns_54 : decode cX7_returns 54 = .ok (.ifCond .eq 43, 3) := by decide +kernel
theorem dX7_returns_57 : decode cX7_returns 57 = .ok (.aload_n 0, 1) := by decide +kernel
theorem dX7_returns_58 : decode cX7_returns 58 = .ok (.getfield 83, 3) := by decide +kernel
theorem dX7_returns_61 : decode cX7_returns 61 = .ok (.iload 4, 2) := by decide +kernel
theorem dX7_returns_63 : decode cX7_returns 63 = .ok (.bipush 120, 2) := by decide +kernel
theorem dX7_returns_65 : decode cX7_returns 65 = .ok (.iadd, 1) := by decide +kernel
theorem dX7_returns_66 : decode cX7_returns 66 = .ok (.iaload, 1) := by decide +kernel
theorem dX7_returns_67 : decode cX7_returns 67 = .ok (.ifCond .ge 30, 3) := by decide +kernel
theorem dX7_returns_70 : decode cX7_returns 70 = .ok (.aload_n 0, 1) := by decide +kernel
theorem dX7_returns_71 : decode cX7_returns 71 = .ok (.getfield 83, 3) := by decide +kernel
theorem dX7_returns_74 : decode cX7_returns 74 = .ok (.iload 4, 2) := by decide +kernel
theorem dX7_returns_76 : decode cX7_returns 76 = .ok (.bipush 120, 2) := by decide +kernel
theorem dX7_returns_78 : decode cX7_returns 78 = .ok (.iadd, 1) := by decide +kernel
theorem dX7_returns_79 : decode cX7_returns 79 = .ok (.iload 5, 2) := by decide +kernel
theorem dX7_returns_81 : decode cX7_returns 81 = .ok (.iastore, 1) := by decide +kernel
theorem dX7_returns_82 : decode cX7_returns 82 = .ok (.iinc 5 1, 3) := by decide +kernel
theorem dX7_returns_85 : decode cX7_returns 85 = .ok (.iload_n 1, 1) := by decide +kernel
theorem dX7_returns_86 : decode cX7_returns 86 = .ok (.iload_n 2, 1) := by decide +kernel
theorem dX7_returns_87 : decode cX7_returns 87 = .ok (.iload 4, 2) := by decide +kernel
theorem dX7_returns_89 : decode cX7_returns 89 = .ok (.invokestatic 216, 3) := by decide +kernel
theorem dX7_returns_92 : decode cX7_returns 92 = .ok (.istore 4, 2) := by decide +kernel
theorem dX7_returns_94 : decode cX7_returns 94 = .ok (.goto (-52), 3) := by decide +kernel
theorem dX7_returns_97 : decode cX7_returns 97 = .ok (.iload 4, 2) := by decide +kernel
theorem dX7_returns_99 : decode cX7_returns 99 = .ok (.i2l, 1) := by decide +kernel
theorem dX7_returns_100 : decode cX7_returns 100 = .ok (.ldc2_w 212, 3) := by decide +kernel
theorem dX7_returns_103 : decode cX7_returns 103 = .ok (.ldc2_w 214, 3) := by decide +kernel
theorem dX7_returns_106 : decode cX7_returns 106 = .ok (.invokestatic 90, 3) := by decide +kernel
theorem dX7_returns_109 : decode cX7_returns 109 = .ok (.ifCond .ne 5, 3) := by decide +kernel
theorem dX7_returns_112 : decode cX7_returns 112 = .ok (.iconst 0, 1) := by decide +kernel
theorem dX7_returns_113 : decode cX7_returns 113 = .ok (.ireturn, 1) := by decide +kernel
theorem dX7_returns_114 : decode cX7_returns 114 = .ok (.aload_n 0, 1) := by decide +kernel
theorem dX7_returns_115 : decode cX7_returns 115 = .ok (.aload_n 0, 1) := by decide +kernel
theorem dX7_returns_116 : decode cX7_returns 116 = .ok (.getfield 83, 3) := by decide +kernel
theorem dX7_returns_119 : decode cX7_returns 119 = .ok (.iload 4, 2) := by decide +kernel
theorem dX7_returns_121 : decode cX7_returns 121 = .ok (.bipush 120, 2) := by decide +kernel
theorem dX7_returns_123 : decode cX7_returns 123 = .ok (.iadd, 1) := by decide +kernel
theorem dX7_returns_124 : decode cX7_returns 124 = .ok (.iaload, 1) := by decide +kernel
theorem dX7_returns_125 : decode cX7_returns 125 = .ok (.putfield 220, 3) := by decide +kernel
theorem dX7_returns_128 : decode cX7_returns 128 = .ok (.aload_n 0, 1) := by decide +kernel
theorem dX7_returns_129 : decode cX7_returns 129 = .ok (.iload 5, 2) := by decide +kernel
theorem dX7_returns_131 : decode cX7_returns 131 = .ok (.aload_n 0, 1) := by decide +kernel
theorem dX7_returns_132 : decode cX7_returns 132 = .ok (.getfield 220, 3) := by decide +kernel
theorem dX7_returns_135 : decode cX7_returns 135 = .ok (.isub, 1) := by decide +kernel
theorem dX7_returns_136 : decode cX7_returns 136 = .ok (.putfield 223, 3) := by decide +kernel
theorem dX7_returns_139 : decode cX7_returns 139 = .ok (.iconst 1, 1) := by decide +kernel
theorem dX7_returns_140 : decode cX7_returns 140 = .ok (.ireturn, 1) := by decide +kernel
theorem dX7_fraction_0 : decode cX7_fraction 0 = .ok (.aload_n 0, 1) := by decide +kernel
theorem dX7_fraction_1 : decode cX7_fraction 1 = .ok (.iconst 0, 1) := by decide +kernel
theorem dX7_fraction_2 : decode cX7_fraction 2 = .ok (.putfield 1, 3) := by decide +kernel
theorem dX7_fraction_5 : decode cX7_fraction 5 = .ok (.iload_n 1, 1) := by decide +kernel
theorem dX7_fraction_6 : decode cX7_fraction 6 = .ok (.iload_n 2, 1) := by decide +kernel
theorem dX7_fraction_7 : decode cX7_fraction 7 = .ok (.invokestatic 226, 3) := by decide +kernel
theorem dX7_fraction_10 : decode cX7_fraction 10 = .ok (.ifCond .eq 16, 3) := by decide +kernel
theorem dX7_fraction_13 : decode cX7_fraction 13 = .ok (.iload 4, 2) := by decide +kernel
theorem dX7_fraction_15 : decode cX7_fraction 15 = .ok (.i2l, 1) := by decide +kernel
theorem dX7_fraction_16 : decode cX7_fraction 16 = .ok (.lconst 0, 1) := by decide +kernel
theorem dX7_fraction_17 : decode cX7_fraction 17 = .ok (.ldc2_w 106, 3) := by decide +kernel
theorem dX7_fraction_20 : decode cX7_fraction 20 = .ok (.invokestatic 90, 3) := by decide +kernel
theorem dX7_fraction_23 : decode cX7_fraction 23 = .ok (.ifCond .ne 6, 3) := by decide +kernel
theorem dX7_fraction_26 : decode cX7_fraction 26 = .ok (.ldc 108, 2) := by decide +kernel
theorem dX7_fraction_28 : decode cX7_fraction 28 = .ok (.ireturn, 1) := by decide +kernel
theorem dX7_fraction_29 : decode cX7_fraction 29 = .ok (.iconst 0, 1) := by decide +kernel
theorem dX7_fraction_30 : decode cX7_fraction 30 = .ok (.istore 5, 2) := by decide +kernel
theorem dX7_fraction_32 : decode cX7_fraction 32 = .ok (.bipush (-120), 2) := by decide +kernel
theorem dX7_fraction_34 : decode cX7_fraction 34 = .ok (.istore 6, 2) := by decide +kernel
theorem dX7_fraction_36 : decode cX7_fraction 36 = .ok (.iload 6, 2) := by decide +kernel
theorem dX7_fraction_38 : decode cX7_fraction 38 = .ok (.bipush 120, 2) := by decide +kernel
theorem dX7_fraction_40 : decode cX7_fraction 40 = .ok (.if_icmp .gt 57, 3) := by decide +kernel
theorem dX7_fraction_43 : decode cX7_fraction 43 = .ok (.aload_n 0, 1) := by decide +kernel
theorem dX7_fraction_44 : decode cX7_fraction 44 = .ok (.iload_n 1, 1) := by decide +kernel
theorem dX7_fraction_45 : decode cX7_fraction 45 = .ok (.iload_n 2, 1) := by decide +kernel
theorem dX7_fraction_46 : decode cX7_fraction 46 = .ok (.iload 6, 2) := by decide +kernel
theorem dX7_fraction_48 : decode cX7_fraction 48 = .ok (.invokevirtual 229, 3) := by decide +kernel
theorem dX7_fraction_51 : decode cX7_fraction 51 = .ok (.ifCond .eq 40, 3) := by decide +kernel
theorem dX7_fraction_54 : decode cX7_fraction 54 = .ok (.iload 5, 2) := by decide +kernel
theorem dX7_fraction_56 : decode cX7_fraction 56 = .ok (.iload_n 3, 1) := by decide +kernel
theorem dX7_fraction_57 : decode cX7_fraction 57 = .ok (.if_icmp .ne 31, 3) := by decide +kernel
theorem dX7_fraction_60 : decode cX7_fraction 60 = .ok (.iload 4, 2) := by decide +kernel
theorem dX7_fraction_62 : decode cX7_fraction 62 = .ok (.ifCond .ne 8, 3) := by decide +kernel
theorem dX7_fraction_65 : decode cX7_fraction 65 = .ok (.iload 6, 2) := by decide +kernel
theorem dX7_fraction_67 : decode cX7_fraction 67 = .ok (.goto 20, 3) := by decide +kernel
theorem dX7_fraction_70 : decode cX7_fraction 70 = .ok (.iload 4, 2) := by decide +kernel
theorem dX7_fraction_72 : decode cX7_fraction 72 = .ok (.iconst 1, 1) := by decide +kernel
theorem dX7_fraction_73 : decode cX7_fraction 73 = .ok (.if_icmp .ne 10, 3) := by decide +kernel
theorem dX7_fraction_76 : decode cX7_fraction 76 = .ok (.aload_n 0, 1) := by decide +kernel
theorem dX7_fraction_77 : decode cX7_fraction 77 = .ok (.getfield 220, 3) := by decide +kernel
theorem dX7_fraction_80 : decode cX7_fraction 80 = .ok (.goto 7, 3) := by decide +kernel
theorem dX7_fraction_83 : decode cX7_fraction 83 = .ok (.aload_n 0, 1) := by decide +kernel
theorem dX7_fraction_84 : decode cX7_fraction 84 = .ok (.getfield 223, 3) := by decide +kernel
theorem dX7_fraction_87 : decode cX7_fraction 87 = .ok (.ireturn, 1) := by decide +kernel
theorem dX7_fraction_88 : decode cX7_fraction 88 = .ok (.iinc 5 1, 3) := by decide +kernel
theorem dX7_fraction_91 : decode cX7_fraction 91 = .ok (.iinc 6 1, 3) := by decide +kernel
theorem dX7_fraction_94 : decode cX7_fraction 94 = .ok (.goto (-58), 3) := by decide +kernel
theorem dX7_fraction_97 : decode cX7_fraction 97 = .ok (.iload_n 3, 1) := by decide +kernel
theorem dX7_fraction_98 : decode cX7_fraction 98 = .ok (.ldc 176, 2) := by decide +kernel
theorem dX7_fraction_100 : decode cX7_fraction 100 = .ok (.if_icmp .ne 8, 3) := by decide +kernel
theorem dX7_fraction_103 : decode cX7_fraction 103 = .ok (.iload 5, 2) := by decide +kernel
theorem dX7_fraction_105 : decode cX7_fraction 105 = .ok (.goto 5, 3) := by decide +kernel
theorem dX7_fraction_108 : decode cX7_fraction 108 = .ok (.ldc 176, 2) := by decide +kernel
theorem dX7_fraction_110 : decode cX7_fraction 110 = .ok (.ireturn, 1) := by decide +kernel
theorem dX7_next_0 : decode cX7_next 0 = .ok (.aload_n 0, 1) := by decide +kernel
theorem dX7_next_1 : decode cX7_next 1 = .ok (.iconst 0, 1) := by decide +kernel
theorem dX7_next_2 : decode cX7_next 2 = .ok (.putfield 1, 3) := by decide +kernel
theorem dX7_next_5 : decode cX7_next 5 = .ok (.iload_n 1, 1) := by decide +kernel
theorem dX7_next_6 : decode cX7_next 6 = .ok (.iload_n 2, 1) := by decide +kernel
theorem dX7_next_7 : decode cX7_next 7 = .ok (.invokestatic 226, 3) := by decide +kernel
theorem dX7_next_10 : decode cX7_next 10 = .ok (.ifCond .eq 26, 3) := by decide +kernel
theorem dX7_next_13 : decode cX7_next 13 = .ok (.iload_n 3, 1) := by decide +kernel
theorem dX7_next_14 : decode cX7_next 14 = .ok (.i2l, 1) := by decide +kernel
theorem dX7_next_15 : decode cX7_next 15 = .ok (.ldc2_w 233, 3) := by decide +kernel
theorem dX7_next_18 : decode cX7_next 18 = .ok (.ldc2_w 235, 3) := by decide +kernel
theorem dX7_next_21 : decode cX7_next 21 = .ok (.invokestatic 90, 3) := by decide +kernel
theorem dX7_next_24 : decode cX7_next 24 = .ok (.ifCond .eq 12, 3) := by decide +kernel
theorem dX7_next_27 : decode cX7_next 27 = .ok (.iload_n 3, 1) := by decide +kernel
theorem dX7_next_28 : decode cX7_next 28 = .ok (.iload_n 2, 1) := by decide +kernel
theorem dX7_next_29 : decode cX7_next 29 = .ok (.invokestatic 209, 3) := by decide +kernel
theorem dX7_next_32 : decode cX7_next 32 = .ok (.iconst 1, 1) := by decide +kernel
theorem dX7_next_33 : decode cX7_next 33 = .ok (.if_icmp .eq 8, 3) := by decide +kernel
theorem dX7_next_36 : decode cX7_next 36 = .ok (.ldc 108, 2) := by decide +kernel
theorem dX7_next_38 : decode cX7_next 38 = .ok (.goto 9, 3) := by decide +kernel
theorem dX7_next_41 : decode cX7_next 41 = .ok (.iload_n 1, 1) := by decide +kernel
theorem dX7_next_42 : decode cX7_next 42 = .ok (.iload_n 2, 1) := by decide +kernel
theorem dX7_next_43 : decode cX7_next 43 = .ok (.iload_n 3, 1) := by decide +kernel
theorem dX7_next_44 : decode cX7_next 44 = .ok (.invokestatic 216, 3) := by decide +kernel
theorem dX7_next_47 : decode cX7_next 47 = .ok (.ireturn, 1) := by decide +kernel
theorem dX7_count_0 : decode cX7_count 0 = .ok (.aload_n 0, 1) := by decide +kernel
theorem dX7_count_1 : decode cX7_count 1 = .ok (.iconst 0, 1) := by decide +kernel
theorem dX7_count_2 : decode cX7_count 2 = .ok (.putfield 1, 3) := by decide +kernel
theorem dX7_count_5 : decode cX7_count 5 = .ok (.iconst 0, 1) := by decide +kernel
theorem dX7_count_6 : decode cX7_count 6 = .ok (.istore_n 2, 1) := by decide +kernel
theorem dX7_count_7 : decode cX7_count 7 = .ok (.iload_n 1, 1) := by decide +kernel
theorem dX7_count_8 : decode cX7_count 8 = .ok (.tableswitch 133 0 7 #[48, 81, 81, 81, 81, 81, 81, 128], 48) := by decide +kernel
theorem dX7_count_56 : decode cX7_count 56 = .ok (.iconst 0, 1) := by decide +kernel
theorem dX7_count_57 : decode cX7_count 57 = .ok (.istore_n 3, 1) := by decide +kernel
theorem dX7_count_58 : decode cX7_count 58 = .ok (.iload_n 3, 1) := by decide +kernel
theorem dX7_count_59 : decode cX7_count 59 = .ok (.bipush 8, 2) := by decide +kernel
theorem dX7_count_61 : decode cX7_count 61 = .ok (.if_icmp .ge 26, 3) := by decide +kernel
theorem dX7_count_64 : decode cX7_count 64 = .ok (.iload_n 2, 1) := by decide +kernel
theorem dX7_count_65 : decode cX7_count 65 = .ok (.aload_n 0, 1) := by decide +kernel
theorem dX7_count_66 : decode cX7_count 66 = .ok (.getfield 17, 3) := by decide +kernel
theorem dX7_count_69 : decode cX7_count 69 = .ok (.iload_n 3, 1) := by decide +kernel
theorem dX7_count_70 : decode cX7_count 70 = .ok (.iaload, 1) := by decide +kernel
theorem dX7_count_71 : decode cX7_count 71 = .ok (.ifCond .lt 7, 3) := by decide +kernel
theorem dX7_count_74 : decode cX7_count 74 = .ok (.iconst 1, 1) := by decide +kernel
theorem dX7_count_75 : decode cX7_count 75 = .ok (.goto 4, 3) := by decide +kernel
theorem dX7_count_78 : decode cX7_count 78 = .ok (.iconst 0, 1) := by decide +kernel
theorem dX7_count_79 : decode cX7_count 79 = .ok (.iadd, 1) := by decide +kernel
theorem dX7_count_80 : decode cX7_count 80 = .ok (.istore_n 2, 1) := by decide +kernel
theorem dX7_count_81 : decode cX7_count 81 = .ok (.iinc 3 1, 3) := by decide +kernel
theorem dX7_count_84 : decode cX7_count 84 = .ok (.goto (-26), 3) := by decide +kernel
theorem dX7_count_87 : decode cX7_count 87 = .ok (.iload_n 2, 1) := by decide +kernel
theorem dX7_count_88 : decode cX7_count 88 = .ok (.ireturn, 1) := by decide +kernel
theorem dX7_count_89 : decode cX7_count 89 = .ok (.iconst 0, 1) := by decide +kernel
theorem dX7_count_90 : decode cX7_count 90 = .ok (.istore_n 3, 1) := by decide +kernel
theorem dX7_count_91 : decode cX7_count 91 = .ok (.iload_n 3, 1) := by decide +kernel
theorem dX7_count_92 : decode cX7_count 92 = .ok (.bipush 10, 2) := by decide +kernel
theorem dX7_count_94 : decode cX7_count 94 = .ok (.if_icmp .ge 40, 3) := by decide +kernel
theorem dX7_count_97 : decode cX7_count 97 = .ok (.iload_n 2, 1) := by decide +kernel
theorem dX7_count_98 : decode cX7_count 98 = .ok (.aload_n 0, 1) := by decide +kernel
theorem dX7_count_99 : decode cX7_count 99 = .ok (.getfield 28, 3) := by decide +kernel
theorem dX7_count_102 : decode cX7_count 102 = .ok (.iload_n 3, 1) := by decide +kernel
theorem dX7_count_103 : decode cX7_count 103 = .ok (.iaload, 1) := by decide +kernel
theorem dX7_count_104 : decode cX7_count 104 = .ok (.ifCond .lt 21, 3) := by decide +kernel
theorem dX7_count_107 : decode cX7_count 107 = .ok (.aload_n 0, 1) := by decide +kernel
theorem dX7_count_108 : decode cX7_count 108 = .ok (.iload_n 3, 1) := by decide +kernel
theorem dX7_count_109 : decode cX7_count 109 = .ok (.invokevirtual 117, 3) := by decide +kernel
theorem dX7_count_112 : decode cX7_count 112 = .ok (.iload_n 1, 1) := by decide +kernel
theorem dX7_count_113 : decode cX7_count 113 = .ok (.iconst 1, 1) := by decide +kernel
theorem dX7_count_114 : decode cX7_count 114 = .ok (.isub, 1) := by decide +kernel
theorem dX7_count_115 : decode cX7_count 115 = .ok (.invokestatic 147, 3) := by decide +kernel
theorem dX7_count_118 : decode cX7_count 118 = .ok (.ifCond .eq 7, 3) := by decide +kernel
theorem dX7_count_121 : decode cX7_count 121 = .ok (.iconst 1, 1) := by decide +kernel
theorem dX7_count_122 : decode cX7_count 122 = .ok (.goto 4, 3) := by decide +kernel
theorem dX7_count_125 : decode cX7_count 125 = .ok (.iconst 0, 1) := by decide +kernel
theorem dX7_count_126 : decode cX7_count 126 = .ok (.iadd, 1) := by decide +kernel
theorem dX7_count_127 : decode cX7_count 127 = .ok (.istore_n 2, 1) := by decide +kernel
theorem dX7_count_128 : decode cX7_count 128 = .ok (.iinc 3 1, 3) := by decide +kernel
theorem dX7_count_131 : decode cX7_count 131 = .ok (.goto (-40), 3) := by decide +kernel
theorem dX7_count_134 : decode cX7_count 134 = .ok (.iload_n 2, 1) := by decide +kernel
theorem dX7_count_135 : decode cX7_count 135 = .ok (.ireturn, 1) := by decide +kernel
theorem dX7_count_136 : decode cX7_count 136 = .ok (.aload_n 0, 1) := by decide +kernel
theorem dX7_count_137 : decode cX7_count 137 = .ok (.getfield 98, 3) := by decide +kernel
theorem dX7_count_140 : decode cX7_count 140 = .ok (.ireturn, 1) := by decide +kernel
theorem dX7_count_141 : decode cX7_count 141 = .ok (.ldc 108, 2) := by decide +kernel
theorem dX7_count_143 : decode cX7_count 143 = .ok (.ireturn, 1) := by decide +kernel
theorem dX7_status_0 : decode cX7_status 0 = .ok (.aload_n 0, 1) := by decide +kernel
theorem dX7_status_1 : decode cX7_status 1 = .ok (.iconst 0, 1) := by decide +kernel
theorem dX7_status_2 : decode cX7_status 2 = .ok (.putfield 1, 3) := by decide +kernel
theorem dX7_status_5 : decode cX7_status 5 = .ok (.aload_n 0, 1) := by decide +kernel
theorem dX7_status_6 : decode cX7_status 6 = .ok (.getfield 7, 3) := by decide +kernel
theorem dX7_status_9 : decode cX7_status 9 = .ok (.ireturn, 1) := by decide +kernel
