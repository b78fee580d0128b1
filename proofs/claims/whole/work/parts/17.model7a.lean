theorem dX12_weather_0 : decode cX12_weather 0 = .ok (.aload_n 0, 1) := by decide +kernel
theorem dX12_weather_1 : decode cX12_weather 1 = .ok (.iload_n 1, 1) := by decide +kernel
theorem dX12_weather_2 : decode cX12_weather 2 = .ok (.invokevirtual 165, 3) := by decide +kernel
theorem dX12_weather_5 : decode cX12_weather 5 = .ok (.ifCond .eq 31, 3) := by decide +kernel
theorem dX12_weather_8 : decode cX12_weather 8 = .ok (.iload_n 2, 1) := by decide +kernel
theorem dX12_weather_9 : decode cX12_weather 9 = .ok (.invokestatic 210, 3) := by decide +kernel
theorem dX12_weather_12 : decode cX12_weather 12 = .ok (.ifCond .eq 24, 3) := by decide +kernel
theorem dX12_weather_15 : decode cX12_weather 15 = .ok (.iload_n 3, 1) := by decide +kernel
theorem dX12_weather_16 : decode cX12_weather 16 = .ok (.iconst 0, 1) := by decide +kernel
theorem dX12_weather_17 : decode cX12_weather 17 = .ok (.bipush 9, 2) := by decide +kernel
theorem dX12_weather_19 : decode cX12_weather 19 = .ok (.invokestatic 106, 3) := by decide +kernel
theorem dX12_weather_22 : decode cX12_weather 22 = .ok (.ifCond .eq 14, 3) := by decide +kernel
theorem dX12_weather_25 : decode cX12_weather 25 = .ok (.iload 4, 2) := by decide +kernel
theorem dX12_weather_27 : decode cX12_weather 27 = .ok (.iconst 0, 1) := by decide +kernel
theorem dX12_weather_28 : decode cX12_weather 28 = .ok (.bipush 10, 2) := by decide +kernel
theorem dX12_weather_30 : decode cX12_weather 30 = .ok (.invokestatic 106, 3) := by decide +kernel
theorem dX12_weather_33 : decode cX12_weather 33 = .ok (.ifCond .ne 7, 3) := by decide +kernel
theorem dX12_weather_36 : decode cX12_weather 36 = .ok (.ldc2_w 308, 3) := by decide +kernel
theorem dX12_weather_39 : decode cX12_weather 39 = .ok (.lreturn, 1) := by decide +kernel
theorem dX12_weather_40 : decode cX12_weather 40 = .ok (.aload_n 0, 1) := by decide +kernel
theorem dX12_weather_41 : decode cX12_weather 41 = .ok (.invokevirtual 213, 3) := by decide +kernel
theorem dX12_weather_44 : decode cX12_weather 44 = .ok (.iconst 0, 1) := by decide +kernel
theorem dX12_weather_45 : decode cX12_weather 45 = .ok (.istore 6, 2) := by decide +kernel
theorem dX12_weather_47 : decode cX12_weather 47 = .ok (.iload 6, 2) := by decide +kernel
theorem dX12_weather_49 : decode cX12_weather 49 = .ok (.bipush 20, 2) := by decide +kernel
theorem dX12_weather_51 : decode cX12_weather 51 = .ok (.if_icmp .ge 30, 3) := by decide +kernel
theorem dX12_weather_54 : decode cX12_weather 54 = .ok (.aload_n 0, 1) := by decide +kernel
theorem dX12_weather_55 : decode cX12_weather 55 = .ok (.getfield 47, 3) := by decide +kernel
theorem dX12_weather_58 : decode cX12_weather 58 = .ok (.iload 6, 2) := by decide +kernel
theorem dX12_weather_60 : decode cX12_weather 60 = .ok (.iload 6, 2) := by decide +kernel
theorem dX12_weather_62 : decode cX12_weather 62 = .ok (.aload_n 0, 1) := by decide +kernel
theorem dX12_weather_63 : decode cX12_weather 63 = .ok (.getfield 180, 3) := by decide +kernel
theorem dX12_weather_66 : decode cX12_weather 66 = .ok (.if_icmp .ne 7, 3) := by decide +kernel
theorem dX12_weather_69 : decode cX12_weather 69 = .ok (.lconst 1, 1) := by decide +kernel
theorem dX12_weather_70 : decode cX12_weather 70 = .ok (.goto 4, 3) := by decide +kernel
theorem dX12_weather_73 : decode cX12_weather 73 = .ok (.lconst 0, 1) := by decide +kernel
theorem dX12_weather_74 : decode cX12_weather 74 = .ok (.lastore, 1) := by decide +kernel
theorem dX12_weather_75 : decode cX12_weather 75 = .ok (.iinc 6 1, 3) := by decide +kernel
theorem dX12_weather_78 : decode cX12_weather 78 = .ok (.goto (-31), 3) := by decide +kernel
theorem dX12_weather_81 : decode cX12_weather 81 = .ok (.lconst 1, 1) := by decide +kernel
theorem dX12_weather_82 : decode cX12_weather 82 = .ok (.lstore 6, 2) := by decide +kernel
theorem dX12_weather_84 : decode cX12_weather 84 = .ok (.iconst 0, 1) := by decide +kernel
theorem dX12_weather_85 : decode cX12_weather 85 = .ok (.istore 8, 2) := by decide +kernel
theorem dX12_weather_87 : decode cX12_weather 87 = .ok (.iconst 0, 1) := by decide +kernel
theorem dX12_weather_88 : decode cX12_weather 88 = .ok (.istore 9, 2) := by decide +kernel
theorem dX12_weather_90 : decode cX12_weather 90 = .ok (.iload 9, 2) := by decide +kernel
theorem dX12_weather_92 : decode cX12_weather 92 = .ok (.iload_n 3, 1) := by decide +kernel
theorem dX12_weather_93 : decode cX12_weather 93 = .ok (.if_icmp .ge 153, 3) := by decide +kernel
theorem dX12_weather_96 : decode cX12_weather 96 = .ok (.bipush 10, 2) := by decide +kernel
theorem dX12_weather_98 : decode cX12_weather 98 = .ok (.iload 8, 2) := by decide +kernel
theorem dX12_weather_100 : decode cX12_weather 100 = .ok (.isub, 1) := by decide +kernel
theorem dX12_weather_101 : decode cX12_weather 101 = .ok (.istore 10, 2) := by decide +kernel
theorem dX12_weather_103 : decode cX12_weather 103 = .ok (.iconst 0, 1) := by decide +kernel
theorem dX12_weather_104 : decode cX12_weather 104 = .ok (.istore 11, 2) := by decide +kernel
theorem dX12_weather_106 : decode cX12_weather 106 = .ok (.iload 11, 2) := by decide +kernel
theorem dX12_weather_108 : decode cX12_weather 108 = .ok (.bipush 10, 2) := by decide +kernel
theorem dX12_weather_110 : decode cX12_weather 110 = .ok (.if_icmp .ge 20, 3) := by decide +kernel
theorem dX12_weather_113 : decode cX12_weather 113 = .ok (.aload_n 0, 1) := by decide +kernel
theorem dX12_weather_114 : decode cX12_weather 114 = .ok (.getfield 47, 3) := by decide +kernel
theorem dX12_weather_117 : decode cX12_weather 117 = .ok (.iload 10, 2) := by decide +kernel
theorem dX12_weather_119 : decode cX12_weather 119 = .ok (.iload 11, 2) := by decide +kernel
theorem dX12_weather_121 : decode cX12_weather 121 = .ok (.iadd, 1) := by decide +kernel
theorem dX12_weather_122 : decode cX12_weather 122 = .ok (.lconst 0, 1) := by decide +kernel
theorem dX12_weather_123 : decode cX12_weather 123 = .ok (.lastore, 1) := by decide +kernel
theorem dX12_weather_124 : decode cX12_weather 124 = .ok (.iinc 11 1, 3) := by decide +kernel
theorem dX12_weather_127 : decode cX12_weather 127 = .ok (.goto (-21), 3) := by decide +kernel
theorem dX12_weather_130 : decode cX12_weather 130 = .ok (.iconst 0, 1) := by decide +kernel
theorem dX12_weather_131 : decode cX12_weather 131 = .ok (.istore 11, 2) := by decide +kernel
theorem dX12_weather_133 : decode cX12_weather 133 = .ok (.iload 11, 2) := by decide +kernel
theorem dX12_weather_135 : decode cX12_weather 135 = .ok (.bipush 10, 2) := by decide +kernel
theorem dX12_weather_137 : decode cX12_weather 137 = .ok (.if_icmp .ge 91, 3) := by decide +kernel
theorem dX12_weather_140 : decode cX12_weather 140 = .ok (.aload_n 0, 1) := by decide +kernel
theorem dX12_weather_141 : decode cX12_weather 141 = .ok (.getfield 47, 3) := by decide +kernel
theorem dX12_weather_144 : decode cX12_weather 144 = .ok (.iload 10, 2) := by decide +kernel
theorem dX12_weather_146 : decode cX12_weather 146 = .ok (.iload 11, 2) := by decide +kernel
theorem dX12_weather_148 : decode cX12_weather 148 = .ok (.bipush 9, 2) := by decide +kernel
theorem dX12_weather_150 : decode cX12_weather 150 = .ok (.if_icmp .ge 10, 3) := by decide +kernel
theorem dX12_weather_153 : decode cX12_weather 153 = .ok (.iload 11, 2) := by decide +kernel
theorem dX12_weather_155 : decode cX12_weather 155 = .ok (.iconst 1, 1) := by decide +kernel
theorem dX12_weather_156 : decode cX12_weather 156 = .ok (.iadd, 1) := by decide +kernel
theorem dX12_weather_157 : decode cX12_weather 157 = .ok (.goto 5, 3) := by decide +kernel
theorem dX12_weather_160 : decode cX12_weather 160 = .ok (.bipush 9, 2) := by decide +kernel
theorem dX12_weather_162 : decode cX12_weather 162 = .ok (.iadd, 1) := by decide +kernel
theorem dX12_weather_163 : decode cX12_weather 163 = .ok (.dup2, 1) := by decide +kernel
theorem dX12_weather_164 : decode cX12_weather 164 = .ok (.laload, 1) := by decide +kernel
theorem dX12_weather_165 : decode cX12_weather 165 = .ok (.iload 4, 2) := by decide +kernel
theorem dX12_weather_167 : decode cX12_weather 167 = .ok (.i2l, 1) := by decide +kernel
theorem dX12_weather_168 : decode cX12_weather 168 = .ok (.aload_n 0, 1) := by decide +kernel
theorem dX12_weather_169 : decode cX12_weather 169 = .ok (.getfield 47, 3) := by decide +kernel
theorem dX12_weather_172 : decode cX12_weather 172 = .ok (.iload 8, 2) := by decide +kernel
theorem dX12_weather_174 : decode cX12_weather 174 = .ok (.iload 11, 2) := by decide +kernel
theorem dX12_weather_176 : decode cX12_weather 176 = .ok (.iadd, 1) := by decide +kernel
theorem dX12_weather_177 : decode cX12_weather 177 = .ok (.laload, 1) := by decide +kernel
theorem dX12_weather_178 : decode cX12_weather 178 = .ok (.lmul, 1) := by decide +kernel
theorem dX12_weather_179 : decode cX12_weather 179 = .ok (.ladd, 1) := by decide +kernel
theorem dX12_weather_180 : decode cX12_weather 180 = .ok (.lastore, 1) := by decide +kernel
theorem dX12_weather_181 : decode cX12_weather 181 = .ok (.aload_n 0, 1) := by decide +kernel
theorem dX12_weather_182 : decode cX12_weather 182 = .ok (.getfield 47, 3) := by decide +kernel
theorem dX12_weather_185 : decode cX12_weather 185 = .ok (.iload 10, 2) := by decide +kernel
theorem dX12_weather_187 : decode cX12_weather 187 = .ok (.iload 11, 2) := by decide +kernel
theorem dX12_weather_189 : decode cX12_weather 189 = .ok (.ifCond .le 10, 3) := by decide +kernel
theorem dX12_weather_192 : decode cX12_weather 192 = .ok (.iload 11, 2) := by decide +kernel
theorem dX12_weather_194 : decode cX12_weather 194 = .ok (.iconst 1, 1) := by decide +kernel
theorem dX12_weather_195 : decode cX12_weather 195 = .ok (.isub, 1) := by decide +kernel
theorem dX12_weather_196 : decode cX12_weather 196 = .ok (.goto 4, 3) := by decide +kernel
theorem dX12_weather_199 : decode cX12_weather 199 = .ok (.iconst 0, 1) := by decide +kernel
theorem dX12_weather_200 : decode cX12_weather 200 = .ok (.iadd, 1) := by decide +kernel
theorem dX12_weather_201 : decode cX12_weather 201 = .ok (.dup2, 1) := by decide +kernel
theorem dX12_weather_202 : decode cX12_weather 202 = .ok (.laload, 1) := by decide +kernel
theorem dX12_weather_203 : decode cX12_weather 203 = .ok (.bipush 10, 2) := by decide +kernel
theorem dX12_weather_205 : decode cX12_weather 205 = .ok (.iload 4, 2) := by decide +kernel
theorem dX12_weather_207 : decode cX12_weather 207 = .ok (.isub, 1) := by decide +kernel
theorem dX12_weather_208 : decode cX12_weather 208 = .ok (.i2l, 1) := by decide +kernel
theorem dX12_weather_209 : decode cX12_weather 209 = .ok (.aload_n 0, 1) := by decide +kernel
theorem dX12_weather_210 : decode cX12_weather 210 = .ok (.getfield 47, 3) := by decide +kernel
theorem dX12_weather_213 : decode cX12_weather 213 = .ok (.iload 8, 2) := by decide +kernel
theorem dX12_weather_215 : decode cX12_weather 215 = .ok (.iload 11, 2) := by decide +kernel
theorem dX12_weather_217 : decode cX12_weather 217 = .ok (.iadd, 1) := by decide +kernel
theorem dX12_weather_218 : decode cX12_weather 218 = .ok (.laload, 1) := by decide +kernel
theorem dX12_weather_219 : decode cX12_weather 219 = .ok (.lmul, 1) := by decide +kernel
theorem dX12_weather_220 : decode cX12_weather 220 = .ok (.ladd, 1) := by decide +kernel
theorem dX12_weather_221 : decode cX12_weather 221 = .ok (.lastore, 1) := by decide +kernel
theorem dX12_weather_222 : decode cX12_weather 222 = .ok (.iinc 11 1, 3) := by decide +kernel
theorem dX12_weather_225 : decode cX12_weather 225 = .ok (.goto (-92), 3) := by decide +kernel
theorem dX12_weather_228 : decode cX12_weather 228 = .ok (.iload 10, 2) := by decide +kernel
theorem dX12_weather_230 : decode cX12_weather 230 = .ok (.istore 8, 2) := by decide +kernel
theorem dX12_weather_232 : decode cX12_weather 232 = .ok (.lload 6, 2) := by decide +kernel
theorem dX12_weather_234 : decode cX12_weather 234 = .ok (.ldc2_w 346, 3) := by decide +kernel
theorem dX12_weather_237 : decode cX12_weather 237 = .ok (.lmul, 1) := by decide +kernel
theorem dX12_weather_238 : decode cX12_weather 238 = .ok (.lstore 6, 2) := by decide +kernel
theorem dX12_weather_240 : decode cX12_weather 240 = .ok (.iinc 9 1, 3) := by decide +kernel
theorem dX12_weather_243 : decode cX12_weather 243 = .ok (.goto (-153), 3) := by decide +kernel
theorem dX12_weather_246 : decode cX12_weather 246 = .ok (.lconst 0, 1) := by decide +kernel
theorem dX12_weather_247 : decode cX12_weather 247 = .ok (.lstore 9, 2) := by decide +kernel
theorem dX12_weather_249 : decode cX12_weather 249 = .ok (.iconst 0, 1) := by decide +kernel
theorem dX12_weather_250 : decode cX12_weather 250 = .ok (.istore 11, 2) := by decide +kernel
theorem dX12_weather_252 : decode cX12_weather 252 = .ok (.iload 11, 2) := by decide +kernel
theorem dX12_weather_254 : decode cX12_weather 254 = .ok (.bipush 10, 2) := by decide +kernel
theorem dX12_weather_256 : decode cX12_weather 256 = .ok (.if_icmp .ge 42, 3) := by decide +kernel
theorem dX12_weather_259 : decode cX12_weather 259 = .ok (.aload_n 0, 1) := by decide +kernel
theorem dX12_weather_260 : decode cX12_weather 260 = .ok (.iload 11, 2) := by decide +kernel
theorem dX12_weather_262 : decode cX12_weather 262 = .ok (.putfield 180, 3) := by decide +kernel
theorem dX12_weather_265 : decode cX12_weather 265 = .ok (.lload 9, 2) := by decide +kernel
theorem dX12_weather_267 : decode cX12_weather 267 = .ok (.aload_n 0, 1) := by decide +kernel
theorem dX12_weather_268 : decode cX12_weather 268 = .ok (.iload_n 2, 1) := by decide +kernel
theorem dX12_weather_269 : decode cX12_weather 269 = .ok (.invokevirtual 216, 3) := by decide +kernel
theorem dX12_weather_272 : decode cX12_weather 272 = .ok (.ifCond .eq 16, 3) := by decide +kernel
theorem dX12_weather_275 : decode cX12_weather 275 = .ok (.aload_n 0, 1) := by decide +kernel
theorem dX12_weather_276 : decode cX12_weather 276 = .ok (.getfield 47, 3) := by decide +kernel
theorem dX12_weather_279 : decode cX12_weather 279 = .ok (.iload 8, 2) := by decide +kernel
theorem dX12_weather_281 : decode cX12_weather 281 = .ok (.iload 11, 2) := by decide +kernel
theorem dX12_weather_283 : decode cX12_weather 283 = .ok (.iadd, 1) := by decide +kernel
theorem dX12_weather_284 : decode cX12_weather 284 = .ok (.laload, 1) := by decide +kernel
theorem dX12_weather_285 : decode cX12_weather 285 = .ok (.goto 4, 3) := by decide +kernel
theorem dX12_weather_288 : decode cX12_weather 288 = .ok (.lconst 0, 1) := by decide +kernel
theorem dX12_weather_289 : decode cX12_weather 289 = .ok (.ladd, 1) := by decide +kernel
theorem dX12_weather_290 : decode cX12_weather 290 = .ok (.lstore 9, 2) := by decide +kernel
theorem dX12_weather_292 : decode cX12_weather 292 = .ok (.iinc 11 1, 3) := by decide +kernel
theorem dX12_weather_295 : decode cX12_weather 295 = .ok (.goto (-43), 3) := by decide +kernel
theorem dX12_weather_298 : decode cX12_weather 298 = .ok (.iload 5, 2) := by decide +kernel
theorem dX12_weather_300 : decode cX12_weather 300 = .ok (.ifCond .eq 8, 3) := by decide +kernel
theorem dX12_weather_303 : decode cX12_weather 303 = .ok (.lload 6, 2) := by decide +kernel
theorem dX12_weather_305 : decode cX12_weather 305 = .ok (.goto 5, 3) := by decide +kernel
theorem dX12_weather_308 : decode cX12_weather 308 = .ok (.lload 9, 2) := by decide +kernel
theorem dX12_weather_310 : decode cX12_weather 310 = .ok (.lload 9, 2) := by decide +kernel
theorem dX12_weather_312 : decode cX12_weather 312 = .ok (.lload 6, 2) := by decide +kernel
theorem dX12_weather_314 : decode cX12_weather 314 = .ok (.invokestatic 316, 3) := by decide +kernel
theorem dX12_weather_317 : decode cX12_weather 317 = .ok (.ldiv, 1) := by decide +kernel
theorem dX12_weather_318 : decode cX12_weather 318 = .ok (.lreturn, 1) := by decide +kernel
theorem dX12_isLog_0 : decode cX12_isLog 0 = .ok (.aload_n 0, 1) := by decide +kernel
theorem dX12_isLog_1 : decode cX12_isLog 1 = .ok (.iconst 2, 1) := by decide +kernel
theorem dX12_isLog_2 : decode cX12_isLog 2 = .ok (.iload_n 1, 1) := by decide +kernel
theorem dX12_isLog_3 : decode cX12_isLog 3 = .ok (.invokevirtual 137, 3) := by decide +kernel
theorem dX12_isLog_6 : decode cX12_isLog 6 = .ok (.ifCond .ne 5, 3) := by decide +kernel
theorem dX12_isLog_9 : decode cX12_isLog 9 = .ok (.iconst 0, 1) := by decide +kernel
theorem dX12_isLog_10 : decode cX12_isLog 10 = .ok (.ireturn, 1) := by decide +kernel
theorem dX12_isLog_11 : decode cX12_isLog 11 = .ok (.aload_n 0, 1) := by decide +kernel
theorem dX12_isLog_12 : decode cX12_isLog 12 = .ok (.iconst 2, 1) := by decide +kernel
theorem dX12_isLog_13 : decode cX12_isLog 13 = .ok (.iload_n 1, 1) := by decide +kernel
theorem dX12_isLog_14 : decode cX12_isLog 14 = .ok (.invokestatic 153, 3) := by decide +kernel
theorem dX12_isLog_17 : decode cX12_isLog 17 = .ok (.putfield 348, 3) := by decide +kernel
theorem dX12_isLog_20 : decode cX12_isLog 20 = .ok (.iconst 1, 1) := by decide +kernel
theorem dX12_isLog_21 : decode cX12_isLog 21 = .ok (.ireturn, 1) := by decide +kernel
theorem dX12_fact_0 : decode cX12_fact 0 = .ok (.aload_n 0, 1) := by decide +kernel
theorem dX12_fact_1 : decode cX12_fact 1 = .ok (.iload_n 1, 1) := by decide +kernel
theorem dX12_fact_2 : decode cX12_fact 2 = .ok (.invokevirtual 351, 3) := by decide +kernel
theorem dX12_fact_5 : decode cX12_fact 5 = .ok (.ifCond .ne 6, 3) := by decide +kernel
theorem dX12_fact_8 : decode cX12_fact 8 = .ok (.bipush (-2), 2) := by decide +kernel
theorem dX12_fact_10 : decode cX12_fact 10 = .ok (.ireturn, 1) := by decide +kernel
theorem dX12_fact_11 : decode cX12_fact 11 = .ok (.iload_n 2, 1) := by decide +kernel
theorem dX12_fact_12 : decode cX12_fact 12 = .ok (.iconst (-1), 1) := by decide +kernel
theorem dX12_fact_13 : decode cX12_fact 13 = .ok (.if_icmp .ne 22, 3) := by decide +kernel
theorem dX12_fact_16 : decode cX12_fact 16 = .ok (.iload_n 3, 1) := by decide +kernel
theorem dX12_fact_17 : decode cX12_fact 17 = .ok (.ifCond .ne 15, 3) := by decide +kernel
theorem dX12_fact_20 : decode cX12_fact 20 = .ok (.aload_n 0, 1) := by decide +kernel
theorem dX12_fact_21 : decode cX12_fact 21 = .ok (.getfield 7, 3) := by decide +kernel
theorem dX12_fact_24 : decode cX12_fact 24 = .ok (.aload_n 0, 1) := by decide +kernel
theorem dX12_fact_25 : decode cX12_fact 25 = .ok (.getfield 348, 3) := by decide +kernel
theorem dX12_fact_28 : decode cX12_fact 28 = .ok (.iaload, 1) := by decide +kernel
theorem dX12_fact_29 : decode cX12_fact 29 = .ok (.goto 5, 3) := by decide +kernel
theorem dX12_fact_32 : decode cX12_fact 32 = .ok (.bipush (-2), 2) := by decide +kernel
theorem dX12_fact_34 : decode cX12_fact 34 = .ok (.ireturn, 1) := by decide +kernel
theorem dX12_fact_35 : decode cX12_fact 35 = .ok (.iload_n 2, 1) := by decide +kernel
theorem dX12_fact_36 : decode cX12_fact 36 = .ok (.iconst 0, 1) := by decide +kernel
theorem dX12_fact_37 : decode cX12_fact 37 = .ok (.aload_n 0, 1) := by decide +kernel
theorem dX12_fact_38 : decode cX12_fact 38 = .ok (.getfield 7, 3) := by decide +kernel
theorem dX12_fact_41 : decode cX12_fact 41 = .ok (.aload_n 0, 1) := by decide +kernel
theorem dX12_fact_42 : decode cX12_fact 42 = .ok (.getfield 348, 3) := by decide +kernel
theorem dX12_fact_45 : decode cX12_fact 45 = .ok (.iaload, 1) := by decide +kernel
theorem dX12_fact_46 : decode cX12_fact 46 = .ok (.iconst 1, 1) := by decide +kernel
theorem dX12_fact_47 : decode cX12_fact 47 = .ok (.isub, 1) := by decide +kernel
theorem dX12_fact_48 : decode cX12_fact 48 = .ok (.invokestatic 106, 3) := by decide +kernel
theorem dX12_fact_51 : decode cX12_fact 51 = .ok (.ifCond .eq 32, 3) := by decide +kernel
theorem dX12_fact_54 : decode cX12_fact 54 = .ok (.iload_n 3, 1) := by decide +kernel
theorem dX12_fact_55 : decode cX12_fact 55 = .ok (.iconst 0, 1) := by decide +kernel
theorem dX12_fact_56 : decode cX12_fact 56 = .ok (.iconst 3, 1) := by decide +kernel
theorem dX12_fact_57 : decode cX12_fact 57 = .ok (.invokestatic 106, 3) := by decide +kernel
theorem dX12_fact_60 : decode cX12_fact 60 = .ok (.ifCond .eq 23, 3) := by decide +kernel
theorem dX12_fact_63 : decode cX12_fact 63 = .ok (.aload_n 0, 1) := by decide +kernel
theorem dX12_fact_64 : decode cX12_fact 64 = .ok (.getfield 7, 3) := by decide +kernel
theorem dX12_fact_67 : decode cX12_fact 67 = .ok (.aload_n 0, 1) := by decide +kernel
theorem dX12_fact_68 : decode cX12_fact 68 = .ok (.getfield 348, 3) := by decide +kernel
theorem dX12_fact_71 : decode cX12_fact 71 = .ok (.iconst 1, 1) := by decide +kernel
theorem dX12_fact_72 : decode cX12_fact 72 = .ok (.iadd, 1) := by decide +kernel
theorem dX12_fact_73 : decode cX12_fact 73 = .ok (.iconst 4, 1) := by decide +kernel
theorem dX12_fact_74 : decode cX12_fact 74 = .ok (.iload_n 2, 1) := by decide +kernel
theorem dX12_fact_75 : decode cX12_fact 75 = .ok (.imul, 1) := by decide +kernel
theorem dX12_fact_76 : decode cX12_fact 76 = .ok (.iadd, 1) := by decide +kernel
theorem dX12_fact_77 : decode cX12_fact 77 = .ok (.iload_n 3, 1) := by decide +kernel
theorem dX12_fact_78 : decode cX12_fact 78 = .ok (.iadd, 1) := by decide +kernel
theorem dX12_fact_79 : decode cX12_fact 79 = .ok (.iaload, 1) := by decide +kernel
theorem dX12_fact_80 : decode cX12_fact 80 = .ok (.goto 5, 3) := by decide +kernel
theorem dX12_fact_83 : decode cX12_fact 83 = .ok (.bipush (-2), 2) := by decide +kernel
theorem dX12_fact_85 : decode cX12_fact 85 = .ok (.ireturn, 1) := by decide +kernel
theorem dX12_sounds_0 : decode cX12_sounds 0 = .ok (.iload_n 1, 1) := by decide +kernel
theorem dX12_sounds_1 : decode cX12_sounds 1 = .ok (.iload_n 2, 1) := by decide +kernel
theorem dX12_sounds_2 : decode cX12_sounds 2 = .ok (.iload_n 0, 1) := by decide +kernel
theorem dX12_sounds_3 : decode cX12_sounds 3 = .ok (.bipush 99, 2) := by decide +kernel
theorem dX12_sounds_5 : decode cX12_sounds 5 = .ok (.idiv, 1) := by decide +kernel
theorem dX12_sounds_6 : decode cX12_sounds 6 = .ok (.imul, 1) := by decide +kernel
theorem dX12_sounds_7 : decode cX12_sounds 7 = .ok (.iadd, 1) := by decide +kernel
theorem dX12_sounds_8 : decode cX12_sounds 8 = .ok (.iconst 3, 1) := by decide +kernel
theorem dX12_sounds_9 : decode cX12_sounds 9 = .ok (.iload_n 3, 1) := by decide +kernel
theorem dX12_sounds_10 : decode cX12_sounds 10 = .ok (.imul, 1) := by decide +kernel
theorem dX12_sounds_11 : decode cX12_sounds 11 = .ok (.iadd, 1) := by decide +kernel
theorem dX12_sounds_12 : decode cX12_sounds 12 = .ok (.iload_n 0, 1) := by decide +kernel
theorem dX12_sounds_13 : decode cX12_sounds 13 = .ok (.bipush 99, 2) := by decide +kernel
theorem dX12_sounds_15 : decode cX12_sounds 15 = .ok (.irem, 1) := by decide +kernel
theorem dX12_sounds_16 : decode cX12_sounds 16 = .ok (.iconst 1, 1) := by decide +kernel
theorem dX12_sounds_17 : decode cX12_sounds 17 = .ok (.iadd, 1) := by decide +kernel
theorem dX12_sounds_18 : decode cX12_sounds 18 = .ok (.if_icmp .lt 7, 3) := by decide +kernel
theorem dX12_sounds_21 : decode cX12_sounds 21 = .ok (.iconst 1, 1) := by decide +kernel
theorem dX12_sounds_22 : decode cX12_sounds 22 = .ok (.goto 4, 3) := by decide +kernel
theorem dX12_sounds_25 : decode cX12_sounds 25 = .ok (.iconst 0, 1) := by decide +kernel
theorem dX12_sounds_26 : decode cX12_sounds 26 = .ok (.ireturn, 1) := by decide +kernel
theorem dX12_isSo_0 : decode cX12_isSo 0 = .ok (.iconst 1, 1) := by decide +kernel
theorem dX12_isSo_1 : decode cX12_isSo 1 = .ok (.istore_n 2, 1) := by decide +kernel
theorem dX12_isSo_2 : decode cX12_isSo 2 = .ok (.iconst 0, 1) := by decide +kernel
theorem dX12_isSo_3 : decode cX12_isSo 3 = .ok (.istore_n 3, 1) := by decide +kernel
theorem dX12_isSo_4 : decode cX12_isSo 4 = .ok (.iload_n 3, 1) := by decide +kernel
theorem dX12_isSo_5 : decode cX12_isSo 5 = .ok (.aload_n 0, 1) := by decide +kernel
theorem dX12_isSo_6 : decode cX12_isSo 6 = .ok (.getfield 7, 3) := by decide +kernel
theorem dX12_isSo_9 : decode cX12_isSo 9 = .ok (.aload_n 0, 1) := by decide +kernel
theorem dX12_isSo_10 : decode cX12_isSo 10 = .ok (.getfield 348, 3) := by decide +kernel
theorem dX12_isSo_13 : decode cX12_isSo 13 = .ok (.iaload, 1) := by decide +kernel
theorem dX12_isSo_14 : decode cX12_isSo 14 = .ok (.if_icmp .ge 81, 3) := by decide +kernel
theorem dX12_isSo_17 : decode cX12_isSo 17 = .ok (.iload_n 2, 1) := by decide +kernel
theorem dX12_isSo_18 : decode cX12_isSo 18 = .ok (.ifCond .eq 77, 3) := by decide +kernel
theorem dX12_isSo_21 : decode cX12_isSo 21 = .ok (.aload_n 0, 1) := by decide +kernel
theorem dX12_isSo_22 : decode cX12_isSo 22 = .ok (.getfield 348, 3) := by decide +kernel
theorem dX12_isSo_25 : decode cX12_isSo 25 = .ok (.iconst 1, 1) := by decide +kernel
theorem dX12_isSo_26 : decode cX12_isSo 26 = .ok (.iadd, 1) := by decide +kernel
theorem dX12_isSo_27 : decode cX12_isSo 27 = .ok (.iconst 4, 1) := by decide +kernel
theorem dX12_isSo_28 : decode cX12_isSo 28 = .ok (.iload_n 3, 1) := by decide +kernel
theorem dX12_isSo_29 : decode cX12_isSo 29 = .ok (.imul, 1) := by decide +kernel
theorem dX12_isSo_30 : decode cX12_isSo 30 = .ok (.iadd, 1) := by decide +kernel
theorem dX12_isSo_31 : decode cX12_isSo 31 = .ok (.istore 4, 2) := by decide +kernel
theorem dX12_isSo_33 : decode cX12_isSo 33 = .ok (.iload_n 1, 1) := by decide +kernel
theorem dX12_isSo_34 : decode cX12_isSo 34 = .ok (.aload_n 0, 1) := by decide +kernel
theorem dX12_isSo_35 : decode cX12_isSo 35 = .ok (.getfield 7, 3) := by decide +kernel
theorem dX12_isSo_38 : decode cX12_isSo 38 = .ok (.iload 4, 2) := by decide +kernel
theorem dX12_isSo_40 : decode cX12_isSo 40 = .ok (.iconst 1, 1) := by decide +kernel
theorem dX12_isSo_41 : decode cX12_isSo 41 = .ok (.iadd, 1) := by decide +kernel
theorem dX12_isSo_42 : decode cX12_isSo 42 = .ok (.iaload, 1) := by decide +kernel
theorem dX12_isSo_43 : decode cX12_isSo 43 = .ok (.aload_n 0, 1) := by decide +kernel
theorem dX12_isSo_44 : decode cX12_isSo 44 = .ok (.getfield 7, 3) := by decide +kernel
theorem dX12_isSo_47 : decode cX12_isSo 47 = .ok (.iload 4, 2) := by decide +kernel
theorem dX12_isSo_49 : decode cX12_isSo 49 = .ok (.iconst 2, 1) := by decide +kernel
theorem dX12_isSo_50 : decode cX12_isSo 50 = .ok (.iadd, 1) := by decide +kernel
theorem dX12_isSo_51 : decode cX12_isSo 51 = .ok (.iaload, 1) := by decide +kernel
theorem dX12_isSo_52 : decode cX12_isSo 52 = .ok (.aload_n 0, 1) := by decide +kernel
theorem dX12_isSo_53 : decode cX12_isSo 53 = .ok (.getfield 7, 3) := by decide +kernel
theorem dX12_isSo_56 : decode cX12_isSo 56 = .ok (.iload 4, 2) := by decide +kernel
theorem dX12_isSo_58 : decode cX12_isSo 58 = .ok (.iconst 3, 1) := by decide +kernel
theorem dX12_isSo_59 : decode cX12_isSo 59 = .ok (.iadd, 1) := by decide +kernel
theorem dX12_isSo_60 : decode cX12_isSo 60 = .ok (.iaload, 1) := by decide +kernel
theorem dX12_isSo_61 : decode cX12_isSo 61 = .ok (.invokestatic 354, 3) := by decide +kernel
theorem dX12_isSo_64 : decode cX12_isSo 64 = .ok (.aload_n 0, 1) := by decide +kernel
theorem dX12_isSo_65 : decode cX12_isSo 65 = .ok (.getfield 7, 3) := by decide +kernel
theorem dX12_isSo_68 : decode cX12_isSo 68 = .ok (.iload 4, 2) := by decide +kernel
theorem dX12_isSo_70 : decode cX12_isSo 70 = .ok (.iaload, 1) := by decide +kernel
theorem dX12_isSo_71 : decode cX12_isSo 71 = .ok (.iconst 1, 1) := by decide +kernel
theorem dX12_isSo_72 : decode cX12_isSo 72 = .ok (.if_icmp .ne 7, 3) := by decide +kernel
theorem dX12_isSo_75 : decode cX12_isSo 75 = .ok (.iconst 1, 1) := by decide +kernel
theorem dX12_isSo_76 : decode cX12_isSo 76 = .ok (.goto 4, 3) := by decide +kernel
theorem dX12_isSo_79 : decode cX12_isSo 79 = .ok (.iconst 0, 1) := by decide +kernel
theorem dX12_isSo_80 : decode cX12_isSo 80 = .ok (.if_icmp .ne 7, 3) := by decide +kernel
theorem dX12_isSo_83 : decode cX12_isSo 83 = .ok (.iconst 1, 1) := by decide +kernel
theorem dX12_isSo_84 : decode cX12_isSo 84 = .ok (.goto 4, 3) := by decide +kernel
theorem dX12_isSo_87 : decode cX12_isSo 87 = .ok (.iconst 0, 1) := by decide +kernel
theorem dX12_isSo_88 : decode cX12_isSo 88 = .ok (.istore_n 2, 1) := by decide +kernel
theorem dX12_isSo_89 : decode cX12_isSo 89 = .ok (.iinc 3 1, 3) := by decide +kernel
theorem dX12_isSo_92 : decode cX12_isSo 92 = .ok (.goto (-88), 3) := by decide +kernel
theorem dX12_isSo_95 : decode cX12_isSo 95 = .ok (.iload_n 2, 1) := by decide +kernel
theorem dX12_isSo_96 : decode cX12_isSo 96 = .ok (.ireturn, 1) := by decide +kernel
theorem dX12_fitting_0 : decode cX12_fitting 0 = .ok (.iconst 0, 1) := by decide +kernel
theorem dX12_fitting_1 : decode cX12_fitting 1 = .ok (.istore_n 1, 1) := by decide +kernel
theorem dX12_fitting_2 : decode cX12_fitting 2 = .ok (.iconst 0, 1) := by decide +kernel
theorem dX12_fitting_3 : decode cX12_fitting 3 = .ok (.istore_n 2, 1) := by decide +kernel
theorem dX12_fitting_4 : decode cX12_fitting 4 = .ok (.iload_n 2, 1) := by decide +kernel
theorem dX12_fitting_5 : decode cX12_fitting 5 = .ok (.sipush 297, 3) := by decide +kernel
theorem dX12_fitting_8 : decode cX12_fitting 8 = .ok (.if_icmp .ge 25, 3) := by decide +kernel
theorem dX12_fitting_11 : decode cX12_fitting 11 = .ok (.iload_n 1, 1) := by decide +kernel
theorem dX12_fitting_12 : decode cX12_fitting 12 = .ok (.aload_n 0, 1) := by decide +kernel
theorem dX12_fitting_13 : decode cX12_fitting 13 = .ok (.iload_n 2, 1) := by decide +kernel
theorem dX12_fitting_14 : decode cX12_fitting 14 = .ok (.invokevirtual 358, 3) := by decide +kernel
theorem dX12_fitting_17 : decode cX12_fitting 17 = .ok (.ifCond .eq 7, 3) := by decide +kernel
theorem dX12_fitting_20 : decode cX12_fitting 20 = .ok (.iconst 1, 1) := by decide +kernel
theorem dX12_fitting_21 : decode cX12_fitting 21 = .ok (.goto 4, 3) := by decide +kernel
theorem dX12_fitting_24 : decode cX12_fitting 24 = .ok (.iconst 0, 1) := by decide +kernel
theorem dX12_fitting_25 : decode cX12_fitting 25 = .ok (.iadd, 1) := by decide +kernel
theorem dX12_fitting_26 : decode cX12_fitting 26 = .ok (.istore_n 1, 1) := by decide +kernel
theorem dX12_fitting_27 : decode cX12_fitting 27 = .ok (.iinc 2 1, 3) := by decide +kernel
theorem dX12_fitting_30 : decode cX12_fitting 30 = .ok (.goto (-26), 3) := by decide +kernel
theorem dX12_fitting_33 : decode cX12_fitting 33 = .ok (.iload_n 1, 1) := by decide +kernel
theorem dX12_fitting_34 : decode cX12_fitting 34 = .ok (.ireturn, 1) := by decide +kernel
theorem dX12_sureOf_0 : decode cX12_sureOf 0 = .ok (.iconst (-1), 1) := by decide +kernel
theorem dX12_sureOf_1 : decode cX12_sureOf 1 = .ok (.istore_n 2, 1) := by decide +kernel
theorem dX12_sureOf_2 : decode cX12_sureOf 2 = .ok (.iconst 0, 1) := by decide +kernel
theorem dX12_sureOf_3 : decode cX12_sureOf 3 = .ok (.istore_n 3, 1) := by decide +kernel
theorem dX12_sureOf_4 : decode cX12_sureOf 4 = .ok (.iload_n 3, 1) := by decide +kernel
theorem dX12_sureOf_5 : decode cX12_sureOf 5 = .ok (.sipush 297, 3) := by decide +kernel
theorem dX12_sureOf_8 : decode cX12_sureOf 8 = .ok (.if_icmp .ge 55, 3) := by decide +kernel
theorem dX12_sureOf_11 : decode cX12_sureOf 11 = .ok (.aload_n 0, 1) := by decide +kernel
theorem dX12_sureOf_12 : decode cX12_sureOf 12 = .ok (.iload_n 3, 1) := by decide +kernel
theorem dX12_sureOf_13 : decode cX12_sureOf 13 = .ok (.invokevirtual 358, 3) := by decide +kernel
theorem dX12_sureOf_16 : decode cX12_sureOf 16 = .ok (.ifCond .ne 6, 3) := by decide +kernel
theorem dX12_sureOf_19 : decode cX12_sureOf 19 = .ok (.goto 38, 3) := by decide +kernel
theorem dX12_sureOf_22 : decode cX12_sureOf 22 = .ok (.iload_n 1, 1) := by decide +kernel
theorem dX12_sureOf_23 : decode cX12_sureOf 23 = .ok (.ifCond .eq 10, 3) := by decide +kernel
theorem dX12_sureOf_26 : decode cX12_sureOf 26 = .ok (.iload_n 3, 1) := by decide +kernel
theorem dX12_sureOf_27 : decode cX12_sureOf 27 = .ok (.bipush 99, 2) := by decide +kernel
theorem dX12_sureOf_29 : decode cX12_sureOf 29 = .ok (.idiv, 1) := by decide +kernel
theorem dX12_sureOf_30 : decode cX12_sureOf 30 = .ok (.goto 9, 3) := by decide +kernel
theorem dX12_sureOf_33 : decode cX12_sureOf 33 = .ok (.iload_n 3, 1) := by decide +kernel
theorem dX12_sureOf_34 : decode cX12_sureOf 34 = .ok (.bipush 99, 2) := by decide +kernel
theorem dX12_sureOf_36 : decode cX12_sureOf 36 = .ok (.irem, 1) := by decide +kernel
theorem dX12_sureOf_37 : decode cX12_sureOf 37 = .ok (.iconst 1, 1) := by decide +kernel
theorem dX12_sureOf_38 : decode cX12_sureOf 38 = .ok (.iadd, 1) := by decide +kernel
theorem dX12_sureOf_39 : decode cX12_sureOf 39 = .ok (.istore 4, 2) := by decide +kernel
theorem dX12_sureOf_41 : decode cX12_sureOf 41 = .ok (.iload_n 2, 1) := by decide +kernel
theorem dX12_sureOf_42 : decode cX12_sureOf 42 = .ok (.iconst (-1), 1) := by decide +kernel
theorem dX12_sureOf_43 : decode cX12_sureOf 43 = .ok (.if_icmp .eq 11, 3) := by decide +kernel
theorem dX12_sureOf_46 : decode cX12_sureOf 46 = .ok (.iload_n 2, 1) := by decide +kernel
theorem dX12_sureOf_47 : decode cX12_sureOf 47 = .ok (.iload 4, 2) := by decide +kernel
theorem dX12_sureOf_49 : decode cX12_sureOf 49 = .ok (.if_icmp .eq 5, 3) := by decide +kernel
theorem dX12_sureOf_52 : decode cX12_sureOf 52 = .ok (.iconst (-1), 1) := by decide +kernel
theorem dX12_sureOf_53 : decode cX12_sureOf 53 = .ok (.ireturn, 1) := by decide +kernel
theorem dX12_sureOf_54 : decode cX12_sureOf 54 = .ok (.iload 4, 2) := by decide +kernel
theorem dX12_sureOf_56 : decode cX12_sureOf 56 = .ok (.istore_n 2, 1) := by decide +kernel
theorem dX12_sureOf_57 : decode cX12_sureOf 57 = .ok (.iinc 3 1, 3) := by decide +kernel
theorem dX12_sureOf_60 : decode cX12_sureOf 60 = .ok (.goto (-56), 3) := by decide +kernel
theorem dX12_sureOf_63 : decode cX12_sureOf 63 = .ok (.iload_n 2, 1) := by decide +kernel
theorem dX12_sureOf_64 : decode cX12_sureOf 64 = .ok (.ireturn, 1) := by decide +kernel
theorem dX12_fits_0 : decode cX12_fits 0 = .ok (.aload_n 0, 1) := by decide +kernel
theorem dX12_fits_1 : decode cX12_fits 1 = .ok (.iload_n 1, 1) := by decide +kernel
theorem dX12_fits_2 : decode cX12_fits 2 = .ok (.invokevirtual 351, 3) := by decide +kernel
theorem dX12_fits_5 : decode cX12_fits 5 = .ok (.ifCond .eq 17, 3) := by decide +kernel
theorem dX12_fits_8 : decode cX12_fits 8 = .ok (.iload_n 2, 1) := by decide +kernel
theorem dX12_fits_9 : decode cX12_fits 9 = .ok (.ifCond .lt 13, 3) := by decide +kernel
theorem dX12_fits_12 : decode cX12_fits 12 = .ok (.iload_n 2, 1) := by decide +kernel
theorem dX12_fits_13 : decode cX12_fits 13 = .ok (.iconst 3, 1) := by decide +kernel
theorem dX12_fits_14 : decode cX12_fits 14 = .ok (.bipush 9, 2) := by decide +kernel
theorem dX12_fits_16 : decode cX12_fits 16 = .ok (.invokestatic 106, 3) := by decide +kernel
theorem dX12_fits_19 : decode cX12_fits 19 = .ok (.ifCond .eq 6, 3) := by decide +kernel
theorem dX12_fits_22 : decode cX12_fits 22 = .ok (.bipush (-2), 2) := by decide +kernel
theorem dX12_fits_24 : decode cX12_fits 24 = .ok (.ireturn, 1) := by decide +kernel
theorem dX12_fits_25 : decode cX12_fits 25 = .ok (.iload_n 2, 1) := by decide +kernel
theorem dX12_fits_26 : decode cX12_fits 26 = .ok (.ifCond .ne 8, 3) := by decide +kernel
theorem dX12_fits_29 : decode cX12_fits 29 = .ok (.aload_n 0, 1) := by decide +kernel
theorem dX12_fits_30 : decode cX12_fits 30 = .ok (.invokevirtual 361, 3) := by decide +kernel
theorem dX12_fits_33 : decode cX12_fits 33 = .ok (.ireturn, 1) := by decide +kernel
theorem dX12_fits_34 : decode cX12_fits 34 = .ok (.iload_n 2, 1) := by decide +kernel
theorem dX12_fits_35 : decode cX12_fits 35 = .ok (.iconst 3, 1) := by decide +kernel
theorem dX12_fits_36 : decode cX12_fits 36 = .ok (.if_icmp .ge 18, 3) := by decide +kernel
theorem dX12_fits_39 : decode cX12_fits 39 = .ok (.aload_n 0, 1) := by decide +kernel
theorem dX12_fits_40 : decode cX12_fits 40 = .ok (.iload_n 2, 1) := by decide +kernel
theorem dX12_fits_41 : decode cX12_fits 41 = .ok (.iconst 1, 1) := by decide +kernel
theorem dX12_fits_42 : decode cX12_fits 42 = .ok (.if_icmp .ne 7, 3) := by decide +kernel
theorem dX12_fits_45 : decode cX12_fits 45 = .ok (.iconst 1, 1) := by decide +kernel
theorem dX12_fits_46 : decode cX12_fits 46 = .ok (.goto 4, 3) := by decide +kernel
theorem dX12_fits_49 : decode cX12_fits 49 = .ok (.iconst 0, 1) := by decide +kernel
theorem dX12_fits_50 : decode cX12_fits 50 = .ok (.invokevirtual 364, 3) := by decide +kernel
theorem dX12_fits_53 : decode cX12_fits 53 = .ok (.ireturn, 1) := by decide +kernel
theorem dX12_fits_54 : decode cX12_fits 54 = .ok (.iconst 0, 1) := by decide +kernel
theorem dX12_fits_55 : decode cX12_fits 55 = .ok (.istore_n 3, 1) := by decide +kernel
theorem dX12_fits_56 : decode cX12_fits 56 = .ok (.iconst 0, 1) := by decide +kernel
theorem dX12_fits_57 : decode cX12_fits 57 = .ok (.istore 4, 2) := by decide +kernel
theorem dX12_fits_59 : decode cX12_fits 59 = .ok (.iload 4, 2) := by decide +kernel
theorem dX12_fits_61 : decode cX12_fits 61 = .ok (.sipush 297, 3) := by decide +kernel
theorem dX12_fits_64 : decode cX12_fits 64 = .ok (.if_icmp .ge 35, 3) := by decide +kernel
theorem dX12_fits_67 : decode cX12_fits 67 = .ok (.aload_n 0, 1) := by decide +kernel
theorem dX12_fits_68 : decode cX12_fits 68 = .ok (.iload 4, 2) := by decide +kernel
theorem dX12_fits_70 : decode cX12_fits 70 = .ok (.invokevirtual 358, 3) := by decide +kernel
theorem dX12_fits_73 : decode cX12_fits 73 = .ok (.ifCond .ne 6, 3) := by decide +kernel
theorem dX12_fits_76 : decode cX12_fits 76 = .ok (.goto 17, 3) := by decide +kernel
theorem dX12_fits_79 : decode cX12_fits 79 = .ok (.iload_n 3, 1) := by decide +kernel
theorem dX12_fits_80 : decode cX12_fits 80 = .ok (.iload_n 2, 1) := by decide +kernel
theorem dX12_fits_81 : decode cX12_fits 81 = .ok (.bipush 10, 2) := by decide +kernel
theorem dX12_fits_83 : decode cX12_fits 83 = .ok (.isub, 1) := by decide +kernel
theorem dX12_fits_84 : decode cX12_fits 84 = .ok (.if_icmp .ne 6, 3) := by decide +kernel
theorem dX12_fits_87 : decode cX12_fits 87 = .ok (.iload 4, 2) := by decide +kernel
theorem dX12_fits_89 : decode cX12_fits 89 = .ok (.ireturn, 1) := by decide +kernel
theorem dX12_fits_90 : decode cX12_fits 90 = .ok (.iinc 3 1, 3) := by decide +kernel
theorem dX12_fits_93 : decode cX12_fits 93 = .ok (.iinc 4 1, 3) := by decide +kernel
theorem dX12_fits_96 : decode cX12_fits 96 = .ok (.goto (-37), 3) := by decide +kernel
theorem dX12_fits_99 : decode cX12_fits 99 = .ok (.bipush (-2), 2) := by decide +kernel
theorem dX12_fits_101 : decode cX12_fits 101 = .ok (.ireturn, 1) := by decide +kernel
theorem dX12_ask_0 : decode cX12_ask 0 = .ok (.aload_n 0, 1) := by decide +kernel
theorem dX12_ask_1 : decode cX12_ask 1 = .ok (.iload_n 1, 1) := by decide +kernel
theorem dX12_ask_2 : decode cX12_ask 2 = .ok (.invokevirtual 351, 3) := by decide +kernel
theorem dX12_ask_5 : decode cX12_ask 5 = .ok (.ifCond .eq 13, 3) := by decide +kernel
theorem dX12_ask_8 : decode cX12_ask 8 = .ok (.iload_n 2, 1) := by decide +kernel
theorem dX12_ask_9 : decode cX12_ask 9 = .ok (.iconst 0, 1) := by decide +kernel
theorem dX12_ask_10 : decode cX12_ask 10 = .ok (.bipush 60, 2) := by decide +kernel
theorem dX12_ask_12 : decode cX12_ask 12 = .ok (.invokestatic 106, 3) := by decide +kernel
theorem dX12_ask_15 : decode cX12_ask 15 = .ok (.ifCond .ne 5, 3) := by decide +kernel
theorem dX12_ask_18 : decode cX12_ask 18 = .ok (.iconst (-1), 1) := by decide +kernel
theorem dX12_ask_19 : decode cX12_ask 19 = .ok (.ireturn, 1) := by decide +kernel
theorem dX12_ask_20 : decode cX12_ask 20 = .ok (.aload_n 0, 1) := by decide +kernel
theorem dX12_ask_21 : decode cX12_ask 21 = .ok (.invokevirtual 361, 3) := by decide +kernel
theorem dX12_ask_24 : decode cX12_ask 24 = .ok (.istore_n 3, 1) := by decide +kernel
theorem dX12_ask_25 : decode cX12_ask 25 = .ok (.iload_n 3, 1) := by decide +kernel
theorem dX12_ask_26 : decode cX12_ask 26 = .ok (.ifCond .ne 5, 3) := by decide +kernel
theorem dX12_ask_29 : decode cX12_ask 29 = .ok (.iconst (-1), 1) := by decide +kernel
theorem dX12_ask_30 : decode cX12_ask 30 = .ok (.ireturn, 1) := by decide +kernel
theorem dX12_ask_31 : decode cX12_ask 31 = .ok (.iconst (-1), 1) := by decide +kernel
theorem dX12_ask_32 : decode cX12_ask 32 = .ok (.istore 4, 2) := by decide +kernel
theorem dX12_ask_34 : decode cX12_ask 34 = .ok (.sipush 999, 3) := by decide +kernel
theorem dX12_ask_37 : decode cX12_ask 37 = .ok (.istore 5, 2) := by decide +kernel
theorem dX12_ask_39 : decode cX12_ask 39 = .ok (.iconst 0, 1) := by decide +kernel
theorem dX12_ask_40 : decode cX12_ask 40 = .ok (.istore 6, 2) := by decide +kernel
theorem dX12_ask_42 : decode cX12_ask 42 = .ok (.iload 6, 2) := by decide +kernel
theorem dX12_ask_44 : decode cX12_ask 44 = .ok (.bipush 100, 2) := by decide +kernel
theorem dX12_ask_46 : decode cX12_ask 46 = .ok (.if_icmp .ge 118, 3) := by decide +kernel
theorem dX12_ask_49 : decode cX12_ask 49 = .ok (.iload 6, 2) := by decide +kernel
theorem dX12_ask_51 : decode cX12_ask 51 = .ok (.bipush 10, 2) := by decide +kernel
theorem dX12_ask_53 : decode cX12_ask 53 = .ok (.irem, 1) := by decide +kernel
theorem dX12_ask_54 : decode cX12_ask 54 = .ok (.bipush 6, 2) := by decide +kernel
theorem dX12_ask_56 : decode cX12_ask 56 = .ok (.if_icmp .le 6, 3) := by decide +kernel
theorem dX12_ask_59 : decode cX12_ask 59 = .ok (.goto 99, 3) := by decide +kernel
theorem dX12_ask_62 : decode cX12_ask 62 = .ok (.iconst 0, 1) := by decide +kernel
theorem dX12_ask_63 : decode cX12_ask 63 = .ok (.istore 7, 2) := by decide +kernel
theorem dX12_ask_65 : decode cX12_ask 65 = .ok (.iconst 0, 1) := by decide +kernel
theorem dX12_ask_66 : decode cX12_ask 66 = .ok (.istore 8, 2) := by decide +kernel
theorem dX12_ask_68 : decode cX12_ask 68 = .ok (.iload 8, 2) := by decide +kernel
theorem dX12_ask_70 : decode cX12_ask 70 = .ok (.sipush 297, 3) := by decide +kernel
theorem dX12_ask_73 : decode cX12_ask 73 = .ok (.if_icmp .ge 47, 3) := by decide +kernel
theorem dX12_ask_76 : decode cX12_ask 76 = .ok (.iload 7, 2) := by decide +kernel
theorem dX12_ask_78 : decode cX12_ask 78 = .ok (.iload 8, 2) := by decide +kernel
theorem dX12_ask_80 : decode cX12_ask 80 = .ok (.iload_n 2, 1) := by decide +kernel
theorem dX12_ask_81 : decode cX12_ask 81 = .ok (.iload 6, 2) := by decide +kernel
theorem dX12_ask_83 : decode cX12_ask 83 = .ok (.bipush 10, 2) := by decide +kernel
theorem dX12_ask_85 : decode cX12_ask 85 = .ok (.idiv, 1) := by decide +kernel
theorem dX12_ask_86 : decode cX12_ask 86 = .ok (.iload 6, 2) := by decide +kernel
theorem dX12_ask_88 : decode cX12_ask 88 = .ok (.bipush 10, 2) := by decide +kernel
theorem dX12_ask_90 : decode cX12_ask 90 = .ok (.irem, 1) := by decide +kernel
theorem dX12_ask_91 : decode cX12_ask 91 = .ok (.invokestatic 354, 3) := by decide +kernel
theorem dX12_ask_94 : decode cX12_ask 94 = .ok (.ifCond .eq 16, 3) := by decide +kernel
theorem dX12_ask_97 : decode cX12_ask 97 = .ok (.aload_n 0, 1) := by decide +kernel
theorem dX12_ask_98 : decode cX12_ask 98 = .ok (.iload 8, 2) := by decide +kernel
theorem dX12_ask_100 : decode cX12_ask 100 = .ok (.invokevirtual 358, 3) := by decide +kernel
theorem dX12_ask_103 : decode cX12_ask 103 = .ok (.ifCond .eq 7, 3) := by decide +kernel
theorem dX12_ask_106 : decode cX12_ask 106 = .ok (.iconst 1, 1) := by decide +kernel
theorem dX12_ask_107 : decode cX12_ask 107 = .ok (.goto 4, 3) := by decide +kernel
theorem dX12_ask_110 : decode cX12_ask 110 = .ok (.iconst 0, 1) := by decide +kernel
theorem dX12_ask_111 : decode cX12_ask 111 = .ok (.iadd, 1) := by decide +kernel
theorem dX12_ask_112 : decode cX12_ask 112 = .ok (.istore 7, 2) := by decide +kernel
theorem dX12_ask_114 : decode cX12_ask 114 = .ok (.iinc 8 1, 3) := by decide +kernel
theorem dX12_ask_117 : decode cX12_ask 117 = .ok (.goto (-49), 3) := by decide +kernel
theorem dX12_ask_120 : decode cX12_ask 120 = .ok (.iload 7, 2) := by decide +kernel
theorem dX12_ask_122 : decode cX12_ask 122 = .ok (.iload_n 3, 1) := by decide +kernel
theorem dX12_ask_123 : decode cX12_ask 123 = .ok (.iload 7, 2) := by decide +kernel
theorem dX12_ask_125 : decode cX12_ask 125 = .ok (.isub, 1) := by decide +kernel
theorem dX12_ask_126 : decode cX12_ask 126 = .ok (.if_icmp .le 8, 3) := by decide +kernel
theorem dX12_ask_129 : decode cX12_ask 129 = .ok (.iload 7, 2) := by decide +kernel
theorem dX12_ask_131 : decode cX12_ask 131 = .ok (.goto 7, 3) := by decide +kernel
theorem dX12_ask_134 : decode cX12_ask 134 = .ok (.iload_n 3, 1) := by decide +kernel
theorem dX12_ask_135 : decode cX12_ask 135 = .ok (.iload 7, 2) := by decide +kernel
theorem dX12_ask_137 : decode cX12_ask 137 = .ok (.isub, 1) := by decide +kernel
theorem dX12_ask_138 : decode cX12_ask 138 = .ok (.istore 8, 2) := by decide +kernel
theorem dX12_ask_140 : decode cX12_ask 140 = .ok (.iload 8, 2) := by decide +kernel
theorem dX12_ask_142 : decode cX12_ask 142 = .ok (.iload 5, 2) := by decide +kernel
theorem dX12_ask_144 : decode cX12_ask 144 = .ok (.if_icmp .lt 6, 3) := by decide +kernel
theorem dX12_ask_147 : decode cX12_ask 147 = .ok (.goto 11, 3) := by decide +kernel
theorem dX12_ask_150 : decode cX12_ask 150 = .ok (.iload 6, 2) := by decide +kernel
theorem dX12_ask_152 : decode cX12_ask 152 = .ok (.istore 4, 2) := by decide +kernel
theorem dX12_ask_154 : decode cX12_ask 154 = .ok (.iload 8, 2) := by decide +kernel
theorem dX12_ask_156 : decode cX12_ask 156 = .ok (.istore 5, 2) := by decide +kernel
theorem dX12_ask_158 : decode cX12_ask 158 = .ok (.iinc 6 1, 3) := by decide +kernel
theorem dX12_ask_161 : decode cX12_ask 161 = .ok (.goto (-119), 3) := by decide +kernel
theorem dX12_ask_164 : decode cX12_ask 164 = .ok (.iload 4, 2) := by decide +kernel
theorem dX12_ask_166 : decode cX12_ask 166 = .ok (.ireturn, 1) := by decide +kernel
theorem dX12_bears_0 : decode cX12_bears 0 = .ok (.aload_n 0, 1) := by decide +kernel
theorem dX12_bears_1 : decode cX12_bears 1 = .ok (.iload_n 1, 1) := by decide +kernel
theorem dX12_bears_2 : decode cX12_bears 2 = .ok (.invokevirtual 351, 3) := by decide +kernel
theorem dX12_bears_5 : decode cX12_bears 5 = .ok (.ifCond .eq 12, 3) := by decide +kernel
theorem dX12_bears_8 : decode cX12_bears 8 = .ok (.iload_n 2, 1) := by decide +kernel
theorem dX12_bears_9 : decode cX12_bears 9 = .ok (.iconst 0, 1) := by decide +kernel
theorem dX12_bears_10 : decode cX12_bears 10 = .ok (.iconst 2, 1) := by decide +kernel
theorem dX12_bears_11 : decode cX12_bears 11 = .ok (.invokestatic 106, 3) := by decide +kernel
theorem dX12_bears_14 : decode cX12_bears 14 = .ok (.ifCond .ne 5, 3) := by decide +kernel
theorem dX12_bears_17 : decode cX12_bears 17 = .ok (.iconst (-1), 1) := by decide +kernel
theorem dX12_bears_18 : decode cX12_bears 18 = .ok (.ireturn, 1) := by decide +kernel
theorem dX12_bears_19 : decode cX12_bears 19 = .ok (.iconst (-1), 1) := by decide +kernel
theorem dX12_bears_20 : decode cX12_bears 20 = .ok (.istore 4, 2) := by decide +kernel
theorem dX12_bears_22 : decode cX12_bears 22 = .ok (.iconst 1, 1) := by decide +kernel
theorem dX12_bears_23 : decode cX12_bears 23 = .ok (.istore 5, 2) := by decide +kernel
theorem dX12_bears_25 : decode cX12_bears 25 = .ok (.iload 5, 2) := by decide +kernel
theorem dX12_bears_27 : decode cX12_bears 27 = .ok (.bipush 100, 2) := by decide +kernel
theorem dX12_bears_29 : decode cX12_bears 29 = .ok (.if_icmp .ge 39, 3) := by decide +kernel
theorem dX12_bears_32 : decode cX12_bears 32 = .ok (.iload 4, 2) := by decide +kernel
theorem dX12_bears_34 : decode cX12_bears 34 = .ok (.iconst (-1), 1) := by decide +kernel
theorem dX12_bears_35 : decode cX12_bears 35 = .ok (.if_icmp .eq 7, 3) := by decide +kernel
theorem dX12_bears_38 : decode cX12_bears 38 = .ok (.iload_n 3, 1) := by decide +kernel
theorem dX12_bears_39 : decode cX12_bears 39 = .ok (.ifCond .eq 23, 3) := by decide +kernel
theorem dX12_bears_42 : decode cX12_bears 42 = .ok (.aload_n 0, 1) := by decide +kernel
theorem dX12_bears_43 : decode cX12_bears 43 = .ok (.bipush 99, 2) := by decide +kernel
theorem dX12_bears_45 : decode cX12_bears 45 = .ok (.iload_n 2, 1) := by decide +kernel
theorem dX12_bears_46 : decode cX12_bears 46 = .ok (.imul, 1) := by decide +kernel
theorem dX12_bears_47 : decode cX12_bears 47 = .ok (.iload 5, 2) := by decide +kernel
theorem dX12_bears_49 : decode cX12_bears 49 = .ok (.iadd, 1) := by decide +kernel
theorem dX12_bears_50 : decode cX12_bears 50 = .ok (.iconst 1, 1) := by decide +kernel
theorem dX12_bears_51 : decode cX12_bears 51 = .ok (.isub, 1) := by decide +kernel
theorem dX12_bears_52 : decode cX12_bears 52 = .ok (.invokevirtual 358, 3) := by decide +kernel
theorem dX12_bears_55 : decode cX12_bears 55 = .ok (.ifCond .eq 7, 3) := by decide +kernel
theorem dX12_bears_58 : decode cX12_bears 58 = .ok (.iload 5, 2) := by decide +kernel
theorem dX12_bears_60 : decode cX12_bears 60 = .ok (.istore 4, 2) := by decide +kernel
theorem dX12_bears_62 : decode cX12_bears 62 = .ok (.iinc 5 1, 3) := by decide +kernel
theorem dX12_bears_65 : decode cX12_bears 65 = .ok (.goto (-40), 3) := by decide +kernel
theorem dX12_bears_68 : decode cX12_bears 68 = .ok (.iload 4, 2) := by decide +kernel
theorem dX12_bears_70 : decode cX12_bears 70 = .ok (.ireturn, 1) := by decide +kernel
theorem dX12_below_0 : decode cX12_below 0 = .ok (.aload_n 0, 1) := by decide +kernel
theorem dX12_below_1 : decode cX12_below 1 = .ok (.aload_n 0, 1) := by decide +kernel
theorem dX12_below_2 : decode cX12_below 2 = .ok (.getfield 368, 3) := by decide +kernel
theorem dX12_below_5 : decode cX12_below 5 = .ok (.ldc_w 371, 3) := by decide +kernel
theorem dX12_below_8 : decode cX12_below 8 = .ok (.imul, 1) := by decide +kernel
theorem dX12_below_9 : decode cX12_below 9 = .ok (.sipush 12345, 3) := by decide +kernel
theorem dX12_below_12 : decode cX12_below 12 = .ok (.iadd, 1) := by decide +kernel
theorem dX12_below_13 : decode cX12_below 13 = .ok (.putfield 368, 3) := by decide +kernel
theorem dX12_below_16 : decode cX12_below 16 = .ok (.aload_n 0, 1) := by decide +kernel
theorem dX12_below_17 : decode cX12_below 17 = .ok (.getfield 368, 3) := by decide +kernel
theorem dX12_below_20 : decode cX12_below 20 = .ok (.bipush 16, 2) := by decide +kernel
theorem dX12_below_22 : decode cX12_below 22 = .ok (.iushr, 1) := by decide +kernel
theorem dX12_below_23 : decode cX12_below 23 = .ok (.iload_n 1, 1) := by decide +kernel
theorem dX12_below_24 : decode cX12_below 24 = .ok (.irem, 1) := by decide +kernel
theorem dX12_below_25 : decode cX12_below 25 = .ok (.ireturn, 1) := by decide +kernel
theorem dX12_draws_0 : decode cX12_draws 0 = .ok (.aload_n 0, 1) := by decide +kernel
theorem dX12_draws_1 : decode cX12_draws 1 = .ok (.bipush 8, 2) := by decide +kernel
theorem dX12_draws_3 : decode cX12_draws 3 = .ok (.invokevirtual 372, 3) := by decide +kernel
theorem dX12_draws_6 : decode cX12_draws 6 = .ok (.istore_n 1, 1) := by decide +kernel
theorem dX12_draws_7 : decode cX12_draws 7 = .ok (.iload_n 1, 1) := by decide +kernel
theorem dX12_draws_8 : decode cX12_draws 8 = .ok (.iconst 2, 1) := by decide +kernel
theorem dX12_draws_9 : decode cX12_draws 9 = .ok (.if_icmp .ge 19, 3) := by decide +kernel
theorem dX12_draws_12 : decode cX12_draws 12 = .ok (.aload_n 0, 1) := by decide +kernel
theorem dX12_draws_13 : decode cX12_draws 13 = .ok (.iconst 0, 1) := by decide +kernel
theorem dX12_draws_14 : decode cX12_draws 14 = .ok (.aload_n 0, 1) := by decide +kernel
theorem dX12_draws_15 : decode cX12_draws 15 = .ok (.bipush 64, 2) := by decide +kernel
theorem dX12_draws_17 : decode cX12_draws 17 = .ok (.invokevirtual 372, 3) := by decide +kernel
theorem dX12_draws_20 : decode cX12_draws 20 = .ok (.iconst (-1), 1) := by decide +kernel
theorem dX12_draws_21 : decode cX12_draws 21 = .ok (.invokevirtual 258, 3) := by decide +kernel
theorem dX12_draws_24 : decode cX12_draws 24 = .ok (.pop, 1) := by decide +kernel
theorem dX12_draws_25 : decode cX12_draws 25 = .ok (.goto 124, 3) := by decide +kernel
theorem dX12_draws_28 : decode cX12_draws 28 = .ok (.iload_n 1, 1) := by decide +kernel
theorem dX12_draws_29 : decode cX12_draws 29 = .ok (.iconst 4, 1) := by decide +kernel
theorem dX12_draws_30 : decode cX12_draws 30 = .ok (.if_icmp .ge 61, 3) := by decide +kernel
theorem dX12_draws_33 : decode cX12_draws 33 = .ok (.aload_n 0, 1) := by decide +kernel
theorem dX12_draws_34 : decode cX12_draws 34 = .ok (.getfield 162, 3) := by decide +kernel
theorem dX12_draws_37 : decode cX12_draws 37 = .ok (.ifCond .ne 4, 3) := by decide +kernel
theorem dX12_draws_40 : decode cX12_draws 40 = .ok (.return_, 1) := by decide +kernel
theorem dX12_draws_41 : decode cX12_draws 41 = .ok (.aload_n 0, 1) := by decide +kernel
theorem dX12_draws_42 : decode cX12_draws 42 = .ok (.aload_n 0, 1) := by decide +kernel
theorem dX12_draws_43 : decode cX12_draws 43 = .ok (.getfield 162, 3) := by decide +kernel
theorem dX12_draws_46 : decode cX12_draws 46 = .ok (.invokevirtual 372, 3) := by decide +kernel
theorem dX12_draws_49 : decode cX12_draws 49 = .ok (.istore_n 2, 1) := by decide +kernel
theorem dX12_draws_50 : decode cX12_draws 50 = .ok (.iload_n 1, 1) := by decide +kernel
theorem dX12_draws_51 : decode cX12_draws 51 = .ok (.iconst 3, 1) := by decide +kernel
theorem dX12_draws_52 : decode cX12_draws 52 = .ok (.if_icmp .ne 14, 3) := by decide +kernel
theorem dX12_draws_55 : decode cX12_draws 55 = .ok (.aload_n 0, 1) := by decide +kernel
theorem dX12_draws_56 : decode cX12_draws 56 = .ok (.iconst 1, 1) := by decide +kernel
theorem dX12_draws_57 : decode cX12_draws 57 = .ok (.iload_n 2, 1) := by decide +kernel
theorem dX12_draws_58 : decode cX12_draws 58 = .ok (.iconst (-1), 1) := by decide +kernel
theorem dX12_draws_59 : decode cX12_draws 59 = .ok (.invokevirtual 258, 3) := by decide +kernel
theorem dX12_draws_62 : decode cX12_draws 62 = .ok (.pop, 1) := by decide +kernel
theorem dX12_draws_63 : decode cX12_draws 63 = .ok (.goto 25, 3) := by decide +kernel
theorem dX12_draws_66 : decode cX12_draws 66 = .ok (.aload_n 0, 1) := by decide +kernel
theorem dX12_draws_67 : decode cX12_draws 67 = .ok (.getfield 159, 3) := by decide +kernel
theorem dX12_draws_70 : decode cX12_draws 70 = .ok (.ifCond .le 18, 3) := by decide +kernel
theorem dX12_draws_73 : decode cX12_draws 73 = .ok (.aload_n 0, 1) := by decide +kernel
theorem dX12_draws_74 : decode cX12_draws 74 = .ok (.iconst 4, 1) := by decide +kernel
theorem dX12_draws_75 : decode cX12_draws 75 = .ok (.iload_n 2, 1) := by decide +kernel
theorem dX12_draws_76 : decode cX12_draws 76 = .ok (.aload_n 0, 1) := by decide +kernel
theorem dX12_draws_77 : decode cX12_draws 77 = .ok (.aload_n 0, 1) := by decide +kernel
theorem dX12_draws_78 : decode cX12_draws 78 = .ok (.getfield 159, 3) := by decide +kernel
theorem dX12_draws_81 : decode cX12_draws 81 = .ok (.invokevirtual 372, 3) := by decide +kernel
theorem dX12_draws_84 : decode cX12_draws 84 = .ok (.invokevirtual 258, 3) := by decide +kernel
theorem dX12_draws_87 : decode cX12_draws 87 = .ok (.pop, 1) := by decide +kernel
theorem dX12_draws_88 : decode cX12_draws 88 = .ok (.goto 61, 3) := by decide +kernel
theorem dX12_draws_91 : decode cX12_draws 91 = .ok (.iload_n 1, 1) := by decide +kernel
theorem dX12_draws_92 : decode cX12_draws 92 = .ok (.bipush 6, 2) := by decide +kernel
theorem dX12_draws_94 : decode cX12_draws 94 = .ok (.if_icmp .ge 30, 3) := by decide +kernel
theorem dX12_draws_97 : decode cX12_draws 97 = .ok (.aload_n 0, 1) := by decide +kernel
theorem dX12_draws_98 : decode cX12_draws 98 = .ok (.getfield 159, 3) := by decide +kernel
theorem dX12_draws_101 : decode cX12_draws 101 = .ok (.ifCond .le 48, 3) := by decide +kernel
theorem dX12_draws_104 : decode cX12_draws 104 = .ok (.aload_n 0, 1) := by decide +kernel
theorem dX12_draws_105 : decode cX12_draws 105 = .ok (.iload_n 1, 1) := by decide +kernel
theorem dX12_draws_106 : decode cX12_draws 106 = .ok (.iconst 2, 1) := by decide +kernel
theorem dX12_draws_107 : decode cX12_draws 107 = .ok (.isub, 1) := by decide +kernel
theorem dX12_draws_108 : decode cX12_draws 108 = .ok (.aload_n 0, 1) := by decide +kernel
theorem dX12_draws_109 : decode cX12_draws 109 = .ok (.aload_n 0, 1) := by decide +kernel
theorem dX12_draws_110 : decode cX12_draws 110 = .ok (.getfield 159, 3) := by decide +kernel
theorem dX12_draws_113 : decode cX12_draws 113 = .ok (.invokevirtual 372, 3) := by decide +kernel
theorem dX12_draws_116 : decode cX12_draws 116 = .ok (.iconst (-1), 1) := by decide +kernel
theorem dX12_draws_117 : decode cX12_draws 117 = .ok (.invokevirtual 258, 3) := by decide +kernel
theorem dX12_draws_120 : decode cX12_draws 120 = .ok (.pop, 1) := by decide +kernel
theorem dX12_draws_121 : decode cX12_draws 121 = .ok (.goto 28, 3) := by decide +kernel
theorem dX12_draws_124 : decode cX12_draws 124 = .ok (.aload_n 0, 1) := by decide +kernel
theorem dX12_draws_125 : decode cX12_draws 125 = .ok (.iload_n 1, 1) := by decide +kernel
theorem dX12_draws_126 : decode cX12_draws 126 = .ok (.bipush 7, 2) := by decide +kernel
theorem dX12_draws_128 : decode cX12_draws 128 = .ok (.if_icmp .ne 8, 3) := by decide +kernel
theorem dX12_draws_131 : decode cX12_draws 131 = .ok (.bipush 7, 2) := by decide +kernel
theorem dX12_draws_133 : decode cX12_draws 133 = .ok (.goto 10, 3) := by decide +kernel
theorem dX12_draws_136 : decode cX12_draws 136 = .ok (.iconst 5, 1) := by decide +kernel
theorem dX12_draws_137 : decode cX12_draws 137 = .ok (.aload_n 0, 1) := by decide +kernel
theorem dX12_draws_138 : decode cX12_draws 138 = .ok (.iconst 2, 1) := by decide +kernel
theorem dX12_draws_139 : decode cX12_draws 139 = .ok (.invokevirtual 372, 3) := by decide +kernel
theorem dX12_draws_142 : decode cX12_draws 142 = .ok (.iadd, 1) := by decide +kernel
theorem dX12_draws_143 : decode cX12_draws 143 = .ok (.iconst (-1), 1) := by decide +kernel
theorem dX12_draws_144 : decode cX12_draws 144 = .ok (.iconst (-1), 1) := by decide +kernel
theorem dX12_draws_145 : decode cX12_draws 145 = .ok (.invokevirtual 258, 3) := by decide +kernel
theorem dX12_draws_148 : decode cX12_draws 148 = .ok (.pop, 1) := by decide +kernel
theorem dX12_draws_149 : decode cX12_draws 149 = .ok (.return_, 1) := by decide +kernel
theorem dX12_drawn_0 : decode cX12_drawn 0 = .ok (.aload_n 0, 1) := by decide +kernel
theorem dX12_drawn_1 : decode cX12_drawn 1 = .ok (.iload_n 1, 1) := by decide +kernel
theorem dX12_drawn_2 : decode cX12_drawn 2 = .ok (.invokevirtual 165, 3) := by decide +kernel
theorem dX12_drawn_5 : decode cX12_drawn 5 = .ok (.ifCond .eq 18, 3) := by decide +kernel
theorem dX12_drawn_8 : decode cX12_drawn 8 = .ok (.iload_n 3, 1) := by decide +kernel
theorem dX12_drawn_9 : decode cX12_drawn 9 = .ok (.iconst 0, 1) := by decide +kernel
theorem dX12_drawn_10 : decode cX12_drawn 10 = .ok (.bipush 60, 2) := by decide +kernel
theorem dX12_drawn_12 : decode cX12_drawn 12 = .ok (.invokestatic 106, 3) := by decide +kernel
theorem dX12_drawn_15 : decode cX12_drawn 15 = .ok (.ifCond .eq 8, 3) := by decide +kernel
theorem dX12_drawn_18 : decode cX12_drawn 18 = .ok (.iload 4, 2) := by decide +kernel
theorem dX12_drawn_20 : decode cX12_drawn 20 = .ok (.ifCond .ge 6, 3) := by decide +kernel
theorem dX12_drawn_23 : decode cX12_drawn 23 = .ok (.bipush (-2), 2) := by decide +kernel
theorem dX12_drawn_25 : decode cX12_drawn 25 = .ok (.ireturn, 1) := by decide +kernel
theorem dX12_drawn_26 : decode cX12_drawn 26 = .ok (.aload_n 0, 1) := by decide +kernel
theorem dX12_drawn_27 : decode cX12_drawn 27 = .ok (.iload_n 2, 1) := by decide +kernel
theorem dX12_drawn_28 : decode cX12_drawn 28 = .ok (.putfield 368, 3) := by decide +kernel
theorem dX12_drawn_31 : decode cX12_drawn 31 = .ok (.aload_n 0, 1) := by decide +kernel
theorem dX12_drawn_32 : decode cX12_drawn 32 = .ok (.invokevirtual 255, 3) := by decide +kernel
theorem dX12_drawn_35 : decode cX12_drawn 35 = .ok (.iconst 0, 1) := by decide +kernel
theorem dX12_drawn_36 : decode cX12_drawn 36 = .ok (.istore 5, 2) := by decide +kernel
theorem dX12_drawn_38 : decode cX12_drawn 38 = .ok (.iload 5, 2) := by decide +kernel
theorem dX12_drawn_40 : decode cX12_drawn 40 = .ok (.iload_n 3, 1) := by decide +kernel
theorem dX12_drawn_41 : decode cX12_drawn 41 = .ok (.if_icmp .ge 13, 3) := by decide +kernel
theorem dX12_drawn_44 : decode cX12_drawn 44 = .ok (.aload_n 0, 1) := by decide +kernel
theorem dX12_drawn_45 : decode cX12_drawn 45 = .ok (.invokevirtual 375, 3) := by decide +kernel
theorem dX12_drawn_48 : decode cX12_drawn 48 = .ok (.iinc 5 1, 3) := by decide +kernel
theorem dX12_drawn_51 : decode cX12_drawn 51 = .ok (.goto (-13), 3) := by decide +kernel
theorem dX12_drawn_54 : decode cX12_drawn 54 = .ok (.aload_n 0, 1) := by decide +kernel
theorem dX12_drawn_55 : decode cX12_drawn 55 = .ok (.iload 4, 2) := by decide +kernel
theorem dX12_drawn_57 : decode cX12_drawn 57 = .ok (.invokevirtual 264, 3) := by decide +kernel
theorem dX12_drawn_60 : decode cX12_drawn 60 = .ok (.ireturn, 1) := by decide +kernel
theorem dX12_count_0 : decode cX12_count 0 = .ok (.iload_n 1, 1) := by decide +kernel
theorem dX12_count_1 : decode cX12_count 1 = .ok (.iconst 0, 1) := by decide +kernel
theorem dX12_count_2 : decode cX12_count 2 = .ok (.iconst 2, 1) := by decide +kernel
theorem dX12_count_3 : decode cX12_count 3 = .ok (.invokestatic 106, 3) := by decide +kernel
theorem dX12_count_6 : decode cX12_count 6 = .ok (.ifCond .eq 12, 3) := by decide +kernel
theorem dX12_count_9 : decode cX12_count 9 = .ok (.aload_n 0, 1) := by decide +kernel
theorem dX12_count_10 : decode cX12_count 10 = .ok (.getfield 7, 3) := by decide +kernel
theorem dX12_count_13 : decode cX12_count 13 = .ok (.iload_n 1, 1) := by decide +kernel
theorem dX12_count_14 : decode cX12_count 14 = .ok (.iaload, 1) := by decide +kernel
theorem dX12_count_15 : decode cX12_count 15 = .ok (.goto 5, 3) := by decide +kernel
theorem dX12_count_18 : decode cX12_count 18 = .ok (.bipush (-2), 2) := by decide +kernel
theorem dX12_count_20 : decode cX12_count 20 = .ok (.ireturn, 1) := by decide +kernel
