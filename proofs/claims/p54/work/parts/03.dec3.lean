theorem dL_areSessions_251 : decode cL_areSessions 251 = .ok (.iload_n 2, 1) := by decide +kernel
theorem dL_areSessions_252 : decode cL_areSessions 252 = .ok (.i2f, 1) := by decide +kernel
theorem dL_areSessions_253 : decode cL_areSessions 253 = .ok (.fdiv, 1) := by decide +kernel
theorem dL_areSessions_254 : decode cL_areSessions 254 = .ok (.fcmp .l, 1) := by decide +kernel
theorem dL_areSessions_255 : decode cL_areSessions 255 = .ok (.ifCond .eq 5, 3) := by decide +kernel
theorem dL_areSessions_258 : decode cL_areSessions 258 = .ok (.iconst 0, 1) := by decide +kernel
theorem dL_areSessions_259 : decode cL_areSessions 259 = .ok (.ireturn, 1) := by decide +kernel
theorem dL_areSessions_260 : decode cL_areSessions 260 = .ok (.iinc 3 1, 3) := by decide +kernel
theorem dL_areSessions_263 : decode cL_areSessions 263 = .ok (.goto (-99), 3) := by decide +kernel
theorem dL_areSessions_266 : decode cL_areSessions 266 = .ok (.aload_n 0, 1) := by decide +kernel
theorem dL_areSessions_267 : decode cL_areSessions 267 = .ok (.invokevirtual 155, 3) := by decide +kernel
theorem dL_areSessions_270 : decode cL_areSessions 270 = .ok (.aload_n 1, 1) := by decide +kernel
theorem dL_areSessions_271 : decode cL_areSessions 271 = .ok (.iconst 0, 1) := by decide +kernel
theorem dL_areSessions_272 : decode cL_areSessions 272 = .ok (.iaload, 1) := by decide +kernel
theorem dL_areSessions_273 : decode cL_areSessions 273 = .ok (.if_icmp .ne 39, 3) := by decide +kernel
theorem dL_areSessions_276 : decode cL_areSessions 276 = .ok (.aload_n 0, 1) := by decide +kernel
theorem dL_areSessions_277 : decode cL_areSessions 277 = .ok (.invokevirtual 203, 3) := by decide +kernel
theorem dL_areSessions_280 : decode cL_areSessions 280 = .ok (.aload_n 1, 1) := by decide +kernel
theorem dL_areSessions_281 : decode cL_areSessions 281 = .ok (.iconst 2, 1) := by decide +kernel
theorem dL_areSessions_282 : decode cL_areSessions 282 = .ok (.iaload, 1) := by decide +kernel
theorem dL_areSessions_283 : decode cL_areSessions 283 = .ok (.if_icmp .ne 29, 3) := by decide +kernel
theorem dL_areSessions_286 : decode cL_areSessions 286 = .ok (.aload_n 0, 1) := by decide +kernel
theorem dL_areSessions_287 : decode cL_areSessions 287 = .ok (.invokevirtual 196, 3) := by decide +kernel
theorem dL_areSessions_290 : decode cL_areSessions 290 = .ok (.aload_n 1, 1) := by decide +kernel
theorem dL_areSessions_291 : decode cL_areSessions 291 = .ok (.iconst 3, 1) := by decide +kernel
theorem dL_areSessions_292 : decode cL_areSessions 292 = .ok (.iaload, 1) := by decide +kernel
theorem dL_areSessions_293 : decode cL_areSessions 293 = .ok (.if_icmp .ne 19, 3) := by decide +kernel
theorem dL_areSessions_296 : decode cL_areSessions 296 = .ok (.aload_n 0, 1) := by decide +kernel
theorem dL_areSessions_297 : decode cL_areSessions 297 = .ok (.aload_n 1, 1) := by decide +kernel
theorem dL_areSessions_298 : decode cL_areSessions 298 = .ok (.iconst 2, 1) := by decide +kernel
theorem dL_areSessions_299 : decode cL_areSessions 299 = .ok (.iaload, 1) := by decide +kernel
theorem dL_areSessions_300 : decode cL_areSessions 300 = .ok (.invokestatic 229, 3) := by decide +kernel
theorem dL_areSessions_303 : decode cL_areSessions 303 = .ok (.ldc 17, 2) := by decide +kernel
theorem dL_areSessions_305 : decode cL_areSessions 305 = .ok (.if_icmp .ne 7, 3) := by decide +kernel
theorem dL_areSessions_308 : decode cL_areSessions 308 = .ok (.iconst 1, 1) := by decide +kernel
theorem dL_areSessions_309 : decode cL_areSessions 309 = .ok (.goto 4, 3) := by decide +kernel
theorem dL_areSessions_312 : decode cL_areSessions 312 = .ok (.iconst 0, 1) := by decide +kernel
theorem dL_areSessions_313 : decode cL_areSessions 313 = .ok (.ireturn, 1) := by decide +kernel
theorem dL_isPlan_0 : decode cL_isPlan 0 = .ok (.iconst 0, 1) := by decide +kernel
theorem dL_isPlan_1 : decode cL_isPlan 1 = .ok (.istore_n 2, 1) := by decide +kernel
theorem dL_isPlan_2 : decode cL_isPlan 2 = .ok (.iconst 0, 1) := by decide +kernel
theorem dL_isPlan_3 : decode cL_isPlan 3 = .ok (.istore_n 3, 1) := by decide +kernel
theorem dL_isPlan_4 : decode cL_isPlan 4 = .ok (.iconst 0, 1) := by decide +kernel
theorem dL_isPlan_5 : decode cL_isPlan 5 = .ok (.istore 4, 2) := by decide +kernel
theorem dL_isPlan_7 : decode cL_isPlan 7 = .ok (.iconst 3, 1) := by decide +kernel
theorem dL_isPlan_8 : decode cL_isPlan 8 = .ok (.istore 5, 2) := by decide +kernel
theorem dL_isPlan_10 : decode cL_isPlan 10 = .ok (.aload_n 1, 1) := by decide +kernel
theorem dL_isPlan_11 : decode cL_isPlan 11 = .ok (.iconst 5, 1) := by decide +kernel
theorem dL_isPlan_12 : decode cL_isPlan 12 = .ok (.iaload, 1) := by decide +kernel
theorem dL_isPlan_13 : decode cL_isPlan 13 = .ok (.istore 6, 2) := by decide +kernel
theorem dL_isPlan_15 : decode cL_isPlan 15 = .ok (.aload_n 1, 1) := by decide +kernel
theorem dL_isPlan_16 : decode cL_isPlan 16 = .ok (.iconst 4, 1) := by decide +kernel
theorem dL_isPlan_17 : decode cL_isPlan 17 = .ok (.iaload, 1) := by decide +kernel
theorem dL_isPlan_18 : decode cL_isPlan 18 = .ok (.iconst 1, 1) := by decide +kernel
theorem dL_isPlan_19 : decode cL_isPlan 19 = .ok (.if_icmp .ne 123, 3) := by decide +kernel
theorem dL_isPlan_22 : decode cL_isPlan 22 = .ok (.iload 6, 2) := by decide +kernel
theorem dL_isPlan_24 : decode cL_isPlan 24 = .ok (.aload_n 1, 1) := by decide +kernel
theorem dL_isPlan_25 : decode cL_isPlan 25 = .ok (.iconst 0, 1) := by decide +kernel
theorem dL_isPlan_26 : decode cL_isPlan 26 = .ok (.iaload, 1) := by decide +kernel
theorem dL_isPlan_27 : decode cL_isPlan 27 = .ok (.if_icmp .ge 115, 3) := by decide +kernel
theorem dL_isPlan_30 : decode cL_isPlan 30 = .ok (.iload_n 2, 1) := by decide +kernel
theorem dL_isPlan_31 : decode cL_isPlan 31 = .ok (.aload_n 1, 1) := by decide +kernel
theorem dL_isPlan_32 : decode cL_isPlan 32 = .ok (.bipush 6, 2) := by decide +kernel
theorem dL_isPlan_34 : decode cL_isPlan 34 = .ok (.iaload, 1) := by decide +kernel
theorem dL_isPlan_35 : decode cL_isPlan 35 = .ok (.if_icmp .ge 101, 3) := by decide +kernel
theorem dL_isPlan_38 : decode cL_isPlan 38 = .ok (.aload_n 1, 1) := by decide +kernel
theorem dL_isPlan_39 : decode cL_isPlan 39 = .ok (.iload 6, 2) := by decide +kernel
theorem dL_isPlan_41 : decode cL_isPlan 41 = .ok (.invokestatic 243, 3) := by decide +kernel
theorem dL_isPlan_44 : decode cL_isPlan 44 = .ok (.iconst 2, 1) := by decide +kernel
theorem dL_isPlan_45 : decode cL_isPlan 45 = .ok (.imul, 1) := by decide +kernel
theorem dL_isPlan_46 : decode cL_isPlan 46 = .ok (.aload_n 1, 1) := by decide +kernel
theorem dL_isPlan_47 : decode cL_isPlan 47 = .ok (.bipush 60, 2) := by decide +kernel
theorem dL_isPlan_49 : decode cL_isPlan 49 = .ok (.iload_n 2, 1) := by decide +kernel
theorem dL_isPlan_50 : decode cL_isPlan 50 = .ok (.iadd, 1) := by decide +kernel
theorem dL_isPlan_51 : decode cL_isPlan 51 = .ok (.iaload, 1) := by decide +kernel
theorem dL_isPlan_52 : decode cL_isPlan 52 = .ok (.if_icmp .ge 7, 3) := by decide +kernel
theorem dL_isPlan_55 : decode cL_isPlan 55 = .ok (.iconst 1, 1) := by decide +kernel
theorem dL_isPlan_56 : decode cL_isPlan 56 = .ok (.goto 4, 3) := by decide +kernel
theorem dL_isPlan_59 : decode cL_isPlan 59 = .ok (.iconst 0, 1) := by decide +kernel
theorem dL_isPlan_60 : decode cL_isPlan 60 = .ok (.istore 7, 2) := by decide +kernel
theorem dL_isPlan_62 : decode cL_isPlan 62 = .ok (.iload 7, 2) := by decide +kernel
theorem dL_isPlan_64 : decode cL_isPlan 64 = .ok (.ifCond .eq 10, 3) := by decide +kernel
theorem dL_isPlan_67 : decode cL_isPlan 67 = .ok (.iload 5, 2) := by decide +kernel
theorem dL_isPlan_69 : decode cL_isPlan 69 = .ok (.iconst 1, 1) := by decide +kernel
theorem dL_isPlan_70 : decode cL_isPlan 70 = .ok (.isub, 1) := by decide +kernel
theorem dL_isPlan_71 : decode cL_isPlan 71 = .ok (.goto 4, 3) := by decide +kernel
theorem dL_isPlan_74 : decode cL_isPlan 74 = .ok (.iconst 3, 1) := by decide +kernel
theorem dL_isPlan_75 : decode cL_isPlan 75 = .ok (.istore 5, 2) := by decide +kernel
theorem dL_isPlan_77 : decode cL_isPlan 77 = .ok (.iload_n 3, 1) := by decide +kernel
theorem dL_isPlan_78 : decode cL_isPlan 78 = .ok (.iload 7, 2) := by decide +kernel
theorem dL_isPlan_80 : decode cL_isPlan 80 = .ok (.ifCond .eq 7, 3) := by decide +kernel
theorem dL_isPlan_83 : decode cL_isPlan 83 = .ok (.iconst 1, 1) := by decide +kernel
theorem dL_isPlan_84 : decode cL_isPlan 84 = .ok (.goto 4, 3) := by decide +kernel
theorem dL_isPlan_87 : decode cL_isPlan 87 = .ok (.iconst 0, 1) := by decide +kernel
theorem dL_isPlan_88 : decode cL_isPlan 88 = .ok (.iadd, 1) := by decide +kernel
theorem dL_isPlan_89 : decode cL_isPlan 89 = .ok (.istore_n 3, 1) := by decide +kernel
theorem dL_isPlan_90 : decode cL_isPlan 90 = .ok (.iload 4, 2) := by decide +kernel
theorem dL_isPlan_92 : decode cL_isPlan 92 = .ok (.iload 5, 2) := by decide +kernel
theorem dL_isPlan_94 : decode cL_isPlan 94 = .ok (.ifCond .ne 7, 3) := by decide +kernel
theorem dL_isPlan_97 : decode cL_isPlan 97 = .ok (.iconst 1, 1) := by decide +kernel
theorem dL_isPlan_98 : decode cL_isPlan 98 = .ok (.goto 4, 3) := by decide +kernel
theorem dL_isPlan_101 : decode cL_isPlan 101 = .ok (.iconst 0, 1) := by decide +kernel
theorem dL_isPlan_102 : decode cL_isPlan 102 = .ok (.iadd, 1) := by decide +kernel
theorem dL_isPlan_103 : decode cL_isPlan 103 = .ok (.istore 4, 2) := by decide +kernel
theorem dL_isPlan_105 : decode cL_isPlan 105 = .ok (.iload_n 2, 1) := by decide +kernel
theorem dL_isPlan_106 : decode cL_isPlan 106 = .ok (.iload 7, 2) := by decide +kernel
theorem dL_isPlan_108 : decode cL_isPlan 108 = .ok (.ifCond .eq 8, 3) := by decide +kernel
theorem dL_isPlan_111 : decode cL_isPlan 111 = .ok (.iload 5, 2) := by decide +kernel
theorem dL_isPlan_113 : decode cL_isPlan 113 = .ok (.ifCond .ne 7, 3) := by decide +kernel
theorem dL_isPlan_116 : decode cL_isPlan 116 = .ok (.iconst 1, 1) := by decide +kernel
theorem dL_isPlan_117 : decode cL_isPlan 117 = .ok (.goto 4, 3) := by decide +kernel
theorem dL_isPlan_120 : decode cL_isPlan 120 = .ok (.iconst 0, 1) := by decide +kernel
theorem dL_isPlan_121 : decode cL_isPlan 121 = .ok (.iadd, 1) := by decide +kernel
theorem dL_isPlan_122 : decode cL_isPlan 122 = .ok (.istore_n 2, 1) := by decide +kernel
theorem dL_isPlan_123 : decode cL_isPlan 123 = .ok (.iload 5, 2) := by decide +kernel
theorem dL_isPlan_125 : decode cL_isPlan 125 = .ok (.ifCond .ne 7, 3) := by decide +kernel
theorem dL_isPlan_128 : decode cL_isPlan 128 = .ok (.iconst 3, 1) := by decide +kernel
theorem dL_isPlan_129 : decode cL_isPlan 129 = .ok (.goto 5, 3) := by decide +kernel
theorem dL_isPlan_132 : decode cL_isPlan 132 = .ok (.iload 5, 2) := by decide +kernel
theorem dL_isPlan_134 : decode cL_isPlan 134 = .ok (.istore 5, 2) := by decide +kernel
theorem dL_isPlan_136 : decode cL_isPlan 136 = .ok (.iinc 6 1, 3) := by decide +kernel
theorem dL_isPlan_139 : decode cL_isPlan 139 = .ok (.goto (-124), 3) := by decide +kernel
theorem dL_isPlan_142 : decode cL_isPlan 142 = .ok (.aload_n 1, 1) := by decide +kernel
theorem dL_isPlan_143 : decode cL_isPlan 143 = .ok (.iconst 4, 1) := by decide +kernel
theorem dL_isPlan_144 : decode cL_isPlan 144 = .ok (.iaload, 1) := by decide +kernel
theorem dL_isPlan_145 : decode cL_isPlan 145 = .ok (.iconst 1, 1) := by decide +kernel
theorem dL_isPlan_146 : decode cL_isPlan 146 = .ok (.if_icmp .ne 15, 3) := by decide +kernel
theorem dL_isPlan_149 : decode cL_isPlan 149 = .ok (.iload_n 2, 1) := by decide +kernel
theorem dL_isPlan_150 : decode cL_isPlan 150 = .ok (.aload_n 1, 1) := by decide +kernel
theorem dL_isPlan_151 : decode cL_isPlan 151 = .ok (.bipush 6, 2) := by decide +kernel
theorem dL_isPlan_153 : decode cL_isPlan 153 = .ok (.iaload, 1) := by decide +kernel
theorem dL_isPlan_154 : decode cL_isPlan 154 = .ok (.if_icmp .ge 7, 3) := by decide +kernel
theorem dL_isPlan_157 : decode cL_isPlan 157 = .ok (.iconst 1, 1) := by decide +kernel
theorem dL_isPlan_158 : decode cL_isPlan 158 = .ok (.goto 4, 3) := by decide +kernel
theorem dL_isPlan_161 : decode cL_isPlan 161 = .ok (.iconst 0, 1) := by decide +kernel
theorem dL_isPlan_162 : decode cL_isPlan 162 = .ok (.istore 6, 2) := by decide +kernel
theorem dL_isPlan_164 : decode cL_isPlan 164 = .ok (.aload_n 0, 1) := by decide +kernel
theorem dL_isPlan_165 : decode cL_isPlan 165 = .ok (.invokestatic 245, 3) := by decide +kernel
theorem dL_isPlan_168 : decode cL_isPlan 168 = .ok (.iload 6, 2) := by decide +kernel
theorem dL_isPlan_170 : decode cL_isPlan 170 = .ok (.ifCond .eq 7, 3) := by decide +kernel
theorem dL_isPlan_173 : decode cL_isPlan 173 = .ok (.iload_n 2, 1) := by decide +kernel
theorem dL_isPlan_174 : decode cL_isPlan 174 = .ok (.goto 5, 3) := by decide +kernel
theorem dL_isPlan_177 : decode cL_isPlan 177 = .ok (.ldc 17, 2) := by decide +kernel
theorem dL_isPlan_179 : decode cL_isPlan 179 = .ok (.if_icmp .ne 60, 3) := by decide +kernel
theorem dL_isPlan_182 : decode cL_isPlan 182 = .ok (.aload_n 0, 1) := by decide +kernel
theorem dL_isPlan_183 : decode cL_isPlan 183 = .ok (.invokestatic 248, 3) := by decide +kernel
theorem dL_isPlan_186 : decode cL_isPlan 186 = .ok (.iload 6, 2) := by decide +kernel
theorem dL_isPlan_188 : decode cL_isPlan 188 = .ok (.ifCond .eq 18, 3) := by decide +kernel
theorem dL_isPlan_191 : decode cL_isPlan 191 = .ok (.aload_n 1, 1) := by decide +kernel
theorem dL_isPlan_192 : decode cL_isPlan 192 = .ok (.iconst 0, 1) := by decide +kernel
theorem dL_isPlan_193 : decode cL_isPlan 193 = .ok (.iaload, 1) := by decide +kernel
theorem dL_isPlan_194 : decode cL_isPlan 194 = .ok (.aload_n 1, 1) := by decide +kernel
theorem dL_isPlan_195 : decode cL_isPlan 195 = .ok (.bipush 6, 2) := by decide +kernel
theorem dL_isPlan_197 : decode cL_isPlan 197 = .ok (.iaload, 1) := by decide +kernel
theorem dL_isPlan_198 : decode cL_isPlan 198 = .ok (.iadd, 1) := by decide +kernel
theorem dL_isPlan_199 : decode cL_isPlan 199 = .ok (.iload_n 2, 1) := by decide +kernel
theorem dL_isPlan_200 : decode cL_isPlan 200 = .ok (.isub, 1) := by decide +kernel
theorem dL_isPlan_201 : decode cL_isPlan 201 = .ok (.iconst 1, 1) := by decide +kernel
theorem dL_isPlan_202 : decode cL_isPlan 202 = .ok (.isub, 1) := by decide +kernel
theorem dL_isPlan_203 : decode cL_isPlan 203 = .ok (.goto 5, 3) := by decide +kernel
theorem dL_isPlan_206 : decode cL_isPlan 206 = .ok (.ldc 17, 2) := by decide +kernel
theorem dL_isPlan_208 : decode cL_isPlan 208 = .ok (.if_icmp .ne 31, 3) := by decide +kernel
theorem dL_isPlan_211 : decode cL_isPlan 211 = .ok (.aload_n 0, 1) := by decide +kernel
theorem dL_isPlan_212 : decode cL_isPlan 212 = .ok (.invokevirtual 250, 3) := by decide +kernel
theorem dL_isPlan_215 : decode cL_isPlan 215 = .ok (.aload_n 1, 1) := by decide +kernel
theorem dL_isPlan_216 : decode cL_isPlan 216 = .ok (.iconst 4, 1) := by decide +kernel
theorem dL_isPlan_217 : decode cL_isPlan 217 = .ok (.iaload, 1) := by decide +kernel
theorem dL_isPlan_218 : decode cL_isPlan 218 = .ok (.iconst 1, 1) := by decide +kernel
theorem dL_isPlan_219 : decode cL_isPlan 219 = .ok (.if_icmp .ne 12, 3) := by decide +kernel
theorem dL_isPlan_222 : decode cL_isPlan 222 = .ok (.iload 6, 2) := by decide +kernel
theorem dL_isPlan_224 : decode cL_isPlan 224 = .ok (.ifCond .ne 7, 3) := by decide +kernel
theorem dL_isPlan_227 : decode cL_isPlan 227 = .ok (.iconst 1, 1) := by decide +kernel
theorem dL_isPlan_228 : decode cL_isPlan 228 = .ok (.goto 4, 3) := by decide +kernel
theorem dL_isPlan_231 : decode cL_isPlan 231 = .ok (.iconst 0, 1) := by decide +kernel
theorem dL_isPlan_232 : decode cL_isPlan 232 = .ok (.if_icmp .ne 7, 3) := by decide +kernel
theorem dL_isPlan_235 : decode cL_isPlan 235 = .ok (.iconst 1, 1) := by decide +kernel
theorem dL_isPlan_236 : decode cL_isPlan 236 = .ok (.goto 4, 3) := by decide +kernel
theorem dL_isPlan_239 : decode cL_isPlan 239 = .ok (.iconst 0, 1) := by decide +kernel
theorem dL_isPlan_240 : decode cL_isPlan 240 = .ok (.istore 7, 2) := by decide +kernel
theorem dL_isPlan_242 : decode cL_isPlan 242 = .ok (.iload 7, 2) := by decide +kernel
theorem dL_isPlan_244 : decode cL_isPlan 244 = .ok (.ifCond .eq 48, 3) := by decide +kernel
theorem dL_isPlan_247 : decode cL_isPlan 247 = .ok (.aload_n 0, 1) := by decide +kernel
theorem dL_isPlan_248 : decode cL_isPlan 248 = .ok (.invokevirtual 254, 3) := by decide +kernel
theorem dL_isPlan_251 : decode cL_isPlan 251 = .ok (.iload_n 3, 1) := by decide +kernel
theorem dL_isPlan_252 : decode cL_isPlan 252 = .ok (.if_icmp .ne 40, 3) := by decide +kernel
theorem dL_isPlan_255 : decode cL_isPlan 255 = .ok (.aload_n 0, 1) := by decide +kernel
theorem dL_isPlan_256 : decode cL_isPlan 256 = .ok (.invokevirtual 257, 3) := by decide +kernel
theorem dL_isPlan_259 : decode cL_isPlan 259 = .ok (.iload 4, 2) := by decide +kernel
theorem dL_isPlan_261 : decode cL_isPlan 261 = .ok (.if_icmp .ne 31, 3) := by decide +kernel
theorem dL_isPlan_264 : decode cL_isPlan 264 = .ok (.aload_n 0, 1) := by decide +kernel
theorem dL_isPlan_265 : decode cL_isPlan 265 = .ok (.iload_n 2, 1) := by decide +kernel
theorem dL_isPlan_266 : decode cL_isPlan 266 = .ok (.invokestatic 260, 3) := by decide +kernel
theorem dL_isPlan_269 : decode cL_isPlan 269 = .ok (.iload 6, 2) := by decide +kernel
theorem dL_isPlan_271 : decode cL_isPlan 271 = .ok (.ifCond .eq 12, 3) := by decide +kernel
theorem dL_isPlan_274 : decode cL_isPlan 274 = .ok (.aload_n 1, 1) := by decide +kernel
theorem dL_isPlan_275 : decode cL_isPlan 275 = .ok (.bipush 60, 2) := by decide +kernel
theorem dL_isPlan_277 : decode cL_isPlan 277 = .ok (.iload_n 2, 1) := by decide +kernel
theorem dL_isPlan_278 : decode cL_isPlan 278 = .ok (.iadd, 1) := by decide +kernel
theorem dL_isPlan_279 : decode cL_isPlan 279 = .ok (.iaload, 1) := by decide +kernel
theorem dL_isPlan_280 : decode cL_isPlan 280 = .ok (.goto 5, 3) := by decide +kernel
theorem dL_isPlan_283 : decode cL_isPlan 283 = .ok (.ldc 17, 2) := by decide +kernel
theorem dL_isPlan_285 : decode cL_isPlan 285 = .ok (.if_icmp .ne 7, 3) := by decide +kernel
theorem dL_isPlan_288 : decode cL_isPlan 288 = .ok (.iconst 1, 1) := by decide +kernel
theorem dL_isPlan_289 : decode cL_isPlan 289 = .ok (.goto 4, 3) := by decide +kernel
theorem dL_isPlan_292 : decode cL_isPlan 292 = .ok (.iconst 0, 1) := by decide +kernel
theorem dL_isPlan_293 : decode cL_isPlan 293 = .ok (.ireturn, 1) := by decide +kernel
theorem dL_isWeek_0 : decode cL_isWeek 0 = .ok (.aload_n 0, 1) := by decide +kernel
theorem dL_isWeek_1 : decode cL_isWeek 1 = .ok (.iload_n 2, 1) := by decide +kernel
theorem dL_isWeek_2 : decode cL_isWeek 2 = .ok (.invokestatic 262, 3) := by decide +kernel
theorem dL_isWeek_5 : decode cL_isWeek 5 = .ok (.bipush 13, 2) := by decide +kernel
theorem dL_isWeek_7 : decode cL_isWeek 7 = .ok (.if_icmp .eq 5, 3) := by decide +kernel
theorem dL_isWeek_10 : decode cL_isWeek 10 = .ok (.iconst 0, 1) := by decide +kernel
theorem dL_isWeek_11 : decode cL_isWeek 11 = .ok (.ireturn, 1) := by decide +kernel
theorem dL_isWeek_12 : decode cL_isWeek 12 = .ok (.iconst 0, 1) := by decide +kernel
theorem dL_isWeek_13 : decode cL_isWeek 13 = .ok (.istore_n 3, 1) := by decide +kernel
theorem dL_isWeek_14 : decode cL_isWeek 14 = .ok (.iload_n 3, 1) := by decide +kernel
theorem dL_isWeek_15 : decode cL_isWeek 15 = .ok (.bipush 7, 2) := by decide +kernel
theorem dL_isWeek_17 : decode cL_isWeek 17 = .ok (.if_icmp .ge 255, 3) := by decide +kernel
theorem dL_isWeek_20 : decode cL_isWeek 20 = .ok (.iconst 0, 1) := by decide +kernel
theorem dL_isWeek_21 : decode cL_isWeek 21 = .ok (.istore 4, 2) := by decide +kernel
theorem dL_isWeek_23 : decode cL_isWeek 23 = .ok (.iconst 0, 1) := by decide +kernel
theorem dL_isWeek_24 : decode cL_isWeek 24 = .ok (.istore 5, 2) := by decide +kernel
theorem dL_isWeek_26 : decode cL_isWeek 26 = .ok (.iconst 1, 1) := by decide +kernel
theorem dL_isWeek_27 : decode cL_isWeek 27 = .ok (.istore 6, 2) := by decide +kernel
theorem dL_isWeek_29 : decode cL_isWeek 29 = .ok (.iconst (-1), 1) := by decide +kernel
theorem dL_isWeek_30 : decode cL_isWeek 30 = .ok (.istore 7, 2) := by decide +kernel
theorem dL_isWeek_32 : decode cL_isWeek 32 = .ok (.iconst 0, 1) := by decide +kernel
theorem dL_isWeek_33 : decode cL_isWeek 33 = .ok (.istore 8, 2) := by decide +kernel
theorem dL_isWeek_35 : decode cL_isWeek 35 = .ok (.iload 8, 2) := by decide +kernel
theorem dL_isWeek_37 : decode cL_isWeek 37 = .ok (.iconst 5, 1) := by decide +kernel
theorem dL_isWeek_38 : decode cL_isWeek 38 = .ok (.if_icmp .gt 152, 3) := by decide +kernel
theorem dL_isWeek_41 : decode cL_isWeek 41 = .ok (.iconst 0, 1) := by decide +kernel
theorem dL_isWeek_42 : decode cL_isWeek 42 = .ok (.istore 9, 2) := by decide +kernel
theorem dL_isWeek_44 : decode cL_isWeek 44 = .ok (.iconst 0, 1) := by decide +kernel
theorem dL_isWeek_45 : decode cL_isWeek 45 = .ok (.istore 10, 2) := by decide +kernel
theorem dL_isWeek_47 : decode cL_isWeek 47 = .ok (.iload 10, 2) := by decide +kernel
theorem dL_isWeek_49 : decode cL_isWeek 49 = .ok (.aload_n 1, 1) := by decide +kernel
theorem dL_isWeek_50 : decode cL_isWeek 50 = .ok (.iconst 2, 1) := by decide +kernel
theorem dL_isWeek_51 : decode cL_isWeek 51 = .ok (.iaload, 1) := by decide +kernel
theorem dL_isWeek_52 : decode cL_isWeek 52 = .ok (.if_icmp .ge 93, 3) := by decide +kernel
theorem dL_isWeek_55 : decode cL_isWeek 55 = .ok (.aload_n 1, 1) := by decide +kernel
theorem dL_isWeek_56 : decode cL_isWeek 56 = .ok (.bipush 101, 2) := by decide +kernel
theorem dL_isWeek_58 : decode cL_isWeek 58 = .ok (.bipush 20, 2) := by decide +kernel
theorem dL_isWeek_60 : decode cL_isWeek 60 = .ok (.iload 10, 2) := by decide +kernel
theorem dL_isWeek_62 : decode cL_isWeek 62 = .ok (.imul, 1) := by decide +kernel
theorem dL_isWeek_63 : decode cL_isWeek 63 = .ok (.iadd, 1) := by decide +kernel
theorem dL_isWeek_64 : decode cL_isWeek 64 = .ok (.iaload, 1) := by decide +kernel
theorem dL_isWeek_65 : decode cL_isWeek 65 = .ok (.iload_n 2, 1) := by decide +kernel
theorem dL_isWeek_66 : decode cL_isWeek 66 = .ok (.iload_n 3, 1) := by decide +kernel
theorem dL_isWeek_67 : decode cL_isWeek 67 = .ok (.iadd, 1) := by decide +kernel
theorem dL_isWeek_68 : decode cL_isWeek 68 = .ok (.if_icmp .ne 7, 3) := by decide +kernel
theorem dL_isWeek_71 : decode cL_isWeek 71 = .ok (.iconst 1, 1) := by decide +kernel
theorem dL_isWeek_72 : decode cL_isWeek 72 = .ok (.goto 4, 3) := by decide +kernel
theorem dL_isWeek_75 : decode cL_isWeek 75 = .ok (.iconst 0, 1) := by decide +kernel
theorem dL_isWeek_76 : decode cL_isWeek 76 = .ok (.istore 11, 2) := by decide +kernel
theorem dL_isWeek_78 : decode cL_isWeek 78 = .ok (.iload 9, 2) := by decide +kernel
theorem dL_isWeek_80 : decode cL_isWeek 80 = .ok (.iload 11, 2) := by decide +kernel
theorem dL_isWeek_82 : decode cL_isWeek 82 = .ok (.ifCond .eq 14, 3) := by decide +kernel
theorem dL_isWeek_85 : decode cL_isWeek 85 = .ok (.aload_n 1, 1) := by decide +kernel
theorem dL_isWeek_86 : decode cL_isWeek 86 = .ok (.iload 10, 2) := by decide +kernel
theorem dL_isWeek_88 : decode cL_isWeek 88 = .ok (.iload 8, 2) := by decide +kernel
theorem dL_isWeek_90 : decode cL_isWeek 90 = .ok (.invokestatic 212, 3) := by decide +kernel
theorem dL_isWeek_93 : decode cL_isWeek 93 = .ok (.goto 4, 3) := by decide +kernel
theorem dL_isWeek_96 : decode cL_isWeek 96 = .ok (.iconst 0, 1) := by decide +kernel
theorem dL_isWeek_97 : decode cL_isWeek 97 = .ok (.iadd, 1) := by decide +kernel
theorem dL_isWeek_98 : decode cL_isWeek 98 = .ok (.istore 9, 2) := by decide +kernel
theorem dL_isWeek_100 : decode cL_isWeek 100 = .ok (.iload 4, 2) := by decide +kernel
theorem dL_isWeek_102 : decode cL_isWeek 102 = .ok (.iload 11, 2) := by decide +kernel
theorem dL_isWeek_104 : decode cL_isWeek 104 = .ok (.ifCond .eq 7, 3) := by decide +kernel
theorem dL_isWeek_107 : decode cL_isWeek 107 = .ok (.iconst 1, 1) := by decide +kernel
theorem dL_isWeek_108 : decode cL_isWeek 108 = .ok (.goto 4, 3) := by decide +kernel
theorem dL_isWeek_111 : decode cL_isWeek 111 = .ok (.iconst 0, 1) := by decide +kernel
theorem dL_isWeek_112 : decode cL_isWeek 112 = .ok (.iadd, 1) := by decide +kernel
theorem dL_isWeek_113 : decode cL_isWeek 113 = .ok (.istore 4, 2) := by decide +kernel
theorem dL_isWeek_115 : decode cL_isWeek 115 = .ok (.iload 5, 2) := by decide +kernel
theorem dL_isWeek_117 : decode cL_isWeek 117 = .ok (.iload 11, 2) := by decide +kernel
theorem dL_isWeek_119 : decode cL_isWeek 119 = .ok (.ifCond .eq 16, 3) := by decide +kernel
theorem dL_isWeek_122 : decode cL_isWeek 122 = .ok (.aload_n 1, 1) := by decide +kernel
theorem dL_isWeek_123 : decode cL_isWeek 123 = .ok (.bipush 102, 2) := by decide +kernel
theorem dL_isWeek_125 : decode cL_isWeek 125 = .ok (.bipush 20, 2) := by decide +kernel
theorem dL_isWeek_127 : decode cL_isWeek 127 = .ok (.iload 10, 2) := by decide +kernel
theorem dL_isWeek_129 : decode cL_isWeek 129 = .ok (.imul, 1) := by decide +kernel
theorem dL_isWeek_130 : decode cL_isWeek 130 = .ok (.iadd, 1) := by decide +kernel
theorem dL_isWeek_131 : decode cL_isWeek 131 = .ok (.iaload, 1) := by decide +kernel
theorem dL_isWeek_132 : decode cL_isWeek 132 = .ok (.goto 4, 3) := by decide +kernel
theorem dL_isWeek_135 : decode cL_isWeek 135 = .ok (.iconst 0, 1) := by decide +kernel
theorem dL_isWeek_136 : decode cL_isWeek 136 = .ok (.iadd, 1) := by decide +kernel
theorem dL_isWeek_137 : decode cL_isWeek 137 = .ok (.istore 5, 2) := by decide +kernel
theorem dL_isWeek_139 : decode cL_isWeek 139 = .ok (.iinc 10 1, 3) := by decide +kernel
theorem dL_isWeek_142 : decode cL_isWeek 142 = .ok (.goto (-95), 3) := by decide +kernel
theorem dL_isWeek_145 : decode cL_isWeek 145 = .ok (.iload 8, 2) := by decide +kernel
theorem dL_isWeek_147 : decode cL_isWeek 147 = .ok (.ifCond .le 15, 3) := by decide +kernel
theorem dL_isWeek_150 : decode cL_isWeek 150 = .ok (.iload 9, 2) := by decide +kernel
theorem dL_isWeek_152 : decode cL_isWeek 152 = .ok (.iload 7, 2) := by decide +kernel
theorem dL_isWeek_154 : decode cL_isWeek 154 = .ok (.if_icmp .le 8, 3) := by decide +kernel
theorem dL_isWeek_157 : decode cL_isWeek 157 = .ok (.iload 8, 2) := by decide +kernel
theorem dL_isWeek_159 : decode cL_isWeek 159 = .ok (.goto 5, 3) := by decide +kernel
theorem dL_isWeek_162 : decode cL_isWeek 162 = .ok (.iload 6, 2) := by decide +kernel
theorem dL_isWeek_164 : decode cL_isWeek 164 = .ok (.istore 6, 2) := by decide +kernel
theorem dL_isWeek_166 : decode cL_isWeek 166 = .ok (.iload 8, 2) := by decide +kernel
theorem dL_isWeek_168 : decode cL_isWeek 168 = .ok (.ifCond .le 13, 3) := by decide +kernel
theorem dL_isWeek_171 : decode cL_isWeek 171 = .ok (.iload 7, 2) := by decide +kernel
theorem dL_isWeek_173 : decode cL_isWeek 173 = .ok (.iload 9, 2) := by decide +kernel
theorem dL_isWeek_175 : decode cL_isWeek 175 = .ok (.invokestatic 264, 3) := by decide +kernel
theorem dL_isWeek_178 : decode cL_isWeek 178 = .ok (.goto 4, 3) := by decide +kernel
theorem dL_isWeek_181 : decode cL_isWeek 181 = .ok (.iconst (-1), 1) := by decide +kernel
theorem dL_isWeek_182 : decode cL_isWeek 182 = .ok (.istore 7, 2) := by decide +kernel
theorem dL_isWeek_184 : decode cL_isWeek 184 = .ok (.iinc 8 1, 3) := by decide +kernel
theorem dL_isWeek_187 : decode cL_isWeek 187 = .ok (.goto (-152), 3) := by decide +kernel
theorem dL_isWeek_190 : decode cL_isWeek 190 = .ok (.iload_n 2, 1) := by decide +kernel
theorem dL_isWeek_191 : decode cL_isWeek 191 = .ok (.iload_n 3, 1) := by decide +kernel
theorem dL_isWeek_192 : decode cL_isWeek 192 = .ok (.iadd, 1) := by decide +kernel
theorem dL_isWeek_193 : decode cL_isWeek 193 = .ok (.aload_n 1, 1) := by decide +kernel
theorem dL_isWeek_194 : decode cL_isWeek 194 = .ok (.iconst 0, 1) := by decide +kernel
theorem dL_isWeek_195 : decode cL_isWeek 195 = .ok (.iaload, 1) := by decide +kernel
theorem dL_isWeek_196 : decode cL_isWeek 196 = .ok (.if_icmp .le 8, 3) := by decide +kernel
theorem dL_isWeek_199 : decode cL_isWeek 199 = .ok (.bipush 45, 2) := by decide +kernel
theorem dL_isWeek_201 : decode cL_isWeek 201 = .ok (.goto 29, 3) := by decide +kernel
theorem dL_isWeek_204 : decode cL_isWeek 204 = .ok (.iload 4, 2) := by decide +kernel
theorem dL_isWeek_206 : decode cL_isWeek 206 = .ok (.ifCond .ne 8, 3) := by decide +kernel
theorem dL_isWeek_209 : decode cL_isWeek 209 = .ok (.bipush 46, 2) := by decide +kernel
theorem dL_isWeek_211 : decode cL_isWeek 211 = .ok (.goto 19, 3) := by decide +kernel
theorem dL_isWeek_214 : decode cL_isWeek 214 = .ok (.iload 5, 2) := by decide +kernel
theorem dL_isWeek_216 : decode cL_isWeek 216 = .ok (.ifCond .ne 8, 3) := by decide +kernel
theorem dL_isWeek_219 : decode cL_isWeek 219 = .ok (.bipush 48, 2) := by decide +kernel
theorem dL_isWeek_221 : decode cL_isWeek 221 = .ok (.goto 9, 3) := by decide +kernel
theorem dL_isWeek_224 : decode cL_isWeek 224 = .ok (.bipush 48, 2) := by decide +kernel
theorem dL_isWeek_226 : decode cL_isWeek 226 = .ok (.iload 6, 2) := by decide +kernel
theorem dL_isWeek_228 : decode cL_isWeek 228 = .ok (.iadd, 1) := by decide +kernel
theorem dL_isWeek_229 : decode cL_isWeek 229 = .ok (.i2c, 1) := by decide +kernel
theorem dL_isWeek_230 : decode cL_isWeek 230 = .ok (.istore 8, 2) := by decide +kernel
theorem dL_isWeek_232 : decode cL_isWeek 232 = .ok (.aload_n 0, 1) := by decide +kernel
theorem dL_isWeek_233 : decode cL_isWeek 233 = .ok (.iconst 2, 1) := by decide +kernel
theorem dL_isWeek_234 : decode cL_isWeek 234 = .ok (.iload_n 3, 1) := by decide +kernel
theorem dL_isWeek_235 : decode cL_isWeek 235 = .ok (.imul, 1) := by decide +kernel
theorem dL_isWeek_236 : decode cL_isWeek 236 = .ok (.invokestatic 267, 3) := by decide +kernel
theorem dL_isWeek_239 : decode cL_isWeek 239 = .ok (.iload 8, 2) := by decide +kernel
theorem dL_isWeek_241 : decode cL_isWeek 241 = .ok (.if_icmp .ne 23, 3) := by decide +kernel
theorem dL_isWeek_244 : decode cL_isWeek 244 = .ok (.iload_n 3, 1) := by decide +kernel
theorem dL_isWeek_245 : decode cL_isWeek 245 = .ok (.bipush 6, 2) := by decide +kernel
theorem dL_isWeek_247 : decode cL_isWeek 247 = .ok (.if_icmp .ge 19, 3) := by decide +kernel
theorem dL_isWeek_250 : decode cL_isWeek 250 = .ok (.aload_n 0, 1) := by decide +kernel
theorem dL_isWeek_251 : decode cL_isWeek 251 = .ok (.iconst 2, 1) := by decide +kernel
theorem dL_isWeek_252 : decode cL_isWeek 252 = .ok (.iload_n 3, 1) := by decide +kernel
theorem dL_isWeek_253 : decode cL_isWeek 253 = .ok (.imul, 1) := by decide +kernel
theorem dL_isWeek_254 : decode cL_isWeek 254 = .ok (.iconst 1, 1) := by decide +kernel
theorem dL_isWeek_255 : decode cL_isWeek 255 = .ok (.iadd, 1) := by decide +kernel
theorem dL_isWeek_256 : decode cL_isWeek 256 = .ok (.invokestatic 267, 3) := by decide +kernel
theorem dL_isWeek_259 : decode cL_isWeek 259 = .ok (.bipush 32, 2) := by decide +kernel
theorem dL_isWeek_261 : decode cL_isWeek 261 = .ok (.if_icmp .eq 5, 3) := by decide +kernel
theorem dL_isWeek_264 : decode cL_isWeek 264 = .ok (.iconst 0, 1) := by decide +kernel
theorem dL_isWeek_265 : decode cL_isWeek 265 = .ok (.ireturn, 1) := by decide +kernel
theorem dL_isWeek_266 : decode cL_isWeek 266 = .ok (.iinc 3 1, 3) := by decide +kernel
theorem dL_isWeek_269 : decode cL_isWeek 269 = .ok (.goto (-255), 3) := by decide +kernel
theorem dL_isWeek_272 : decode cL_isWeek 272 = .ok (.aload_n 0, 1) := by decide +kernel
theorem dL_isWeek_273 : decode cL_isWeek 273 = .ok (.bipush 13, 2) := by decide +kernel
theorem dL_isWeek_275 : decode cL_isWeek 275 = .ok (.invokestatic 267, 3) := by decide +kernel
theorem dL_isWeek_278 : decode cL_isWeek 278 = .ok (.ldc 17, 2) := by decide +kernel
theorem dL_isWeek_280 : decode cL_isWeek 280 = .ok (.if_icmp .ne 7, 3) := by decide +kernel
theorem dL_isWeek_283 : decode cL_isWeek 283 = .ok (.iconst 1, 1) := by decide +kernel
theorem dL_isWeek_284 : decode cL_isWeek 284 = .ok (.goto 4, 3) := by decide +kernel
theorem dL_isWeek_287 : decode cL_isWeek 287 = .ok (.iconst 0, 1) := by decide +kernel
theorem dL_isWeek_288 : decode cL_isWeek 288 = .ok (.ireturn, 1) := by decide +kernel
theorem dL_law_0 : decode cL_law 0 = .ok (.invokestatic 269, 3) := by decide +kernel
theorem dL_law_3 : decode cL_law 3 = .ok (.astore_n 1, 1) := by decide +kernel
theorem dL_law_4 : decode cL_law 4 = .ok (.aconst_null, 1) := by decide +kernel
theorem dL_law_5 : decode cL_law 5 = .ok (.astore_n 2, 1) := by decide +kernel
theorem dL_law_6 : decode cL_law 6 = .ok (.bipush 7, 2) := by decide +kernel
theorem dL_law_8 : decode cL_law 8 = .ok (.iconst 1, 1) := by decide +kernel
theorem dL_law_9 : decode cL_law 9 = .ok (.multianewarray 273 2, 4) := by decide +kernel
theorem dL_law_13 : decode cL_law 13 = .ok (.astore_n 3, 1) := by decide +kernel
theorem dL_law_14 : decode cL_law 14 = .ok (.new 10, 3) := by decide +kernel
theorem dL_law_17 : decode cL_law 17 = .ok (.dup, 1) := by decide +kernel
theorem dL_law_18 : decode cL_law 18 = .ok (.invokespecial 275, 3) := by decide +kernel
theorem dL_law_21 : decode cL_law 21 = .ok (.astore 4, 2) := by decide +kernel
theorem dL_law_23 : decode cL_law 23 = .ok (.aload 4, 2) := by decide +kernel
theorem dL_law_25 : decode cL_law 25 = .ok (.iconst 0, 1) := by decide +kernel
theorem dL_law_26 : decode cL_law 26 = .ok (.invokestatic 267, 3) := by decide +kernel
theorem dL_law_29 : decode cL_law 29 = .ok (.ldc 17, 2) := by decide +kernel
theorem dL_law_31 : decode cL_law 31 = .ok (.if_icmp .ne 56, 3) := by decide +kernel
theorem dL_law_34 : decode cL_law 34 = .ok (.aload 4, 2) := by decide +kernel
theorem dL_law_36 : decode cL_law 36 = .ok (.invokestatic 276, 3) := by decide +kernel
theorem dL_law_39 : decode cL_law 39 = .ok (.ldc 17, 2) := by decide +kernel
theorem dL_law_41 : decode cL_law 41 = .ok (.if_icmp .ne 46, 3) := by decide +kernel
theorem dL_law_44 : decode cL_law 44 = .ok (.aload 4, 2) := by decide +kernel
theorem dL_law_46 : decode cL_law 46 = .ok (.invokestatic 278, 3) := by decide +kernel
theorem dL_law_49 : decode cL_law 49 = .ok (.ldc 17, 2) := by decide +kernel
theorem dL_law_51 : decode cL_law 51 = .ok (.if_icmp .ne 36, 3) := by decide +kernel
theorem dL_law_54 : decode cL_law 54 = .ok (.aload 4, 2) := by decide +kernel
theorem dL_law_56 : decode cL_law 56 = .ok (.invokestatic 245, 3) := by decide +kernel
theorem dL_law_59 : decode cL_law 59 = .ok (.ldc 17, 2) := by decide +kernel
theorem dL_law_61 : decode cL_law 61 = .ok (.if_icmp .ne 26, 3) := by decide +kernel
theorem dL_law_64 : decode cL_law 64 = .ok (.aload 4, 2) := by decide +kernel
theorem dL_law_66 : decode cL_law 66 = .ok (.iconst 0, 1) := by decide +kernel
theorem dL_law_67 : decode cL_law 67 = .ok (.invokestatic 260, 3) := by decide +kernel
theorem dL_law_70 : decode cL_law 70 = .ok (.ldc 17, 2) := by decide +kernel
theorem dL_law_72 : decode cL_law 72 = .ok (.if_icmp .ne 15, 3) := by decide +kernel
theorem dL_law_75 : decode cL_law 75 = .ok (.aload 4, 2) := by decide +kernel
theorem dL_law_77 : decode cL_law 77 = .ok (.invokevirtual 250, 3) := by decide +kernel
theorem dL_law_80 : decode cL_law 80 = .ok (.ifCond .ne 7, 3) := by decide +kernel
theorem dL_law_83 : decode cL_law 83 = .ok (.iconst 1, 1) := by decide +kernel
theorem dL_law_84 : decode cL_law 84 = .ok (.goto 4, 3) := by decide +kernel
theorem dL_law_87 : decode cL_law 87 = .ok (.iconst 0, 1) := by decide +kernel
theorem dL_law_88 : decode cL_law 88 = .ok (.istore 5, 2) := by decide +kernel
theorem dL_law_90 : decode cL_law 90 = .ok (.iconst 0, 1) := by decide +kernel
theorem dL_law_91 : decode cL_law 91 = .ok (.istore 6, 2) := by decide +kernel
theorem dL_law_93 : decode cL_law 93 = .ok (.iload 6, 2) := by decide +kernel
theorem dL_law_95 : decode cL_law 95 = .ok (.bipush 40, 2) := by decide +kernel
theorem dL_law_97 : decode cL_law 97 = .ok (.if_icmp .ge 412, 3) := by decide +kernel
theorem dL_law_100 : decode cL_law 100 = .ok (.bipush 8, 2) := by decide +kernel
theorem dL_law_102 : decode cL_law 102 = .ok (.iload 6, 2) := by decide +kernel
theorem dL_law_104 : decode cL_law 104 = .ok (.imul, 1) := by decide +kernel
theorem dL_law_105 : decode cL_law 105 = .ok (.istore 7, 2) := by decide +kernel
theorem dL_law_107 : decode cL_law 107 = .ok (.aload_n 0, 1) := by decide +kernel
theorem dL_law_108 : decode cL_law 108 = .ok (.iload 7, 2) := by decide +kernel
theorem dL_law_110 : decode cL_law 110 = .ok (.bipush 6, 2) := by decide +kernel
theorem dL_law_112 : decode cL_law 112 = .ok (.iadd, 1) := by decide +kernel
theorem dL_law_113 : decode cL_law 113 = .ok (.bipush 14, 2) := by decide +kernel
theorem dL_law_115 : decode cL_law 115 = .ok (.invokestatic 149, 3) := by decide +kernel
theorem dL_law_118 : decode cL_law 118 = .ok (.istore 8, 2) := by decide +kernel
theorem dL_law_120 : decode cL_law 120 = .ok (.iload 8, 2) := by decide +kernel
theorem dL_law_122 : decode cL_law 122 = .ok (.ifCond .ne 36, 3) := by decide +kernel
theorem dL_law_125 : decode cL_law 125 = .ok (.aload_n 2, 1) := by decide +kernel
theorem dL_law_126 : decode cL_law 126 = .ok (.ifnonnull 32, 3) := by decide +kernel
theorem dL_law_129 : decode cL_law 129 = .ok (.aload_n 1, 1) := by decide +kernel
theorem dL_law_130 : decode cL_law 130 = .ok (.invokestatic 136, 3) := by decide +kernel
theorem dL_law_133 : decode cL_law 133 = .ok (.astore_n 2, 1) := by decide +kernel
theorem dL_law_134 : decode cL_law 134 = .ok (.iload 5, 2) := by decide +kernel
theorem dL_law_136 : decode cL_law 136 = .ok (.aload 4, 2) := by decide +kernel
theorem dL_law_138 : decode cL_law 138 = .ok (.invokevirtual 280, 3) := by decide +kernel
theorem dL_law_141 : decode cL_law 141 = .ok (.aload_n 1, 1) := by decide +kernel
theorem dL_law_142 : decode cL_law 142 = .ok (.iconst 2, 1) := by decide +kernel
theorem dL_law_143 : decode cL_law 143 = .ok (.iaload, 1) := by decide +kernel
theorem dL_law_144 : decode cL_law 144 = .ok (.if_icmp .ne 7, 3) := by decide +kernel
theorem dL_law_147 : decode cL_law 147 = .ok (.iconst 1, 1) := by decide +kernel
theorem dL_law_148 : decode cL_law 148 = .ok (.goto 4, 3) := by decide +kernel
theorem dL_law_151 : decode cL_law 151 = .ok (.iconst 0, 1) := by decide +kernel
theorem dL_law_152 : decode cL_law 152 = .ok (.iand, 1) := by decide +kernel
theorem dL_law_153 : decode cL_law 153 = .ok (.istore 5, 2) := by decide +kernel
theorem dL_law_155 : decode cL_law 155 = .ok (.goto 210, 3) := by decide +kernel
theorem dL_law_158 : decode cL_law 158 = .ok (.iload 8, 2) := by decide +kernel
theorem dL_law_160 : decode cL_law 160 = .ok (.ifCond .ne 58, 3) := by decide +kernel
theorem dL_law_163 : decode cL_law 163 = .ok (.iconst 0, 1) := by decide +kernel
theorem dL_law_164 : decode cL_law 164 = .ok (.istore 9, 2) := by decide +kernel
theorem dL_law_166 : decode cL_law 166 = .ok (.iload 9, 2) := by decide +kernel
theorem dL_law_168 : decode cL_law 168 = .ok (.aload_n 1, 1) := by decide +kernel
theorem dL_law_169 : decode cL_law 169 = .ok (.arraylength, 1) := by decide +kernel
theorem dL_law_170 : decode cL_law 170 = .ok (.if_icmp .ge 17, 3) := by decide +kernel
theorem dL_law_173 : decode cL_law 173 = .ok (.aload_n 1, 1) := by decide +kernel
theorem dL_law_174 : decode cL_law 174 = .ok (.iload 9, 2) := by decide +kernel
theorem dL_law_176 : decode cL_law 176 = .ok (.aload_n 2, 1) := by decide +kernel
theorem dL_law_177 : decode cL_law 177 = .ok (.iload 9, 2) := by decide +kernel
theorem dL_law_179 : decode cL_law 179 = .ok (.iaload, 1) := by decide +kernel
theorem dL_law_180 : decode cL_law 180 = .ok (.iastore, 1) := by decide +kernel
theorem dL_law_181 : decode cL_law 181 = .ok (.iinc 9 1, 3) := by decide +kernel
theorem dL_law_184 : decode cL_law 184 = .ok (.goto (-18), 3) := by decide +kernel
theorem dL_law_187 : decode cL_law 187 = .ok (.aload_n 3, 1) := by decide +kernel
theorem dL_law_188 : decode cL_law 188 = .ok (.bipush 6, 2) := by decide +kernel
theorem dL_law_190 : decode cL_law 190 = .ok (.aaload, 1) := by decide +kernel
theorem dL_law_191 : decode cL_law 191 = .ok (.iconst 0, 1) := by decide +kernel
theorem dL_law_192 : decode cL_law 192 = .ok (.iconst 0, 1) := by decide +kernel
theorem dL_law_193 : decode cL_law 193 = .ok (.iastore, 1) := by decide +kernel
theorem dL_law_194 : decode cL_law 194 = .ok (.iload 5, 2) := by decide +kernel
theorem dL_law_196 : decode cL_law 196 = .ok (.aload 4, 2) := by decide +kernel
theorem dL_law_198 : decode cL_law 198 = .ok (.invokestatic 278, 3) := by decide +kernel
theorem dL_law_201 : decode cL_law 201 = .ok (.aload_n 1, 1) := by decide +kernel
theorem dL_law_202 : decode cL_law 202 = .ok (.iconst 2, 1) := by decide +kernel
theorem dL_law_203 : decode cL_law 203 = .ok (.iaload, 1) := by decide +kernel
theorem dL_law_204 : decode cL_law 204 = .ok (.if_icmp .ne 7, 3) := by decide +kernel
theorem dL_law_207 : decode cL_law 207 = .ok (.iconst 1, 1) := by decide +kernel
theorem dL_law_208 : decode cL_law 208 = .ok (.goto 4, 3) := by decide +kernel
theorem dL_law_211 : decode cL_law 211 = .ok (.iconst 0, 1) := by decide +kernel
theorem dL_law_212 : decode cL_law 212 = .ok (.iand, 1) := by decide +kernel
theorem dL_law_213 : decode cL_law 213 = .ok (.istore 5, 2) := by decide +kernel
theorem dL_law_215 : decode cL_law 215 = .ok (.goto 150, 3) := by decide +kernel
theorem dL_law_218 : decode cL_law 218 = .ok (.iload 8, 2) := by decide +kernel
theorem dL_law_220 : decode cL_law 220 = .ok (.iconst 3, 1) := by decide +kernel
theorem dL_law_221 : decode cL_law 221 = .ok (.if_icmp .ge 35, 3) := by decide +kernel
theorem dL_law_224 : decode cL_law 224 = .ok (.aload_n 3, 1) := by decide +kernel
theorem dL_law_225 : decode cL_law 225 = .ok (.bipush 6, 2) := by decide +kernel
theorem dL_law_227 : decode cL_law 227 = .ok (.aaload, 1) := by decide +kernel
theorem dL_law_228 : decode cL_law 228 = .ok (.iconst 0, 1) := by decide +kernel
theorem dL_law_229 : decode cL_law 229 = .ok (.iaload, 1) := by decide +kernel
theorem dL_law_230 : decode cL_law 230 = .ok (.ifCond .ne 26, 3) := by decide +kernel
theorem dL_law_233 : decode cL_law 233 = .ok (.iload 5, 2) := by decide +kernel
theorem dL_law_235 : decode cL_law 235 = .ok (.aload 4, 2) := by decide +kernel
theorem dL_law_237 : decode cL_law 237 = .ok (.invokestatic 276, 3) := by decide +kernel
theorem dL_law_240 : decode cL_law 240 = .ok (.ldc 17, 2) := by decide +kernel
theorem dL_law_242 : decode cL_law 242 = .ok (.if_icmp .ne 7, 3) := by decide +kernel
theorem dL_law_245 : decode cL_law 245 = .ok (.iconst 1, 1) := by decide +kernel
theorem dL_law_246 : decode cL_law 246 = .ok (.goto 4, 3) := by decide +kernel
theorem dL_law_249 : decode cL_law 249 = .ok (.iconst 0, 1) := by decide +kernel
theorem dL_law_250 : decode cL_law 250 = .ok (.iand, 1) := by decide +kernel
theorem dL_law_251 : decode cL_law 251 = .ok (.istore 5, 2) := by decide +kernel
theorem dL_law_253 : decode cL_law 253 = .ok (.goto 112, 3) := by decide +kernel
theorem dL_law_256 : decode cL_law 256 = .ok (.iload 8, 2) := by decide +kernel
theorem dL_law_258 : decode cL_law 258 = .ok (.iconst 3, 1) := by decide +kernel
theorem dL_law_259 : decode cL_law 259 = .ok (.if_icmp .ge 91, 3) := by decide +kernel
theorem dL_law_262 : decode cL_law 262 = .ok (.iconst 0, 1) := by decide +kernel
theorem dL_law_263 : decode cL_law 263 = .ok (.istore 9, 2) := by decide +kernel
theorem dL_law_265 : decode cL_law 265 = .ok (.iload 9, 2) := by decide +kernel
theorem dL_law_267 : decode cL_law 267 = .ok (.aload_n 1, 1) := by decide +kernel
theorem dL_law_268 : decode cL_law 268 = .ok (.arraylength, 1) := by decide +kernel
theorem dL_law_269 : decode cL_law 269 = .ok (.if_icmp .ge 19, 3) := by decide +kernel
theorem dL_law_272 : decode cL_law 272 = .ok (.aload_n 1, 1) := by decide +kernel
theorem dL_law_273 : decode cL_law 273 = .ok (.iload 9, 2) := by decide +kernel
theorem dL_law_275 : decode cL_law 275 = .ok (.aload_n 3, 1) := by decide +kernel
theorem dL_law_276 : decode cL_law 276 = .ok (.iconst 0, 1) := by decide +kernel
theorem dL_law_277 : decode cL_law 277 = .ok (.aaload, 1) := by decide +kernel
theorem dL_law_278 : decode cL_law 278 = .ok (.iload 9, 2) := by decide +kernel
theorem dL_law_280 : decode cL_law 280 = .ok (.iaload, 1) := by decide +kernel
theorem dL_law_281 : decode cL_law 281 = .ok (.iastore, 1) := by decide +kernel
theorem dL_law_282 : decode cL_law 282 = .ok (.iinc 9 1, 3) := by decide +kernel
theorem dL_law_285 : decode cL_law 285 = .ok (.goto (-20), 3) := by decide +kernel
theorem dL_law_288 : decode cL_law 288 = .ok (.iconst 0, 1) := by decide +kernel
theorem dL_law_289 : decode cL_law 289 = .ok (.istore 9, 2) := by decide +kernel
theorem dL_law_291 : decode cL_law 291 = .ok (.iload 9, 2) := by decide +kernel
theorem dL_law_293 : decode cL_law 293 = .ok (.iconst 5, 1) := by decide +kernel
theorem dL_law_294 : decode cL_law 294 = .ok (.if_icmp .ge 19, 3) := by decide +kernel
theorem dL_law_297 : decode cL_law 297 = .ok (.aload_n 3, 1) := by decide +kernel
theorem dL_law_298 : decode cL_law 298 = .ok (.iload 9, 2) := by decide +kernel
theorem dL_law_300 : decode cL_law 300 = .ok (.aload_n 3, 1) := by decide +kernel
theorem dL_law_301 : decode cL_law 301 = .ok (.iload 9, 2) := by decide +kernel
theorem dL_law_303 : decode cL_law 303 = .ok (.iconst 1, 1) := by decide +kernel
theorem dL_law_304 : decode cL_law 304 = .ok (.iadd, 1) := by decide +kernel
theorem dL_law_305 : decode cL_law 305 = .ok (.aaload, 1) := by decide +kernel
theorem dL_law_306 : decode cL_law 306 = .ok (.aastore, 1) := by decide +kernel
theorem dL_law_307 : decode cL_law 307 = .ok (.iinc 9 1, 3) := by decide +kernel
theorem dL_law_310 : decode cL_law 310 = .ok (.goto (-19), 3) := by decide +kernel
theorem dL_law_313 : decode cL_law 313 = .ok (.aload_n 3, 1) := by decide +kernel
theorem dL_law_314 : decode cL_law 314 = .ok (.bipush 6, 2) := by decide +kernel
theorem dL_law_316 : decode cL_law 316 = .ok (.aaload, 1) := by decide +kernel
theorem dL_law_317 : decode cL_law 317 = .ok (.iconst 0, 1) := by decide +kernel
theorem dL_law_318 : decode cL_law 318 = .ok (.dup2, 1) := by decide +kernel
theorem dL_law_319 : decode cL_law 319 = .ok (.iaload, 1) := by decide +kernel
theorem dL_law_320 : decode cL_law 320 = .ok (.iconst 1, 1) := by decide +kernel
theorem dL_law_321 : decode cL_law 321 = .ok (.isub, 1) := by decide +kernel
theorem dL_law_322 : decode cL_law 322 = .ok (.iastore, 1) := by decide +kernel
theorem dL_law_323 : decode cL_law 323 = .ok (.iload 5, 2) := by decide +kernel
theorem dL_law_325 : decode cL_law 325 = .ok (.aload 4, 2) := by decide +kernel
theorem dL_law_327 : decode cL_law 327 = .ok (.invokestatic 276, 3) := by decide +kernel
theorem dL_law_330 : decode cL_law 330 = .ok (.aload_n 3, 1) := by decide +kernel
theorem dL_law_331 : decode cL_law 331 = .ok (.bipush 6, 2) := by decide +kernel
theorem dL_law_333 : decode cL_law 333 = .ok (.aaload, 1) := by decide +kernel
theorem dL_law_334 : decode cL_law 334 = .ok (.iconst 0, 1) := by decide +kernel
theorem dL_law_335 : decode cL_law 335 = .ok (.iaload, 1) := by decide +kernel
theorem dL_law_336 : decode cL_law 336 = .ok (.if_icmp .ne 7, 3) := by decide +kernel
theorem dL_law_339 : decode cL_law 339 = .ok (.iconst 1, 1) := by decide +kernel
theorem dL_law_340 : decode cL_law 340 = .ok (.goto 4, 3) := by decide +kernel
theorem dL_law_343 : decode cL_law 343 = .ok (.iconst 0, 1) := by decide +kernel
theorem dL_law_344 : decode cL_law 344 = .ok (.iand, 1) := by decide +kernel
theorem dL_law_345 : decode cL_law 345 = .ok (.istore 5, 2) := by decide +kernel
theorem dL_law_347 : decode cL_law 347 = .ok (.goto 18, 3) := by decide +kernel
theorem dL_law_350 : decode cL_law 350 = .ok (.iload 5, 2) := by decide +kernel
theorem dL_law_352 : decode cL_law 352 = .ok (.aload 4, 2) := by decide +kernel
theorem dL_law_354 : decode cL_law 354 = .ok (.aload_n 1, 1) := by decide +kernel
theorem dL_law_355 : decode cL_law 355 = .ok (.aload_n 3, 1) := by decide +kernel
theorem dL_law_356 : decode cL_law 356 = .ok (.aload_n 0, 1) := by decide +kernel
theorem dL_law_357 : decode cL_law 357 = .ok (.iload 7, 2) := by decide +kernel
theorem dL_law_359 : decode cL_law 359 = .ok (.invokestatic 283, 3) := by decide +kernel
theorem dL_law_362 : decode cL_law 362 = .ok (.iand, 1) := by decide +kernel
theorem dL_law_363 : decode cL_law 363 = .ok (.istore 5, 2) := by decide +kernel
theorem dL_law_365 : decode cL_law 365 = .ok (.aload_n 0, 1) := by decide +kernel
theorem dL_law_366 : decode cL_law 366 = .ok (.iload 7, 2) := by decide +kernel
theorem dL_law_368 : decode cL_law 368 = .ok (.bipush 7, 2) := by decide +kernel
theorem dL_law_370 : decode cL_law 370 = .ok (.iadd, 1) := by decide +kernel
theorem dL_law_371 : decode cL_law 371 = .ok (.aload_n 1, 1) := by decide +kernel
theorem dL_law_372 : decode cL_law 372 = .ok (.iconst 0, 1) := by decide +kernel
theorem dL_law_373 : decode cL_law 373 = .ok (.iaload, 1) := by decide +kernel
theorem dL_law_374 : decode cL_law 374 = .ok (.iconst 1, 1) := by decide +kernel
theorem dL_law_375 : decode cL_law 375 = .ok (.iadd, 1) := by decide +kernel
theorem dL_law_376 : decode cL_law 376 = .ok (.invokestatic 149, 3) := by decide +kernel
theorem dL_law_379 : decode cL_law 379 = .ok (.istore 9, 2) := by decide +kernel
theorem dL_law_381 : decode cL_law 381 = .ok (.aload_n 0, 1) := by decide +kernel
theorem dL_law_382 : decode cL_law 382 = .ok (.iload 7, 2) := by decide +kernel
theorem dL_law_384 : decode cL_law 384 = .ok (.bipush 7, 2) := by decide +kernel
theorem dL_law_386 : decode cL_law 386 = .ok (.iadd, 1) := by decide +kernel
theorem dL_law_387 : decode cL_law 387 = .ok (.sipush 200, 3) := by decide +kernel
theorem dL_law_390 : decode cL_law 390 = .ok (.invokestatic 149, 3) := by decide +kernel
theorem dL_law_393 : decode cL_law 393 = .ok (.istore 10, 2) := by decide +kernel
theorem dL_law_395 : decode cL_law 395 = .ok (.aload_n 0, 1) := by decide +kernel
theorem dL_law_396 : decode cL_law 396 = .ok (.iload 7, 2) := by decide +kernel
theorem dL_law_398 : decode cL_law 398 = .ok (.iconst 3, 1) := by decide +kernel
theorem dL_law_399 : decode cL_law 399 = .ok (.iadd, 1) := by decide +kernel
theorem dL_law_400 : decode cL_law 400 = .ok (.sipush 501, 3) := by decide +kernel
theorem dL_law_403 : decode cL_law 403 = .ok (.invokestatic 149, 3) := by decide +kernel
theorem dL_law_406 : decode cL_law 406 = .ok (.istore 11, 2) := by decide +kernel
theorem dL_law_408 : decode cL_law 408 = .ok (.iload 5, 2) := by decide +kernel
theorem dL_law_410 : decode cL_law 410 = .ok (.ifCond .eq 91, 3) := by decide +kernel
theorem dL_law_413 : decode cL_law 413 = .ok (.aload 4, 2) := by decide +kernel
theorem dL_law_415 : decode cL_law 415 = .ok (.aload_n 1, 1) := by decide +kernel
theorem dL_law_416 : decode cL_law 416 = .ok (.invokestatic 287, 3) := by decide +kernel
theorem dL_law_419 : decode cL_law 419 = .ok (.ifCond .eq 82, 3) := by decide +kernel
theorem dL_law_422 : decode cL_law 422 = .ok (.aload 4, 2) := by decide +kernel
theorem dL_law_424 : decode cL_law 424 = .ok (.aload_n 1, 1) := by decide +kernel
theorem dL_law_425 : decode cL_law 425 = .ok (.invokestatic 291, 3) := by decide +kernel
theorem dL_law_428 : decode cL_law 428 = .ok (.ifCond .eq 73, 3) := by decide +kernel
theorem dL_law_431 : decode cL_law 431 = .ok (.iload 6, 2) := by decide +kernel
theorem dL_law_433 : decode cL_law 433 = .ok (.iconst 4, 1) := by decide +kernel
theorem dL_law_434 : decode cL_law 434 = .ok (.irem, 1) := by decide +kernel
theorem dL_law_435 : decode cL_law 435 = .ok (.ifCond .ne 14, 3) := by decide +kernel
theorem dL_law_438 : decode cL_law 438 = .ok (.aload 4, 2) := by decide +kernel
theorem dL_law_440 : decode cL_law 440 = .ok (.aload_n 1, 1) := by decide +kernel
theorem dL_law_441 : decode cL_law 441 = .ok (.iload 9, 2) := by decide +kernel
theorem dL_law_443 : decode cL_law 443 = .ok (.invokestatic 294, 3) := by decide +kernel
theorem dL_law_446 : decode cL_law 446 = .ok (.ifCond .eq 55, 3) := by decide +kernel
theorem dL_law_449 : decode cL_law 449 = .ok (.aload 4, 2) := by decide +kernel
theorem dL_law_451 : decode cL_law 451 = .ok (.iload 10, 2) := by decide +kernel
theorem dL_law_453 : decode cL_law 453 = .ok (.invokestatic 297, 3) := by decide +kernel
theorem dL_law_456 : decode cL_law 456 = .ok (.aload_n 1, 1) := by decide +kernel
theorem dL_law_457 : decode cL_law 457 = .ok (.iload 10, 2) := by decide +kernel
theorem dL_law_459 : decode cL_law 459 = .ok (.invokestatic 126, 3) := by decide +kernel
theorem dL_law_462 : decode cL_law 462 = .ok (.if_icmp .ne 39, 3) := by decide +kernel
theorem dL_law_465 : decode cL_law 465 = .ok (.aload 4, 2) := by decide +kernel
theorem dL_law_467 : decode cL_law 467 = .ok (.iload 10, 2) := by decide +kernel
theorem dL_law_469 : decode cL_law 469 = .ok (.iload 11, 2) := by decide +kernel
theorem dL_law_471 : decode cL_law 471 = .ok (.invokestatic 299, 3) := by decide +kernel
theorem dL_law_474 : decode cL_law 474 = .ok (.aload_n 1, 1) := by decide +kernel
theorem dL_law_475 : decode cL_law 475 = .ok (.iload 10, 2) := by decide +kernel
theorem dL_law_477 : decode cL_law 477 = .ok (.iload 11, 2) := by decide +kernel
theorem dL_law_479 : decode cL_law 479 = .ok (.invokestatic 129, 3) := by decide +kernel
theorem dL_law_482 : decode cL_law 482 = .ok (.if_icmp .ne 19, 3) := by decide +kernel
theorem dL_law_485 : decode cL_law 485 = .ok (.aload 4, 2) := by decide +kernel
theorem dL_law_487 : decode cL_law 487 = .ok (.iload 9, 2) := by decide +kernel
theorem dL_law_489 : decode cL_law 489 = .ok (.invokestatic 301, 3) := by decide +kernel
theorem dL_law_492 : decode cL_law 492 = .ok (.aload_n 1, 1) := by decide +kernel
theorem dL_law_493 : decode cL_law 493 = .ok (.iload 9, 2) := by decide +kernel
theorem dL_law_495 : decode cL_law 495 = .ok (.invokestatic 243, 3) := by decide +kernel
theorem dL_law_498 : decode cL_law 498 = .ok (.if_icmp .eq 5, 3) := by decide +kernel
theorem dL_law_501 : decode cL_law 501 = .ok (.iconst 0, 1) := by decide +kernel
theorem dL_law_502 : decode cL_law 502 = .ok (.ireturn, 1) := by decide +kernel
theorem dL_law_503 : decode cL_law 503 = .ok (.iinc 6 1, 3) := by decide +kernel
theorem dL_law_506 : decode cL_law 506 = .ok (.goto (-413), 3) := by decide +kernel
theorem dL_law_509 : decode cL_law 509 = .ok (.aload 4, 2) := by decide +kernel
theorem dL_law_511 : decode cL_law 511 = .ok (.iconst 0, 1) := by decide +kernel
theorem dL_law_512 : decode cL_law 512 = .ok (.invokestatic 152, 3) := by decide +kernel
theorem dL_law_515 : decode cL_law 515 = .ok (.ldc 17, 2) := by decide +kernel
theorem dL_law_517 : decode cL_law 517 = .ok (.if_icmp .ne 177, 3) := by decide +kernel
theorem dL_law_520 : decode cL_law 520 = .ok (.aload 4, 2) := by decide +kernel
theorem dL_law_522 : decode cL_law 522 = .ok (.bipush 31, 2) := by decide +kernel
theorem dL_law_524 : decode cL_law 524 = .ok (.invokestatic 152, 3) := by decide +kernel
theorem dL_law_527 : decode cL_law 527 = .ok (.ldc 17, 2) := by decide +kernel
theorem dL_law_529 : decode cL_law 529 = .ok (.if_icmp .ne 165, 3) := by decide +kernel
theorem dL_law_532 : decode cL_law 532 = .ok (.aload 4, 2) := by decide +kernel
theorem dL_law_534 : decode cL_law 534 = .ok (.aload_n 1, 1) := by decide +kernel
theorem dL_law_535 : decode cL_law 535 = .ok (.iconst 0, 1) := by decide +kernel
theorem dL_law_536 : decode cL_law 536 = .ok (.iaload, 1) := by decide +kernel
theorem dL_law_537 : decode cL_law 537 = .ok (.iconst 1, 1) := by decide +kernel
theorem dL_law_538 : decode cL_law 538 = .ok (.iadd, 1) := by decide +kernel
theorem dL_law_539 : decode cL_law 539 = .ok (.bipush 100, 2) := by decide +kernel
theorem dL_law_541 : decode cL_law 541 = .ok (.invokestatic 192, 3) := by decide +kernel
theorem dL_law_544 : decode cL_law 544 = .ok (.ldc 17, 2) := by decide +kernel
theorem dL_law_546 : decode cL_law 546 = .ok (.if_icmp .ne 148, 3) := by decide +kernel
theorem dL_law_549 : decode cL_law 549 = .ok (.aload 4, 2) := by decide +kernel
theorem dL_law_551 : decode cL_law 551 = .ok (.iconst 0, 1) := by decide +kernel
theorem dL_law_552 : decode cL_law 552 = .ok (.bipush 49, 2) := by decide +kernel
theorem dL_law_554 : decode cL_law 554 = .ok (.invokestatic 192, 3) := by decide +kernel
theorem dL_law_557 : decode cL_law 557 = .ok (.ldc 17, 2) := by decide +kernel
theorem dL_law_559 : decode cL_law 559 = .ok (.if_icmp .ne 135, 3) := by decide +kernel
theorem dL_law_562 : decode cL_law 562 = .ok (.aload 4, 2) := by decide +kernel
theorem dL_law_564 : decode cL_law 564 = .ok (.iconst (-1), 1) := by decide +kernel
theorem dL_law_565 : decode cL_law 565 = .ok (.invokestatic 194, 3) := by decide +kernel
theorem dL_law_568 : decode cL_law 568 = .ok (.ldc 17, 2) := by decide +kernel
theorem dL_law_570 : decode cL_law 570 = .ok (.if_icmp .ne 124, 3) := by decide +kernel
theorem dL_law_573 : decode cL_law 573 = .ok (.aload 4, 2) := by decide +kernel
theorem dL_law_575 : decode cL_law 575 = .ok (.sipush 200, 3) := by decide +kernel
theorem dL_law_578 : decode cL_law 578 = .ok (.invokestatic 297, 3) := by decide +kernel
theorem dL_law_581 : decode cL_law 581 = .ok (.ldc 17, 2) := by decide +kernel
theorem dL_law_583 : decode cL_law 583 = .ok (.if_icmp .ne 111, 3) := by decide +kernel
theorem dL_law_586 : decode cL_law 586 = .ok (.aload 4, 2) := by decide +kernel
theorem dL_law_588 : decode cL_law 588 = .ok (.iconst 1, 1) := by decide +kernel
theorem dL_law_589 : decode cL_law 589 = .ok (.bipush 50, 2) := by decide +kernel
theorem dL_law_591 : decode cL_law 591 = .ok (.invokestatic 199, 3) := by decide +kernel
theorem dL_law_594 : decode cL_law 594 = .ok (.ldc 17, 2) := by decide +kernel
theorem dL_law_596 : decode cL_law 596 = .ok (.if_icmp .ne 98, 3) := by decide +kernel
theorem dL_law_599 : decode cL_law 599 = .ok (.aload 4, 2) := by decide +kernel
theorem dL_law_601 : decode cL_law 601 = .ok (.iconst 2, 1) := by decide +kernel
theorem dL_law_602 : decode cL_law 602 = .ok (.sipush 301, 3) := by decide +kernel
theorem dL_law_605 : decode cL_law 605 = .ok (.invokestatic 199, 3) := by decide +kernel
theorem dL_law_608 : decode cL_law 608 = .ok (.ldc 17, 2) := by decide +kernel
theorem dL_law_610 : decode cL_law 610 = .ok (.if_icmp .ne 84, 3) := by decide +kernel
theorem dL_law_613 : decode cL_law 613 = .ok (.aload 4, 2) := by decide +kernel
theorem dL_law_615 : decode cL_law 615 = .ok (.iconst 1, 1) := by decide +kernel
theorem dL_law_616 : decode cL_law 616 = .ok (.invokestatic 238, 3) := by decide +kernel
theorem dL_law_619 : decode cL_law 619 = .ok (.ldc 17, 2) := by decide +kernel
theorem dL_law_621 : decode cL_law 621 = .ok (.if_icmp .ne 73, 3) := by decide +kernel
theorem dL_law_624 : decode cL_law 624 = .ok (.aload 4, 2) := by decide +kernel
theorem dL_law_626 : decode cL_law 626 = .ok (.bipush 6, 2) := by decide +kernel
theorem dL_law_628 : decode cL_law 628 = .ok (.iconst 0, 1) := by decide +kernel
theorem dL_law_629 : decode cL_law 629 = .ok (.invokestatic 169, 3) := by decide +kernel
theorem dL_law_632 : decode cL_law 632 = .ok (.ldc 17, 2) := by decide +kernel
theorem dL_law_634 : decode cL_law 634 = .ok (.if_icmp .ne 60, 3) := by decide +kernel
theorem dL_law_637 : decode cL_law 637 = .ok (.aload 4, 2) := by decide +kernel
theorem dL_law_639 : decode cL_law 639 = .ok (.iconst 1, 1) := by decide +kernel
theorem dL_law_640 : decode cL_law 640 = .ok (.bipush 101, 2) := by decide +kernel
theorem dL_law_642 : decode cL_law 642 = .ok (.invokestatic 169, 3) := by decide +kernel
theorem dL_law_645 : decode cL_law 645 = .ok (.ldc 17, 2) := by decide +kernel
theorem dL_law_647 : decode cL_law 647 = .ok (.if_icmp .ne 47, 3) := by decide +kernel
theorem dL_law_650 : decode cL_law 650 = .ok (.aload 4, 2) := by decide +kernel
theorem dL_law_652 : decode cL_law 652 = .ok (.iconst 0, 1) := by decide +kernel
theorem dL_law_653 : decode cL_law 653 = .ok (.invokestatic 236, 3) := by decide +kernel
theorem dL_law_656 : decode cL_law 656 = .ok (.ldc 17, 2) := by decide +kernel
theorem dL_law_658 : decode cL_law 658 = .ok (.if_icmp .ne 36, 3) := by decide +kernel
theorem dL_law_661 : decode cL_law 661 = .ok (.aload 4, 2) := by decide +kernel
theorem dL_law_663 : decode cL_law 663 = .ok (.iconst 0, 1) := by decide +kernel
theorem dL_law_664 : decode cL_law 664 = .ok (.sipush 501, 3) := by decide +kernel
theorem dL_law_667 : decode cL_law 667 = .ok (.invokestatic 299, 3) := by decide +kernel
theorem dL_law_670 : decode cL_law 670 = .ok (.ldc 17, 2) := by decide +kernel
theorem dL_law_672 : decode cL_law 672 = .ok (.if_icmp .ne 22, 3) := by decide +kernel
theorem dL_law_675 : decode cL_law 675 = .ok (.aload 4, 2) := by decide +kernel
theorem dL_law_677 : decode cL_law 677 = .ok (.aload_n 1, 1) := by decide +kernel
theorem dL_law_678 : decode cL_law 678 = .ok (.iconst 0, 1) := by decide +kernel
theorem dL_law_679 : decode cL_law 679 = .ok (.iaload, 1) := by decide +kernel
theorem dL_law_680 : decode cL_law 680 = .ok (.iconst 1, 1) := by decide +kernel
theorem dL_law_681 : decode cL_law 681 = .ok (.iadd, 1) := by decide +kernel
theorem dL_law_682 : decode cL_law 682 = .ok (.invokestatic 201, 3) := by decide +kernel
theorem dL_law_685 : decode cL_law 685 = .ok (.ldc 17, 2) := by decide +kernel
theorem dL_law_687 : decode cL_law 687 = .ok (.if_icmp .ne 7, 3) := by decide +kernel
theorem dL_law_690 : decode cL_law 690 = .ok (.iconst 1, 1) := by decide +kernel
theorem dL_law_691 : decode cL_law 691 = .ok (.goto 4, 3) := by decide +kernel
theorem dL_law_694 : decode cL_law 694 = .ok (.iconst 0, 1) := by decide +kernel
theorem dL_law_695 : decode cL_law 695 = .ok (.istore 6, 2) := by decide +kernel
theorem dL_law_697 : decode cL_law 697 = .ok (.iload 6, 2) := by decide +kernel
theorem dL_law_699 : decode cL_law 699 = .ok (.ifCond .eq 137, 3) := by decide +kernel
theorem dL_law_702 : decode cL_law 702 = .ok (.aload 4, 2) := by decide +kernel
theorem dL_law_704 : decode cL_law 704 = .ok (.aload_n 1, 1) := by decide +kernel
theorem dL_law_705 : decode cL_law 705 = .ok (.iconst 1, 1) := by decide +kernel
theorem dL_law_706 : decode cL_law 706 = .ok (.iaload, 1) := by decide +kernel
theorem dL_law_707 : decode cL_law 707 = .ok (.iconst 0, 1) := by decide +kernel
theorem dL_law_708 : decode cL_law 708 = .ok (.iconst 0, 1) := by decide +kernel
theorem dL_law_709 : decode cL_law 709 = .ok (.invokestatic 209, 3) := by decide +kernel
theorem dL_law_712 : decode cL_law 712 = .ok (.ldc 17, 2) := by decide +kernel
theorem dL_law_714 : decode cL_law 714 = .ok (.if_icmp .ne 122, 3) := by decide +kernel
theorem dL_law_717 : decode cL_law 717 = .ok (.aload 4, 2) := by decide +kernel
theorem dL_law_719 : decode cL_law 719 = .ok (.iconst (-1), 1) := by decide +kernel
theorem dL_law_720 : decode cL_law 720 = .ok (.invokestatic 217, 3) := by decide +kernel
theorem dL_law_723 : decode cL_law 723 = .ok (.ldc 17, 2) := by decide +kernel
theorem dL_law_725 : decode cL_law 725 = .ok (.if_icmp .ne 111, 3) := by decide +kernel
theorem dL_law_728 : decode cL_law 728 = .ok (.aload 4, 2) := by decide +kernel
theorem dL_law_730 : decode cL_law 730 = .ok (.aload_n 1, 1) := by decide +kernel
theorem dL_law_731 : decode cL_law 731 = .ok (.iconst 1, 1) := by decide +kernel
theorem dL_law_732 : decode cL_law 732 = .ok (.iaload, 1) := by decide +kernel
theorem dL_law_733 : decode cL_law 733 = .ok (.invokestatic 223, 3) := by decide +kernel
theorem dL_law_736 : decode cL_law 736 = .ok (.ldc 17, 2) := by decide +kernel
theorem dL_law_738 : decode cL_law 738 = .ok (.if_icmp .ne 98, 3) := by decide +kernel
theorem dL_law_741 : decode cL_law 741 = .ok (.aload 4, 2) := by decide +kernel
theorem dL_law_743 : decode cL_law 743 = .ok (.iconst (-1), 1) := by decide +kernel
theorem dL_law_744 : decode cL_law 744 = .ok (.invokestatic 225, 3) := by decide +kernel
theorem dL_law_747 : decode cL_law 747 = .ok (.ldc 17, 2) := by decide +kernel
theorem dL_law_749 : decode cL_law 749 = .ok (.if_icmp .ne 87, 3) := by decide +kernel
theorem dL_law_752 : decode cL_law 752 = .ok (.aload 4, 2) := by decide +kernel
theorem dL_law_754 : decode cL_law 754 = .ok (.aload_n 1, 1) := by decide +kernel
theorem dL_law_755 : decode cL_law 755 = .ok (.iconst 1, 1) := by decide +kernel
theorem dL_law_756 : decode cL_law 756 = .ok (.iaload, 1) := by decide +kernel
theorem dL_law_757 : decode cL_law 757 = .ok (.iconst 0, 1) := by decide +kernel
theorem dL_law_758 : decode cL_law 758 = .ok (.invokestatic 234, 3) := by decide +kernel
theorem dL_law_761 : decode cL_law 761 = .ok (.ldc 17, 2) := by decide +kernel
theorem dL_law_763 : decode cL_law 763 = .ok (.if_icmp .ne 73, 3) := by decide +kernel
theorem dL_law_766 : decode cL_law 766 = .ok (.aload 4, 2) := by decide +kernel
theorem dL_law_768 : decode cL_law 768 = .ok (.iconst (-1), 1) := by decide +kernel
theorem dL_law_769 : decode cL_law 769 = .ok (.invokestatic 227, 3) := by decide +kernel
theorem dL_law_772 : decode cL_law 772 = .ok (.ldc 17, 2) := by decide +kernel
theorem dL_law_774 : decode cL_law 774 = .ok (.if_icmp .ne 62, 3) := by decide +kernel
theorem dL_law_777 : decode cL_law 777 = .ok (.aload 4, 2) := by decide +kernel
theorem dL_law_779 : decode cL_law 779 = .ok (.aload_n 1, 1) := by decide +kernel
theorem dL_law_780 : decode cL_law 780 = .ok (.iconst 0, 1) := by decide +kernel
theorem dL_law_781 : decode cL_law 781 = .ok (.iaload, 1) := by decide +kernel
theorem dL_law_782 : decode cL_law 782 = .ok (.iconst 1, 1) := by decide +kernel
theorem dL_law_783 : decode cL_law 783 = .ok (.iadd, 1) := by decide +kernel
theorem dL_law_784 : decode cL_law 784 = .ok (.invokestatic 301, 3) := by decide +kernel
theorem dL_law_787 : decode cL_law 787 = .ok (.ldc 17, 2) := by decide +kernel
theorem dL_law_789 : decode cL_law 789 = .ok (.if_icmp .ne 47, 3) := by decide +kernel
theorem dL_law_792 : decode cL_law 792 = .ok (.aload 4, 2) := by decide +kernel
theorem dL_law_794 : decode cL_law 794 = .ok (.iconst 0, 1) := by decide +kernel
theorem dL_law_795 : decode cL_law 795 = .ok (.invokestatic 240, 3) := by decide +kernel
theorem dL_law_798 : decode cL_law 798 = .ok (.ldc 89, 2) := by decide +kernel
theorem dL_law_800 : decode cL_law 800 = .ok (.fcmp .l, 1) := by decide +kernel
theorem dL_law_801 : decode cL_law 801 = .ok (.ifCond .ne 35, 3) := by decide +kernel
theorem dL_law_804 : decode cL_law 804 = .ok (.aload 4, 2) := by decide +kernel
theorem dL_law_806 : decode cL_law 806 = .ok (.sipush 20001, 3) := by decide +kernel
theorem dL_law_809 : decode cL_law 809 = .ok (.invokestatic 221, 3) := by decide +kernel
theorem dL_law_812 : decode cL_law 812 = .ok (.ldc 17, 2) := by decide +kernel
theorem dL_law_814 : decode cL_law 814 = .ok (.if_icmp .ne 22, 3) := by decide +kernel
theorem dL_law_817 : decode cL_law 817 = .ok (.aload 4, 2) := by decide +kernel
theorem dL_law_819 : decode cL_law 819 = .ok (.aload_n 1, 1) := by decide +kernel
theorem dL_law_820 : decode cL_law 820 = .ok (.iconst 0, 1) := by decide +kernel
theorem dL_law_821 : decode cL_law 821 = .ok (.iaload, 1) := by decide +kernel
theorem dL_law_822 : decode cL_law 822 = .ok (.iconst 1, 1) := by decide +kernel
theorem dL_law_823 : decode cL_law 823 = .ok (.iadd, 1) := by decide +kernel
theorem dL_law_824 : decode cL_law 824 = .ok (.invokestatic 262, 3) := by decide +kernel
theorem dL_law_827 : decode cL_law 827 = .ok (.ldc 17, 2) := by decide +kernel
theorem dL_law_829 : decode cL_law 829 = .ok (.if_icmp .ne 7, 3) := by decide +kernel
theorem dL_law_832 : decode cL_law 832 = .ok (.iconst 1, 1) := by decide +kernel
theorem dL_law_833 : decode cL_law 833 = .ok (.goto 4, 3) := by decide +kernel
theorem dL_law_836 : decode cL_law 836 = .ok (.iconst 0, 1) := by decide +kernel
theorem dL_law_837 : decode cL_law 837 = .ok (.ireturn, 1) := by decide +kernel
