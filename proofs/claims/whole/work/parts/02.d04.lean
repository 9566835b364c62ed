theorem dX11_judged_0 : decode cX11_judged 0 = .ok (.aload_n 0, 1) := by decide +kernel
theorem dX11_judged_1 : decode cX11_judged 1 = .ok (.iconst 0, 1) := by decide +kernel
theorem dX11_judged_2 : decode cX11_judged 2 = .ok (.putfield 1, 3) := by decide +kernel
theorem dX11_judged_5 : decode cX11_judged 5 = .ok (.iload_n 1, 1) := by decide +kernel
theorem dX11_judged_6 : decode cX11_judged 6 = .ok (.iconst 0, 1) := by decide +kernel
theorem dX11_judged_7 : decode cX11_judged 7 = .ok (.iconst 2, 1) := by decide +kernel
theorem dX11_judged_8 : decode cX11_judged 8 = .ok (.invokestatic 205, 3) := by decide +kernel
theorem dX11_judged_11 : decode cX11_judged 11 = .ok (.ifCond .ne 6, 3) := by decide +kernel
theorem dX11_judged_14 : decode cX11_judged 14 = .ok (.bipush (-2), 2) := by decide +kernel
theorem dX11_judged_16 : decode cX11_judged 16 = .ok (.ireturn, 1) := by decide +kernel
theorem dX11_judged_17 : decode cX11_judged 17 = .ok (.aload_n 0, 1) := by decide +kernel
theorem dX11_judged_18 : decode cX11_judged 18 = .ok (.sipush 1008, 3) := by decide +kernel
theorem dX11_judged_21 : decode cX11_judged 21 = .ok (.invokevirtual 283, 3) := by decide +kernel
theorem dX11_judged_24 : decode cX11_judged 24 = .ok (.iconst (-1), 1) := by decide +kernel
theorem dX11_judged_25 : decode cX11_judged 25 = .ok (.istore_n 2, 1) := by decide +kernel
theorem dX11_judged_26 : decode cX11_judged 26 = .ok (.iconst (-1), 1) := by decide +kernel
theorem dX11_judged_27 : decode cX11_judged 27 = .ok (.istore_n 3, 1) := by decide +kernel
theorem dX11_judged_28 : decode cX11_judged 28 = .ok (.iconst 0, 1) := by decide +kernel
theorem dX11_judged_29 : decode cX11_judged 29 = .ok (.istore 4, 2) := by decide +kernel
theorem dX11_judged_31 : decode cX11_judged 31 = .ok (.iload 4, 2) := by decide +kernel
theorem dX11_judged_33 : decode cX11_judged 33 = .ok (.aload_n 0, 1) := by decide +kernel
theorem dX11_judged_34 : decode cX11_judged 34 = .ok (.getfield 114, 3) := by decide +kernel
theorem dX11_judged_37 : decode cX11_judged 37 = .ok (.iconst 0, 1) := by decide +kernel
theorem dX11_judged_38 : decode cX11_judged 38 = .ok (.iaload, 1) := by decide +kernel
theorem dX11_judged_39 : decode cX11_judged 39 = .ok (.if_icmp .ge 254, 3) := by decide +kernel
theorem dX11_judged_42 : decode cX11_judged 42 = .ok (.aload_n 0, 1) := by decide +kernel
theorem dX11_judged_43 : decode cX11_judged 43 = .ok (.getfield 114, 3) := by decide +kernel
theorem dX11_judged_46 : decode cX11_judged 46 = .ok (.iconst 1, 1) := by decide +kernel
theorem dX11_judged_47 : decode cX11_judged 47 = .ok (.iconst 4, 1) := by decide +kernel
theorem dX11_judged_48 : decode cX11_judged 48 = .ok (.iload 4, 2) := by decide +kernel
theorem dX11_judged_50 : decode cX11_judged 50 = .ok (.imul, 1) := by decide +kernel
theorem dX11_judged_51 : decode cX11_judged 51 = .ok (.iadd, 1) := by decide +kernel
theorem dX11_judged_52 : decode cX11_judged 52 = .ok (.iaload, 1) := by decide +kernel
theorem dX11_judged_53 : decode cX11_judged 53 = .ok (.istore 5, 2) := by decide +kernel
theorem dX11_judged_55 : decode cX11_judged 55 = .ok (.aload_n 0, 1) := by decide +kernel
theorem dX11_judged_56 : decode cX11_judged 56 = .ok (.getfield 114, 3) := by decide +kernel
theorem dX11_judged_59 : decode cX11_judged 59 = .ok (.iconst 2, 1) := by decide +kernel
theorem dX11_judged_60 : decode cX11_judged 60 = .ok (.iconst 4, 1) := by decide +kernel
theorem dX11_judged_61 : decode cX11_judged 61 = .ok (.iload 4, 2) := by decide +kernel
theorem dX11_judged_63 : decode cX11_judged 63 = .ok (.imul, 1) := by decide +kernel
theorem dX11_judged_64 : decode cX11_judged 64 = .ok (.iadd, 1) := by decide +kernel
theorem dX11_judged_65 : decode cX11_judged 65 = .ok (.iaload, 1) := by decide +kernel
theorem dX11_judged_66 : decode cX11_judged 66 = .ok (.istore 6, 2) := by decide +kernel
theorem dX11_judged_68 : decode cX11_judged 68 = .ok (.aload_n 0, 1) := by decide +kernel
theorem dX11_judged_69 : decode cX11_judged 69 = .ok (.getfield 114, 3) := by decide +kernel
theorem dX11_judged_72 : decode cX11_judged 72 = .ok (.iconst 3, 1) := by decide +kernel
theorem dX11_judged_73 : decode cX11_judged 73 = .ok (.iconst 4, 1) := by decide +kernel
theorem dX11_judged_74 : decode cX11_judged 74 = .ok (.iload 4, 2) := by decide +kernel
theorem dX11_judged_76 : decode cX11_judged 76 = .ok (.imul, 1) := by decide +kernel
theorem dX11_judged_77 : decode cX11_judged 77 = .ok (.iadd, 1) := by decide +kernel
theorem dX11_judged_78 : decode cX11_judged 78 = .ok (.iaload, 1) := by decide +kernel
theorem dX11_judged_79 : decode cX11_judged 79 = .ok (.istore 7, 2) := by decide +kernel
theorem dX11_judged_81 : decode cX11_judged 81 = .ok (.aload_n 0, 1) := by decide +kernel
theorem dX11_judged_82 : decode cX11_judged 82 = .ok (.getfield 114, 3) := by decide +kernel
theorem dX11_judged_85 : decode cX11_judged 85 = .ok (.iconst 4, 1) := by decide +kernel
theorem dX11_judged_86 : decode cX11_judged 86 = .ok (.iconst 4, 1) := by decide +kernel
theorem dX11_judged_87 : decode cX11_judged 87 = .ok (.iload 4, 2) := by decide +kernel
theorem dX11_judged_89 : decode cX11_judged 89 = .ok (.imul, 1) := by decide +kernel
theorem dX11_judged_90 : decode cX11_judged 90 = .ok (.iadd, 1) := by decide +kernel
theorem dX11_judged_91 : decode cX11_judged 91 = .ok (.iaload, 1) := by decide +kernel
theorem dX11_judged_92 : decode cX11_judged 92 = .ok (.istore 8, 2) := by decide +kernel
theorem dX11_judged_94 : decode cX11_judged 94 = .ok (.aload_n 0, 1) := by decide +kernel
theorem dX11_judged_95 : decode cX11_judged 95 = .ok (.iload 5, 2) := by decide +kernel
theorem dX11_judged_97 : decode cX11_judged 97 = .ok (.iload 6, 2) := by decide +kernel
theorem dX11_judged_99 : decode cX11_judged 99 = .ok (.iload 7, 2) := by decide +kernel
theorem dX11_judged_101 : decode cX11_judged 101 = .ok (.iload 8, 2) := by decide +kernel
theorem dX11_judged_103 : decode cX11_judged 103 = .ok (.invokevirtual 380, 3) := by decide +kernel
theorem dX11_judged_106 : decode cX11_judged 106 = .ok (.istore 9, 2) := by decide +kernel
theorem dX11_judged_108 : decode cX11_judged 108 = .ok (.iload 9, 2) := by decide +kernel
theorem dX11_judged_110 : decode cX11_judged 110 = .ok (.ifCond .ne 12, 3) := by decide +kernel
theorem dX11_judged_113 : decode cX11_judged 113 = .ok (.iload_n 2, 1) := by decide +kernel
theorem dX11_judged_114 : decode cX11_judged 114 = .ok (.ifCond .ge 8, 3) := by decide +kernel
theorem dX11_judged_117 : decode cX11_judged 117 = .ok (.iload 4, 2) := by decide +kernel
theorem dX11_judged_119 : decode cX11_judged 119 = .ok (.goto 4, 3) := by decide +kernel
theorem dX11_judged_122 : decode cX11_judged 122 = .ok (.iload_n 2, 1) := by decide +kernel
theorem dX11_judged_123 : decode cX11_judged 123 = .ok (.istore_n 2, 1) := by decide +kernel
theorem dX11_judged_124 : decode cX11_judged 124 = .ok (.iload 5, 2) := by decide +kernel
theorem dX11_judged_126 : decode cX11_judged 126 = .ok (.bipush 6, 2) := by decide +kernel
theorem dX11_judged_128 : decode cX11_judged 128 = .ok (.if_icmp .ne 27, 3) := by decide +kernel
theorem dX11_judged_131 : decode cX11_judged 131 = .ok (.aload_n 0, 1) := by decide +kernel
theorem dX11_judged_132 : decode cX11_judged 132 = .ok (.sipush 1008, 3) := by decide +kernel
theorem dX11_judged_135 : decode cX11_judged 135 = .ok (.invokevirtual 378, 3) := by decide +kernel
theorem dX11_judged_138 : decode cX11_judged 138 = .ok (.ifCond .eq 12, 3) := by decide +kernel
theorem dX11_judged_141 : decode cX11_judged 141 = .ok (.iload_n 3, 1) := by decide +kernel
theorem dX11_judged_142 : decode cX11_judged 142 = .ok (.ifCond .ge 8, 3) := by decide +kernel
theorem dX11_judged_145 : decode cX11_judged 145 = .ok (.iload 4, 2) := by decide +kernel
theorem dX11_judged_147 : decode cX11_judged 147 = .ok (.goto 4, 3) := by decide +kernel
theorem dX11_judged_150 : decode cX11_judged 150 = .ok (.iload_n 3, 1) := by decide +kernel
theorem dX11_judged_151 : decode cX11_judged 151 = .ok (.istore_n 3, 1) := by decide +kernel
theorem dX11_judged_152 : decode cX11_judged 152 = .ok (.goto 135, 3) := by decide +kernel
theorem dX11_judged_155 : decode cX11_judged 155 = .ok (.iload 9, 2) := by decide +kernel
theorem dX11_judged_157 : decode cX11_judged 157 = .ok (.ifCond .eq 34, 3) := by decide +kernel
theorem dX11_judged_160 : decode cX11_judged 160 = .ok (.iload 5, 2) := by decide +kernel
theorem dX11_judged_162 : decode cX11_judged 162 = .ok (.iconst 2, 1) := by decide +kernel
theorem dX11_judged_163 : decode cX11_judged 163 = .ok (.if_icmp .ge 28, 3) := by decide +kernel
theorem dX11_judged_166 : decode cX11_judged 166 = .ok (.aload_n 0, 1) := by decide +kernel
theorem dX11_judged_167 : decode cX11_judged 167 = .ok (.sipush 1008, 3) := by decide +kernel
theorem dX11_judged_170 : decode cX11_judged 170 = .ok (.iload 6, 2) := by decide +kernel
theorem dX11_judged_172 : decode cX11_judged 172 = .ok (.iload 7, 2) := by decide +kernel
theorem dX11_judged_174 : decode cX11_judged 174 = .ok (.iload 5, 2) := by decide +kernel
theorem dX11_judged_176 : decode cX11_judged 176 = .ok (.iconst 1, 1) := by decide +kernel
theorem dX11_judged_177 : decode cX11_judged 177 = .ok (.if_icmp .ne 7, 3) := by decide +kernel
theorem dX11_judged_180 : decode cX11_judged 180 = .ok (.iconst 1, 1) := by decide +kernel
theorem dX11_judged_181 : decode cX11_judged 181 = .ok (.goto 4, 3) := by decide +kernel
theorem dX11_judged_184 : decode cX11_judged 184 = .ok (.iconst 0, 1) := by decide +kernel
theorem dX11_judged_185 : decode cX11_judged 185 = .ok (.invokevirtual 358, 3) := by decide +kernel
theorem dX11_judged_188 : decode cX11_judged 188 = .ok (.goto 99, 3) := by decide +kernel
theorem dX11_judged_191 : decode cX11_judged 191 = .ok (.iload 9, 2) := by decide +kernel
theorem dX11_judged_193 : decode cX11_judged 193 = .ok (.ifCond .eq 35, 3) := by decide +kernel
theorem dX11_judged_196 : decode cX11_judged 196 = .ok (.iload 5, 2) := by decide +kernel
theorem dX11_judged_198 : decode cX11_judged 198 = .ok (.iconst 4, 1) := by decide +kernel
theorem dX11_judged_199 : decode cX11_judged 199 = .ok (.if_icmp .ge 29, 3) := by decide +kernel
theorem dX11_judged_202 : decode cX11_judged 202 = .ok (.aload_n 0, 1) := by decide +kernel
theorem dX11_judged_203 : decode cX11_judged 203 = .ok (.sipush 1008, 3) := by decide +kernel
theorem dX11_judged_206 : decode cX11_judged 206 = .ok (.iload 6, 2) := by decide +kernel
theorem dX11_judged_208 : decode cX11_judged 208 = .ok (.iload 5, 2) := by decide +kernel
theorem dX11_judged_210 : decode cX11_judged 210 = .ok (.iconst 2, 1) := by decide +kernel
theorem dX11_judged_211 : decode cX11_judged 211 = .ok (.if_icmp .ne 8, 3) := by decide +kernel
theorem dX11_judged_214 : decode cX11_judged 214 = .ok (.iload 7, 2) := by decide +kernel
theorem dX11_judged_216 : decode cX11_judged 216 = .ok (.goto 6, 3) := by decide +kernel
theorem dX11_judged_219 : decode cX11_judged 219 = .ok (.iload 7, 2) := by decide +kernel
theorem dX11_judged_221 : decode cX11_judged 221 = .ok (.ineg, 1) := by decide +kernel
theorem dX11_judged_222 : decode cX11_judged 222 = .ok (.invokevirtual 368, 3) := by decide +kernel
theorem dX11_judged_225 : decode cX11_judged 225 = .ok (.goto 62, 3) := by decide +kernel
theorem dX11_judged_228 : decode cX11_judged 228 = .ok (.iload 9, 2) := by decide +kernel
theorem dX11_judged_230 : decode cX11_judged 230 = .ok (.ifCond .eq 35, 3) := by decide +kernel
theorem dX11_judged_233 : decode cX11_judged 233 = .ok (.iload 5, 2) := by decide +kernel
theorem dX11_judged_235 : decode cX11_judged 235 = .ok (.iconst 4, 1) := by decide +kernel
theorem dX11_judged_236 : decode cX11_judged 236 = .ok (.if_icmp .ne 29, 3) := by decide +kernel
theorem dX11_judged_239 : decode cX11_judged 239 = .ok (.aload_n 0, 1) := by decide +kernel
theorem dX11_judged_240 : decode cX11_judged 240 = .ok (.sipush 1008, 3) := by decide +kernel
theorem dX11_judged_243 : decode cX11_judged 243 = .ok (.iload 6, 2) := by decide +kernel
theorem dX11_judged_245 : decode cX11_judged 245 = .ok (.iload 7, 2) := by decide +kernel
theorem dX11_judged_247 : decode cX11_judged 247 = .ok (.invokevirtual 337, 3) := by decide +kernel
theorem dX11_judged_250 : decode cX11_judged 250 = .ok (.aload_n 0, 1) := by decide +kernel
theorem dX11_judged_251 : decode cX11_judged 251 = .ok (.sipush 1008, 3) := by decide +kernel
theorem dX11_judged_254 : decode cX11_judged 254 = .ok (.iload 8, 2) := by decide +kernel
theorem dX11_judged_256 : decode cX11_judged 256 = .ok (.iload 7, 2) := by decide +kernel
theorem dX11_judged_258 : decode cX11_judged 258 = .ok (.ineg, 1) := by decide +kernel
theorem dX11_judged_259 : decode cX11_judged 259 = .ok (.invokevirtual 337, 3) := by decide +kernel
theorem dX11_judged_262 : decode cX11_judged 262 = .ok (.goto 25, 3) := by decide +kernel
theorem dX11_judged_265 : decode cX11_judged 265 = .ok (.iload 9, 2) := by decide +kernel
theorem dX11_judged_267 : decode cX11_judged 267 = .ok (.ifCond .eq 20, 3) := by decide +kernel
theorem dX11_judged_270 : decode cX11_judged 270 = .ok (.aload_n 0, 1) := by decide +kernel
theorem dX11_judged_271 : decode cX11_judged 271 = .ok (.getfield 123, 3) := by decide +kernel
theorem dX11_judged_274 : decode cX11_judged 274 = .ok (.sipush 1009, 3) := by decide +kernel
theorem dX11_judged_277 : decode cX11_judged 277 = .ok (.dup2, 1) := by decide +kernel
theorem dX11_judged_278 : decode cX11_judged 278 = .ok (.iaload, 1) := by decide +kernel
theorem dX11_judged_279 : decode cX11_judged 279 = .ok (.iconst 1, 1) := by decide +kernel
theorem dX11_judged_280 : decode cX11_judged 280 = .ok (.iload 7, 2) := by decide +kernel
theorem dX11_judged_282 : decode cX11_judged 282 = .ok (.ishl, 1) := by decide +kernel
theorem dX11_judged_283 : decode cX11_judged 283 = .ok (.iconst (-1), 1) := by decide +kernel
theorem dX11_judged_284 : decode cX11_judged 284 = .ok (.ixor, 1) := by decide +kernel
theorem dX11_judged_285 : decode cX11_judged 285 = .ok (.iand, 1) := by decide +kernel
theorem dX11_judged_286 : decode cX11_judged 286 = .ok (.iastore, 1) := by decide +kernel
theorem dX11_judged_287 : decode cX11_judged 287 = .ok (.iinc 4 1, 3) := by decide +kernel
theorem dX11_judged_290 : decode cX11_judged 290 = .ok (.goto (-259), 3) := by decide +kernel
theorem dX11_judged_293 : decode cX11_judged 293 = .ok (.iload_n 1, 1) := by decide +kernel
theorem dX11_judged_294 : decode cX11_judged 294 = .ok (.ifCond .ne 7, 3) := by decide +kernel
theorem dX11_judged_297 : decode cX11_judged 297 = .ok (.iload_n 2, 1) := by decide +kernel
theorem dX11_judged_298 : decode cX11_judged 298 = .ok (.goto 23, 3) := by decide +kernel
theorem dX11_judged_301 : decode cX11_judged 301 = .ok (.iload_n 1, 1) := by decide +kernel
theorem dX11_judged_302 : decode cX11_judged 302 = .ok (.iconst 1, 1) := by decide +kernel
theorem dX11_judged_303 : decode cX11_judged 303 = .ok (.if_icmp .ne 7, 3) := by decide +kernel
theorem dX11_judged_306 : decode cX11_judged 306 = .ok (.iload_n 3, 1) := by decide +kernel
theorem dX11_judged_307 : decode cX11_judged 307 = .ok (.goto 14, 3) := by decide +kernel
theorem dX11_judged_310 : decode cX11_judged 310 = .ok (.aload_n 0, 1) := by decide +kernel
theorem dX11_judged_311 : decode cX11_judged 311 = .ok (.getfield 123, 3) := by decide +kernel
theorem dX11_judged_314 : decode cX11_judged 314 = .ok (.sipush 1010, 3) := by decide +kernel
theorem dX11_judged_317 : decode cX11_judged 317 = .ok (.iaload, 1) := by decide +kernel
theorem dX11_judged_318 : decode cX11_judged 318 = .ok (.invokestatic 383, 3) := by decide +kernel
theorem dX11_judged_321 : decode cX11_judged 321 = .ok (.ireturn, 1) := by decide +kernel
theorem dX11_openNow_0 : decode cX11_openNow 0 = .ok (.iconst 0, 1) := by decide +kernel
theorem dX11_openNow_1 : decode cX11_openNow 1 = .ok (.istore_n 1, 1) := by decide +kernel
theorem dX11_openNow_2 : decode cX11_openNow 2 = .ok (.iconst 0, 1) := by decide +kernel
theorem dX11_openNow_3 : decode cX11_openNow 3 = .ok (.istore_n 2, 1) := by decide +kernel
theorem dX11_openNow_4 : decode cX11_openNow 4 = .ok (.iload_n 2, 1) := by decide +kernel
theorem dX11_openNow_5 : decode cX11_openNow 5 = .ok (.aload_n 0, 1) := by decide +kernel
theorem dX11_openNow_6 : decode cX11_openNow 6 = .ok (.invokevirtual 292, 3) := by decide +kernel
theorem dX11_openNow_9 : decode cX11_openNow 9 = .ok (.if_icmp .ge 37, 3) := by decide +kernel
theorem dX11_openNow_12 : decode cX11_openNow 12 = .ok (.iload_n 1, 1) := by decide +kernel
theorem dX11_openNow_13 : decode cX11_openNow 13 = .ok (.aload_n 0, 1) := by decide +kernel
theorem dX11_openNow_14 : decode cX11_openNow 14 = .ok (.iconst 0, 1) := by decide +kernel
theorem dX11_openNow_15 : decode cX11_openNow 15 = .ok (.iload_n 2, 1) := by decide +kernel
theorem dX11_openNow_16 : decode cX11_openNow 16 = .ok (.invokevirtual 322, 3) := by decide +kernel
theorem dX11_openNow_19 : decode cX11_openNow 19 = .ok (.ifCond .eq 12, 3) := by decide +kernel
theorem dX11_openNow_22 : decode cX11_openNow 22 = .ok (.aload_n 0, 1) := by decide +kernel
theorem dX11_openNow_23 : decode cX11_openNow 23 = .ok (.iconst 0, 1) := by decide +kernel
theorem dX11_openNow_24 : decode cX11_openNow 24 = .ok (.iload_n 2, 1) := by decide +kernel
theorem dX11_openNow_25 : decode cX11_openNow 25 = .ok (.invokevirtual 325, 3) := by decide +kernel
theorem dX11_openNow_28 : decode cX11_openNow 28 = .ok (.ifCond .eq 9, 3) := by decide +kernel
theorem dX11_openNow_31 : decode cX11_openNow 31 = .ok (.iconst 1, 1) := by decide +kernel
theorem dX11_openNow_32 : decode cX11_openNow 32 = .ok (.iload_n 2, 1) := by decide +kernel
theorem dX11_openNow_33 : decode cX11_openNow 33 = .ok (.ishl, 1) := by decide +kernel
theorem dX11_openNow_34 : decode cX11_openNow 34 = .ok (.goto 4, 3) := by decide +kernel
theorem dX11_openNow_37 : decode cX11_openNow 37 = .ok (.iconst 0, 1) := by decide +kernel
theorem dX11_openNow_38 : decode cX11_openNow 38 = .ok (.ior, 1) := by decide +kernel
theorem dX11_openNow_39 : decode cX11_openNow 39 = .ok (.istore_n 1, 1) := by decide +kernel
theorem dX11_openNow_40 : decode cX11_openNow 40 = .ok (.iinc 2 1, 3) := by decide +kernel
theorem dX11_openNow_43 : decode cX11_openNow 43 = .ok (.goto (-39), 3) := by decide +kernel
theorem dX11_openNow_46 : decode cX11_openNow 46 = .ok (.iload_n 1, 1) := by decide +kernel
theorem dX11_openNow_47 : decode cX11_openNow 47 = .ok (.ireturn, 1) := by decide +kernel
theorem dX11_goesFrom_0 : decode cX11_goesFrom 0 = .ok (.iconst 0, 1) := by decide +kernel
theorem dX11_goesFrom_1 : decode cX11_goesFrom 1 = .ok (.istore 5, 2) := by decide +kernel
theorem dX11_goesFrom_3 : decode cX11_goesFrom 3 = .ok (.iload 5, 2) := by decide +kernel
theorem dX11_goesFrom_5 : decode cX11_goesFrom 5 = .ok (.bipush 7, 2) := by decide +kernel
theorem dX11_goesFrom_7 : decode cX11_goesFrom 7 = .ok (.if_icmp .ge 29, 3) := by decide +kernel
theorem dX11_goesFrom_10 : decode cX11_goesFrom 10 = .ok (.aload_n 0, 1) := by decide +kernel
theorem dX11_goesFrom_11 : decode cX11_goesFrom 11 = .ok (.getfield 130, 3) := by decide +kernel
theorem dX11_goesFrom_14 : decode cX11_goesFrom 14 = .ok (.iload 5, 2) := by decide +kernel
theorem dX11_goesFrom_16 : decode cX11_goesFrom 16 = .ok (.iload 5, 2) := by decide +kernel
theorem dX11_goesFrom_18 : decode cX11_goesFrom 18 = .ok (.iload_n 1, 1) := by decide +kernel
theorem dX11_goesFrom_19 : decode cX11_goesFrom 19 = .ok (.if_icmp .ne 7, 3) := by decide +kernel
theorem dX11_goesFrom_22 : decode cX11_goesFrom 22 = .ok (.iconst 0, 1) := by decide +kernel
theorem dX11_goesFrom_23 : decode cX11_goesFrom 23 = .ok (.goto 6, 3) := by decide +kernel
theorem dX11_goesFrom_26 : decode cX11_goesFrom 26 = .ok (.ldc_w 386, 3) := by decide +kernel
theorem dX11_goesFrom_29 : decode cX11_goesFrom 29 = .ok (.iastore, 1) := by decide +kernel
theorem dX11_goesFrom_30 : decode cX11_goesFrom 30 = .ok (.iinc 5 1, 3) := by decide +kernel
theorem dX11_goesFrom_33 : decode cX11_goesFrom 33 = .ok (.goto (-30), 3) := by decide +kernel
theorem dX11_goesFrom_36 : decode cX11_goesFrom 36 = .ok (.iconst 0, 1) := by decide +kernel
theorem dX11_goesFrom_37 : decode cX11_goesFrom 37 = .ok (.istore 5, 2) := by decide +kernel
theorem dX11_goesFrom_39 : decode cX11_goesFrom 39 = .ok (.iload 5, 2) := by decide +kernel
theorem dX11_goesFrom_41 : decode cX11_goesFrom 41 = .ok (.bipush 7, 2) := by decide +kernel
theorem dX11_goesFrom_43 : decode cX11_goesFrom 43 = .ok (.if_icmp .ge 161, 3) := by decide +kernel
theorem dX11_goesFrom_46 : decode cX11_goesFrom 46 = .ok (.iconst 0, 1) := by decide +kernel
theorem dX11_goesFrom_47 : decode cX11_goesFrom 47 = .ok (.istore 6, 2) := by decide +kernel
theorem dX11_goesFrom_49 : decode cX11_goesFrom 49 = .ok (.iload 6, 2) := by decide +kernel
theorem dX11_goesFrom_51 : decode cX11_goesFrom 51 = .ok (.aload_n 0, 1) := by decide +kernel
theorem dX11_goesFrom_52 : decode cX11_goesFrom 52 = .ok (.invokevirtual 292, 3) := by decide +kernel
theorem dX11_goesFrom_55 : decode cX11_goesFrom 55 = .ok (.if_icmp .ge 143, 3) := by decide +kernel
theorem dX11_goesFrom_58 : decode cX11_goesFrom 58 = .ok (.iload 4, 2) := by decide +kernel
theorem dX11_goesFrom_60 : decode cX11_goesFrom 60 = .ok (.iload 6, 2) := by decide +kernel
theorem dX11_goesFrom_62 : decode cX11_goesFrom 62 = .ok (.ishr, 1) := by decide +kernel
theorem dX11_goesFrom_63 : decode cX11_goesFrom 63 = .ok (.iconst 1, 1) := by decide +kernel
theorem dX11_goesFrom_64 : decode cX11_goesFrom 64 = .ok (.iand, 1) := by decide +kernel
theorem dX11_goesFrom_65 : decode cX11_goesFrom 65 = .ok (.iconst 1, 1) := by decide +kernel
theorem dX11_goesFrom_66 : decode cX11_goesFrom 66 = .ok (.if_icmp .ne 126, 3) := by decide +kernel
theorem dX11_goesFrom_69 : decode cX11_goesFrom 69 = .ok (.aload_n 0, 1) := by decide +kernel
theorem dX11_goesFrom_70 : decode cX11_goesFrom 70 = .ok (.iload 6, 2) := by decide +kernel
theorem dX11_goesFrom_72 : decode cX11_goesFrom 72 = .ok (.iconst 0, 1) := by decide +kernel
theorem dX11_goesFrom_73 : decode cX11_goesFrom 73 = .ok (.invokevirtual 304, 3) := by decide +kernel
theorem dX11_goesFrom_76 : decode cX11_goesFrom 76 = .ok (.istore 7, 2) := by decide +kernel
theorem dX11_goesFrom_78 : decode cX11_goesFrom 78 = .ok (.aload_n 0, 1) := by decide +kernel
theorem dX11_goesFrom_79 : decode cX11_goesFrom 79 = .ok (.iload 6, 2) := by decide +kernel
theorem dX11_goesFrom_81 : decode cX11_goesFrom 81 = .ok (.iconst 1, 1) := by decide +kernel
theorem dX11_goesFrom_82 : decode cX11_goesFrom 82 = .ok (.invokevirtual 304, 3) := by decide +kernel
theorem dX11_goesFrom_85 : decode cX11_goesFrom 85 = .ok (.istore 8, 2) := by decide +kernel
theorem dX11_goesFrom_87 : decode cX11_goesFrom 87 = .ok (.aload_n 0, 1) := by decide +kernel
theorem dX11_goesFrom_88 : decode cX11_goesFrom 88 = .ok (.iconst 0, 1) := by decide +kernel
theorem dX11_goesFrom_89 : decode cX11_goesFrom 89 = .ok (.iload_n 2, 1) := by decide +kernel
theorem dX11_goesFrom_90 : decode cX11_goesFrom 90 = .ok (.iload 6, 2) := by decide +kernel
theorem dX11_goesFrom_92 : decode cX11_goesFrom 92 = .ok (.iload_n 3, 1) := by decide +kernel
theorem dX11_goesFrom_93 : decode cX11_goesFrom 93 = .ok (.invokevirtual 311, 3) := by decide +kernel
theorem dX11_goesFrom_96 : decode cX11_goesFrom 96 = .ok (.istore 9, 2) := by decide +kernel
theorem dX11_goesFrom_98 : decode cX11_goesFrom 98 = .ok (.aload_n 0, 1) := by decide +kernel
theorem dX11_goesFrom_99 : decode cX11_goesFrom 99 = .ok (.getfield 130, 3) := by decide +kernel
theorem dX11_goesFrom_102 : decode cX11_goesFrom 102 = .ok (.iload 7, 2) := by decide +kernel
theorem dX11_goesFrom_104 : decode cX11_goesFrom 104 = .ok (.aload_n 0, 1) := by decide +kernel
theorem dX11_goesFrom_105 : decode cX11_goesFrom 105 = .ok (.getfield 130, 3) := by decide +kernel
theorem dX11_goesFrom_108 : decode cX11_goesFrom 108 = .ok (.iload 8, 2) := by decide +kernel
theorem dX11_goesFrom_110 : decode cX11_goesFrom 110 = .ok (.iaload, 1) := by decide +kernel
theorem dX11_goesFrom_111 : decode cX11_goesFrom 111 = .ok (.iload 9, 2) := by decide +kernel
theorem dX11_goesFrom_113 : decode cX11_goesFrom 113 = .ok (.iadd, 1) := by decide +kernel
theorem dX11_goesFrom_114 : decode cX11_goesFrom 114 = .ok (.aload_n 0, 1) := by decide +kernel
theorem dX11_goesFrom_115 : decode cX11_goesFrom 115 = .ok (.getfield 130, 3) := by decide +kernel
theorem dX11_goesFrom_118 : decode cX11_goesFrom 118 = .ok (.iload 7, 2) := by decide +kernel
theorem dX11_goesFrom_120 : decode cX11_goesFrom 120 = .ok (.iaload, 1) := by decide +kernel
theorem dX11_goesFrom_121 : decode cX11_goesFrom 121 = .ok (.if_icmp .ge 16, 3) := by decide +kernel
theorem dX11_goesFrom_124 : decode cX11_goesFrom 124 = .ok (.aload_n 0, 1) := by decide +kernel
theorem dX11_goesFrom_125 : decode cX11_goesFrom 125 = .ok (.getfield 130, 3) := by decide +kernel
theorem dX11_goesFrom_128 : decode cX11_goesFrom 128 = .ok (.iload 8, 2) := by decide +kernel
theorem dX11_goesFrom_130 : decode cX11_goesFrom 130 = .ok (.iaload, 1) := by decide +kernel
theorem dX11_goesFrom_131 : decode cX11_goesFrom 131 = .ok (.iload 9, 2) := by decide +kernel
theorem dX11_goesFrom_133 : decode cX11_goesFrom 133 = .ok (.iadd, 1) := by decide +kernel
theorem dX11_goesFrom_134 : decode cX11_goesFrom 134 = .ok (.goto 10, 3) := by decide +kernel
theorem dX11_goesFrom_137 : decode cX11_goesFrom 137 = .ok (.aload_n 0, 1) := by decide +kernel
theorem dX11_goesFrom_138 : decode cX11_goesFrom 138 = .ok (.getfield 130, 3) := by decide +kernel
theorem dX11_goesFrom_141 : decode cX11_goesFrom 141 = .ok (.iload 7, 2) := by decide +kernel
theorem dX11_goesFrom_143 : decode cX11_goesFrom 143 = .ok (.iaload, 1) := by decide +kernel
theorem dX11_goesFrom_144 : decode cX11_goesFrom 144 = .ok (.iastore, 1) := by decide +kernel
theorem dX11_goesFrom_145 : decode cX11_goesFrom 145 = .ok (.aload_n 0, 1) := by decide +kernel
theorem dX11_goesFrom_146 : decode cX11_goesFrom 146 = .ok (.getfield 130, 3) := by decide +kernel
theorem dX11_goesFrom_149 : decode cX11_goesFrom 149 = .ok (.iload 8, 2) := by decide +kernel
theorem dX11_goesFrom_151 : decode cX11_goesFrom 151 = .ok (.aload_n 0, 1) := by decide +kernel
theorem dX11_goesFrom_152 : decode cX11_goesFrom 152 = .ok (.getfield 130, 3) := by decide +kernel
theorem dX11_goesFrom_155 : decode cX11_goesFrom 155 = .ok (.iload 7, 2) := by decide +kernel
theorem dX11_goesFrom_157 : decode cX11_goesFrom 157 = .ok (.iaload, 1) := by decide +kernel
theorem dX11_goesFrom_158 : decode cX11_goesFrom 158 = .ok (.iload 9, 2) := by decide +kernel
theorem dX11_goesFrom_160 : decode cX11_goesFrom 160 = .ok (.iadd, 1) := by decide +kernel
theorem dX11_goesFrom_161 : decode cX11_goesFrom 161 = .ok (.aload_n 0, 1) := by decide +kernel
theorem dX11_goesFrom_162 : decode cX11_goesFrom 162 = .ok (.getfield 130, 3) := by decide +kernel
theorem dX11_goesFrom_165 : decode cX11_goesFrom 165 = .ok (.iload 8, 2) := by decide +kernel
theorem dX11_goesFrom_167 : decode cX11_goesFrom 167 = .ok (.iaload, 1) := by decide +kernel
theorem dX11_goesFrom_168 : decode cX11_goesFrom 168 = .ok (.if_icmp .ge 16, 3) := by decide +kernel
theorem dX11_goesFrom_171 : decode cX11_goesFrom 171 = .ok (.aload_n 0, 1) := by decide +kernel
theorem dX11_goesFrom_172 : decode cX11_goesFrom 172 = .ok (.getfield 130, 3) := by decide +kernel
theorem dX11_goesFrom_175 : decode cX11_goesFrom 175 = .ok (.iload 7, 2) := by decide +kernel
theorem dX11_goesFrom_177 : decode cX11_goesFrom 177 = .ok (.iaload, 1) := by decide +kernel
theorem dX11_goesFrom_178 : decode cX11_goesFrom 178 = .ok (.iload 9, 2) := by decide +kernel
theorem dX11_goesFrom_180 : decode cX11_goesFrom 180 = .ok (.iadd, 1) := by decide +kernel
theorem dX11_goesFrom_181 : decode cX11_goesFrom 181 = .ok (.goto 10, 3) := by decide +kernel
theorem dX11_goesFrom_184 : decode cX11_goesFrom 184 = .ok (.aload_n 0, 1) := by decide +kernel
theorem dX11_goesFrom_185 : decode cX11_goesFrom 185 = .ok (.getfield 130, 3) := by decide +kernel
theorem dX11_goesFrom_188 : decode cX11_goesFrom 188 = .ok (.iload 8, 2) := by decide +kernel
theorem dX11_goesFrom_190 : decode cX11_goesFrom 190 = .ok (.iaload, 1) := by decide +kernel
theorem dX11_goesFrom_191 : decode cX11_goesFrom 191 = .ok (.iastore, 1) := by decide +kernel
theorem dX11_goesFrom_192 : decode cX11_goesFrom 192 = .ok (.iinc 6 1, 3) := by decide +kernel
theorem dX11_goesFrom_195 : decode cX11_goesFrom 195 = .ok (.goto (-146), 3) := by decide +kernel
theorem dX11_goesFrom_198 : decode cX11_goesFrom 198 = .ok (.iinc 5 1, 3) := by decide +kernel
theorem dX11_goesFrom_201 : decode cX11_goesFrom 201 = .ok (.goto (-162), 3) := by decide +kernel
theorem dX11_goesFrom_204 : decode cX11_goesFrom 204 = .ok (.return_, 1) := by decide +kernel
theorem dX11_gasTo_0 : decode cX11_gasTo 0 = .ok (.aload_n 0, 1) := by decide +kernel
theorem dX11_gasTo_1 : decode cX11_gasTo 1 = .ok (.getfield 123, 3) := by decide +kernel
theorem dX11_gasTo_4 : decode cX11_gasTo 4 = .ok (.bipush 19, 2) := by decide +kernel
theorem dX11_gasTo_6 : decode cX11_gasTo 6 = .ok (.iload_n 1, 1) := by decide +kernel
theorem dX11_gasTo_7 : decode cX11_gasTo 7 = .ok (.iadd, 1) := by decide +kernel
theorem dX11_gasTo_8 : decode cX11_gasTo 8 = .ok (.iaload, 1) := by decide +kernel
theorem dX11_gasTo_9 : decode cX11_gasTo 9 = .ok (.ifCond .ge 7, 3) := by decide +kernel
theorem dX11_gasTo_12 : decode cX11_gasTo 12 = .ok (.ldc_w 386, 3) := by decide +kernel
theorem dX11_gasTo_15 : decode cX11_gasTo 15 = .ok (.ireturn, 1) := by decide +kernel
theorem dX11_gasTo_16 : decode cX11_gasTo 16 = .ok (.aload_n 0, 1) := by decide +kernel
theorem dX11_gasTo_17 : decode cX11_gasTo 17 = .ok (.aload_n 0, 1) := by decide +kernel
theorem dX11_gasTo_18 : decode cX11_gasTo 18 = .ok (.getfield 123, 3) := by decide +kernel
theorem dX11_gasTo_21 : decode cX11_gasTo 21 = .ok (.bipush 19, 2) := by decide +kernel
theorem dX11_gasTo_23 : decode cX11_gasTo 23 = .ok (.iload_n 1, 1) := by decide +kernel
theorem dX11_gasTo_24 : decode cX11_gasTo 24 = .ok (.iadd, 1) := by decide +kernel
theorem dX11_gasTo_25 : decode cX11_gasTo 25 = .ok (.iaload, 1) := by decide +kernel
theorem dX11_gasTo_26 : decode cX11_gasTo 26 = .ok (.iload_n 1, 1) := by decide +kernel
theorem dX11_gasTo_27 : decode cX11_gasTo 27 = .ok (.aload_n 0, 1) := by decide +kernel
theorem dX11_gasTo_28 : decode cX11_gasTo 28 = .ok (.getfield 123, 3) := by decide +kernel
theorem dX11_gasTo_31 : decode cX11_gasTo 31 = .ok (.bipush 27, 2) := by decide +kernel
theorem dX11_gasTo_33 : decode cX11_gasTo 33 = .ok (.iload_n 1, 1) := by decide +kernel
theorem dX11_gasTo_34 : decode cX11_gasTo 34 = .ok (.iadd, 1) := by decide +kernel
theorem dX11_gasTo_35 : decode cX11_gasTo 35 = .ok (.iaload, 1) := by decide +kernel
theorem dX11_gasTo_36 : decode cX11_gasTo 36 = .ok (.aload_n 0, 1) := by decide +kernel
theorem dX11_gasTo_37 : decode cX11_gasTo 37 = .ok (.invokevirtual 387, 3) := by decide +kernel
theorem dX11_gasTo_40 : decode cX11_gasTo 40 = .ok (.invokevirtual 390, 3) := by decide +kernel
theorem dX11_gasTo_43 : decode cX11_gasTo 43 = .ok (.aload_n 0, 1) := by decide +kernel
theorem dX11_gasTo_44 : decode cX11_gasTo 44 = .ok (.getfield 130, 3) := by decide +kernel
theorem dX11_gasTo_47 : decode cX11_gasTo 47 = .ok (.iload_n 2, 1) := by decide +kernel
theorem dX11_gasTo_48 : decode cX11_gasTo 48 = .ok (.iaload, 1) := by decide +kernel
theorem dX11_gasTo_49 : decode cX11_gasTo 49 = .ok (.ireturn, 1) := by decide +kernel
theorem dX11_gasBack_0 : decode cX11_gasBack 0 = .ok (.aload_n 0, 1) := by decide +kernel
theorem dX11_gasBack_1 : decode cX11_gasBack 1 = .ok (.iconst 0, 1) := by decide +kernel
theorem dX11_gasBack_2 : decode cX11_gasBack 2 = .ok (.iload_n 1, 1) := by decide +kernel
theorem dX11_gasBack_3 : decode cX11_gasBack 3 = .ok (.aload_n 0, 1) := by decide +kernel
theorem dX11_gasBack_4 : decode cX11_gasBack 4 = .ok (.getfield 123, 3) := by decide +kernel
theorem dX11_gasBack_7 : decode cX11_gasBack 7 = .ok (.bipush 27, 2) := by decide +kernel
theorem dX11_gasBack_9 : decode cX11_gasBack 9 = .ok (.iload_n 1, 1) := by decide +kernel
theorem dX11_gasBack_10 : decode cX11_gasBack 10 = .ok (.iadd, 1) := by decide +kernel
theorem dX11_gasBack_11 : decode cX11_gasBack 11 = .ok (.iaload, 1) := by decide +kernel
theorem dX11_gasBack_12 : decode cX11_gasBack 12 = .ok (.aload_n 0, 1) := by decide +kernel
theorem dX11_gasBack_13 : decode cX11_gasBack 13 = .ok (.invokevirtual 387, 3) := by decide +kernel
theorem dX11_gasBack_16 : decode cX11_gasBack 16 = .ok (.invokevirtual 390, 3) := by decide +kernel
theorem dX11_gasBack_19 : decode cX11_gasBack 19 = .ok (.aload_n 0, 1) := by decide +kernel
theorem dX11_gasBack_20 : decode cX11_gasBack 20 = .ok (.getfield 130, 3) := by decide +kernel
theorem dX11_gasBack_23 : decode cX11_gasBack 23 = .ok (.iload_n 2, 1) := by decide +kernel
theorem dX11_gasBack_24 : decode cX11_gasBack 24 = .ok (.iaload, 1) := by decide +kernel
theorem dX11_gasBack_25 : decode cX11_gasBack 25 = .ok (.ireturn, 1) := by decide +kernel
theorem dX11_open_0 : decode cX11_open 0 = .ok (.aload_n 0, 1) := by decide +kernel
theorem dX11_open_1 : decode cX11_open 1 = .ok (.iconst 0, 1) := by decide +kernel
theorem dX11_open_2 : decode cX11_open 2 = .ok (.putfield 1, 3) := by decide +kernel
theorem dX11_open_5 : decode cX11_open 5 = .ok (.aload_n 0, 1) := by decide +kernel
theorem dX11_open_6 : decode cX11_open 6 = .ok (.invokevirtual 387, 3) := by decide +kernel
theorem dX11_open_9 : decode cX11_open 9 = .ok (.ireturn, 1) := by decide +kernel
theorem dX11_told_0 : decode cX11_told 0 = .ok (.iload_n 0, 1) := by decide +kernel
theorem dX11_told_1 : decode cX11_told 1 = .ok (.ldc_w 386, 3) := by decide +kernel
theorem dX11_told_4 : decode cX11_told 4 = .ok (.if_icmp .lt 7, 3) := by decide +kernel
theorem dX11_told_7 : decode cX11_told 7 = .ok (.iconst (-1), 1) := by decide +kernel
theorem dX11_told_8 : decode cX11_told 8 = .ok (.goto 4, 3) := by decide +kernel
theorem dX11_told_11 : decode cX11_told 11 = .ok (.iload_n 0, 1) := by decide +kernel
theorem dX11_told_12 : decode cX11_told 12 = .ok (.ireturn, 1) := by decide +kernel
theorem dX11_needs_0 : decode cX11_needs 0 = .ok (.aload_n 0, 1) := by decide +kernel
theorem dX11_needs_1 : decode cX11_needs 1 = .ok (.iconst 0, 1) := by decide +kernel
theorem dX11_needs_2 : decode cX11_needs 2 = .ok (.putfield 1, 3) := by decide +kernel
theorem dX11_needs_5 : decode cX11_needs 5 = .ok (.aload_n 0, 1) := by decide +kernel
theorem dX11_needs_6 : decode cX11_needs 6 = .ok (.iload_n 1, 1) := by decide +kernel
theorem dX11_needs_7 : decode cX11_needs 7 = .ok (.invokevirtual 352, 3) := by decide +kernel
theorem dX11_needs_10 : decode cX11_needs 10 = .ok (.ifCond .eq 23, 3) := by decide +kernel
theorem dX11_needs_13 : decode cX11_needs 13 = .ok (.aload_n 0, 1) := by decide +kernel
theorem dX11_needs_14 : decode cX11_needs 14 = .ok (.iload_n 2, 1) := by decide +kernel
theorem dX11_needs_15 : decode cX11_needs 15 = .ok (.invokevirtual 343, 3) := by decide +kernel
theorem dX11_needs_18 : decode cX11_needs 18 = .ok (.ifCond .eq 15, 3) := by decide +kernel
theorem dX11_needs_21 : decode cX11_needs 21 = .ok (.aload_n 0, 1) := by decide +kernel
theorem dX11_needs_22 : decode cX11_needs 22 = .ok (.iload_n 1, 1) := by decide +kernel
theorem dX11_needs_23 : decode cX11_needs 23 = .ok (.iload_n 2, 1) := by decide +kernel
theorem dX11_needs_24 : decode cX11_needs 24 = .ok (.invokevirtual 394, 3) := by decide +kernel
theorem dX11_needs_27 : decode cX11_needs 27 = .ok (.invokestatic 397, 3) := by decide +kernel
theorem dX11_needs_30 : decode cX11_needs 30 = .ok (.goto 4, 3) := by decide +kernel
theorem dX11_needs_33 : decode cX11_needs 33 = .ok (.iconst (-1), 1) := by decide +kernel
theorem dX11_needs_34 : decode cX11_needs 34 = .ok (.ireturn, 1) := by decide +kernel
theorem dX11_out_0 : decode cX11_out 0 = .ok (.aload_n 0, 1) := by decide +kernel
theorem dX11_out_1 : decode cX11_out 1 = .ok (.iconst 0, 1) := by decide +kernel
theorem dX11_out_2 : decode cX11_out 2 = .ok (.putfield 1, 3) := by decide +kernel
theorem dX11_out_5 : decode cX11_out 5 = .ok (.aload_n 0, 1) := by decide +kernel
theorem dX11_out_6 : decode cX11_out 6 = .ok (.iload_n 1, 1) := by decide +kernel
theorem dX11_out_7 : decode cX11_out 7 = .ok (.invokevirtual 352, 3) := by decide +kernel
theorem dX11_out_10 : decode cX11_out 10 = .ok (.ifCond .eq 15, 3) := by decide +kernel
theorem dX11_out_13 : decode cX11_out 13 = .ok (.aload_n 0, 1) := by decide +kernel
theorem dX11_out_14 : decode cX11_out 14 = .ok (.iload_n 1, 1) := by decide +kernel
theorem dX11_out_15 : decode cX11_out 15 = .ok (.iconst 0, 1) := by decide +kernel
theorem dX11_out_16 : decode cX11_out 16 = .ok (.invokevirtual 394, 3) := by decide +kernel
theorem dX11_out_19 : decode cX11_out 19 = .ok (.invokestatic 397, 3) := by decide +kernel
theorem dX11_out_22 : decode cX11_out 22 = .ok (.goto 4, 3) := by decide +kernel
theorem dX11_out_25 : decode cX11_out 25 = .ok (.iconst (-1), 1) := by decide +kernel
theorem dX11_out_26 : decode cX11_out 26 = .ok (.ireturn, 1) := by decide +kernel
theorem dX11_thirds_0 : decode cX11_thirds 0 = .ok (.aload_n 0, 1) := by decide +kernel
theorem dX11_thirds_1 : decode cX11_thirds 1 = .ok (.iconst 0, 1) := by decide +kernel
theorem dX11_thirds_2 : decode cX11_thirds 2 = .ok (.putfield 1, 3) := by decide +kernel
theorem dX11_thirds_5 : decode cX11_thirds 5 = .ok (.aload_n 0, 1) := by decide +kernel
theorem dX11_thirds_6 : decode cX11_thirds 6 = .ok (.iload_n 1, 1) := by decide +kernel
theorem dX11_thirds_7 : decode cX11_thirds 7 = .ok (.invokevirtual 352, 3) := by decide +kernel
theorem dX11_thirds_10 : decode cX11_thirds 10 = .ok (.ifCond .eq 48, 3) := by decide +kernel
theorem dX11_thirds_13 : decode cX11_thirds 13 = .ok (.aload_n 0, 1) := by decide +kernel
theorem dX11_thirds_14 : decode cX11_thirds 14 = .ok (.iconst 0, 1) := by decide +kernel
theorem dX11_thirds_15 : decode cX11_thirds 15 = .ok (.iload_n 1, 1) := by decide +kernel
theorem dX11_thirds_16 : decode cX11_thirds 16 = .ok (.invokevirtual 315, 3) := by decide +kernel
theorem dX11_thirds_19 : decode cX11_thirds 19 = .ok (.ifCond .ne 39, 3) := by decide +kernel
theorem dX11_thirds_22 : decode cX11_thirds 22 = .ok (.aload_n 0, 1) := by decide +kernel
theorem dX11_thirds_23 : decode cX11_thirds 23 = .ok (.iload_n 1, 1) := by decide +kernel
theorem dX11_thirds_24 : decode cX11_thirds 24 = .ok (.iconst 0, 1) := by decide +kernel
theorem dX11_thirds_25 : decode cX11_thirds 25 = .ok (.invokevirtual 394, 3) := by decide +kernel
theorem dX11_thirds_28 : decode cX11_thirds 28 = .ok (.ldc_w 386, 3) := by decide +kernel
theorem dX11_thirds_31 : decode cX11_thirds 31 = .ok (.if_icmp .ge 27, 3) := by decide +kernel
theorem dX11_thirds_34 : decode cX11_thirds 34 = .ok (.iconst 3, 1) := by decide +kernel
theorem dX11_thirds_35 : decode cX11_thirds 35 = .ok (.aload_n 0, 1) := by decide +kernel
theorem dX11_thirds_36 : decode cX11_thirds 36 = .ok (.iload_n 1, 1) := by decide +kernel
theorem dX11_thirds_37 : decode cX11_thirds 37 = .ok (.iconst 0, 1) := by decide +kernel
theorem dX11_thirds_38 : decode cX11_thirds 38 = .ok (.invokevirtual 394, 3) := by decide +kernel
theorem dX11_thirds_41 : decode cX11_thirds 41 = .ok (.imul, 1) := by decide +kernel
theorem dX11_thirds_42 : decode cX11_thirds 42 = .ok (.aload_n 0, 1) := by decide +kernel
theorem dX11_thirds_43 : decode cX11_thirds 43 = .ok (.getfield 123, 3) := by decide +kernel
theorem dX11_thirds_46 : decode cX11_thirds 46 = .ok (.bipush 23, 2) := by decide +kernel
theorem dX11_thirds_48 : decode cX11_thirds 48 = .ok (.iload_n 1, 1) := by decide +kernel
theorem dX11_thirds_49 : decode cX11_thirds 49 = .ok (.iadd, 1) := by decide +kernel
theorem dX11_thirds_50 : decode cX11_thirds 50 = .ok (.iaload, 1) := by decide +kernel
theorem dX11_thirds_51 : decode cX11_thirds 51 = .ok (.if_icmp .gt 7, 3) := by decide +kernel
theorem dX11_thirds_54 : decode cX11_thirds 54 = .ok (.iconst 1, 1) := by decide +kernel
theorem dX11_thirds_55 : decode cX11_thirds 55 = .ok (.goto 4, 3) := by decide +kernel
theorem dX11_thirds_58 : decode cX11_thirds 58 = .ok (.iconst 0, 1) := by decide +kernel
theorem dX11_thirds_59 : decode cX11_thirds 59 = .ok (.ireturn, 1) := by decide +kernel
theorem dX11_can_0 : decode cX11_can 0 = .ok (.aload_n 0, 1) := by decide +kernel
theorem dX11_can_1 : decode cX11_can 1 = .ok (.iconst 0, 1) := by decide +kernel
theorem dX11_can_2 : decode cX11_can 2 = .ok (.putfield 1, 3) := by decide +kernel
theorem dX11_can_5 : decode cX11_can 5 = .ok (.iconst 0, 1) := by decide +kernel
theorem dX11_can_6 : decode cX11_can 6 = .ok (.istore_n 1, 1) := by decide +kernel
theorem dX11_can_7 : decode cX11_can 7 = .ok (.iconst 0, 1) := by decide +kernel
theorem dX11_can_8 : decode cX11_can 8 = .ok (.istore_n 2, 1) := by decide +kernel
theorem dX11_can_9 : decode cX11_can 9 = .ok (.iload_n 2, 1) := by decide +kernel
theorem dX11_can_10 : decode cX11_can 10 = .ok (.aload_n 0, 1) := by decide +kernel
theorem dX11_can_11 : decode cX11_can 11 = .ok (.invokevirtual 276, 3) := by decide +kernel
theorem dX11_can_14 : decode cX11_can 14 = .ok (.if_icmp .ge 46, 3) := by decide +kernel
theorem dX11_can_17 : decode cX11_can 17 = .ok (.iload_n 1, 1) := by decide +kernel
theorem dX11_can_18 : decode cX11_can 18 = .ok (.aload_n 0, 1) := by decide +kernel
theorem dX11_can_19 : decode cX11_can 19 = .ok (.iconst 0, 1) := by decide +kernel
theorem dX11_can_20 : decode cX11_can 20 = .ok (.iload_n 2, 1) := by decide +kernel
theorem dX11_can_21 : decode cX11_can 21 = .ok (.invokevirtual 315, 3) := by decide +kernel
theorem dX11_can_24 : decode cX11_can 24 = .ok (.ifCond .ne 27, 3) := by decide +kernel
theorem dX11_can_27 : decode cX11_can 27 = .ok (.aload_n 0, 1) := by decide +kernel
theorem dX11_can_28 : decode cX11_can 28 = .ok (.iload_n 2, 1) := by decide +kernel
theorem dX11_can_29 : decode cX11_can 29 = .ok (.iconst 0, 1) := by decide +kernel
theorem dX11_can_30 : decode cX11_can 30 = .ok (.invokevirtual 394, 3) := by decide +kernel
theorem dX11_can_33 : decode cX11_can 33 = .ok (.aload_n 0, 1) := by decide +kernel
theorem dX11_can_34 : decode cX11_can 34 = .ok (.getfield 123, 3) := by decide +kernel
theorem dX11_can_37 : decode cX11_can 37 = .ok (.bipush 23, 2) := by decide +kernel
theorem dX11_can_39 : decode cX11_can 39 = .ok (.iload_n 2, 1) := by decide +kernel
theorem dX11_can_40 : decode cX11_can 40 = .ok (.iadd, 1) := by decide +kernel
theorem dX11_can_41 : decode cX11_can 41 = .ok (.iaload, 1) := by decide +kernel
theorem dX11_can_42 : decode cX11_can 42 = .ok (.if_icmp .gt 9, 3) := by decide +kernel
theorem dX11_can_45 : decode cX11_can 45 = .ok (.iconst 1, 1) := by decide +kernel
theorem dX11_can_46 : decode cX11_can 46 = .ok (.iload_n 2, 1) := by decide +kernel
theorem dX11_can_47 : decode cX11_can 47 = .ok (.ishl, 1) := by decide +kernel
theorem dX11_can_48 : decode cX11_can 48 = .ok (.goto 4, 3) := by decide +kernel
theorem dX11_can_51 : decode cX11_can 51 = .ok (.iconst 0, 1) := by decide +kernel
theorem dX11_can_52 : decode cX11_can 52 = .ok (.ior, 1) := by decide +kernel
theorem dX11_can_53 : decode cX11_can 53 = .ok (.istore_n 1, 1) := by decide +kernel
theorem dX11_can_54 : decode cX11_can 54 = .ok (.iinc 2 1, 3) := by decide +kernel
theorem dX11_can_57 : decode cX11_can 57 = .ok (.goto (-48), 3) := by decide +kernel
theorem dX11_can_60 : decode cX11_can 60 = .ok (.iload_n 1, 1) := by decide +kernel
theorem dX11_can_61 : decode cX11_can 61 = .ok (.ireturn, 1) := by decide +kernel
theorem dX11_turnsOf_0 : decode cX11_turnsOf 0 = .ok (.iconst 0, 1) := by decide +kernel
theorem dX11_turnsOf_1 : decode cX11_turnsOf 1 = .ok (.istore_n 2, 1) := by decide +kernel
theorem dX11_turnsOf_2 : decode cX11_turnsOf 2 = .ok (.iconst 0, 1) := by decide +kernel
theorem dX11_turnsOf_3 : decode cX11_turnsOf 3 = .ok (.istore_n 3, 1) := by decide +kernel
theorem dX11_turnsOf_4 : decode cX11_turnsOf 4 = .ok (.iload_n 3, 1) := by decide +kernel
theorem dX11_turnsOf_5 : decode cX11_turnsOf 5 = .ok (.aload_n 0, 1) := by decide +kernel
theorem dX11_turnsOf_6 : decode cX11_turnsOf 6 = .ok (.invokevirtual 280, 3) := by decide +kernel
theorem dX11_turnsOf_9 : decode cX11_turnsOf 9 = .ok (.if_icmp .ge 53, 3) := by decide +kernel
theorem dX11_turnsOf_12 : decode cX11_turnsOf 12 = .ok (.aload_n 0, 1) := by decide +kernel
theorem dX11_turnsOf_13 : decode cX11_turnsOf 13 = .ok (.iconst 0, 1) := by decide +kernel
theorem dX11_turnsOf_14 : decode cX11_turnsOf 14 = .ok (.iload_n 1, 1) := by decide +kernel
theorem dX11_turnsOf_15 : decode cX11_turnsOf 15 = .ok (.invokevirtual 315, 3) := by decide +kernel
theorem dX11_turnsOf_18 : decode cX11_turnsOf 18 = .ok (.ifCond .ne 44, 3) := by decide +kernel
theorem dX11_turnsOf_21 : decode cX11_turnsOf 21 = .ok (.iload_n 2, 1) := by decide +kernel
theorem dX11_turnsOf_22 : decode cX11_turnsOf 22 = .ok (.aload_n 0, 1) := by decide +kernel
theorem dX11_turnsOf_23 : decode cX11_turnsOf 23 = .ok (.iload_n 1, 1) := by decide +kernel
theorem dX11_turnsOf_24 : decode cX11_turnsOf 24 = .ok (.iload_n 3, 1) := by decide +kernel
theorem dX11_turnsOf_25 : decode cX11_turnsOf 25 = .ok (.invokevirtual 394, 3) := by decide +kernel
theorem dX11_turnsOf_28 : decode cX11_turnsOf 28 = .ok (.aload_n 0, 1) := by decide +kernel
theorem dX11_turnsOf_29 : decode cX11_turnsOf 29 = .ok (.iload_n 1, 1) := by decide +kernel
theorem dX11_turnsOf_30 : decode cX11_turnsOf 30 = .ok (.iload_n 3, 1) := by decide +kernel
theorem dX11_turnsOf_31 : decode cX11_turnsOf 31 = .ok (.invokevirtual 400, 3) := by decide +kernel
theorem dX11_turnsOf_34 : decode cX11_turnsOf 34 = .ok (.iadd, 1) := by decide +kernel
theorem dX11_turnsOf_35 : decode cX11_turnsOf 35 = .ok (.aload_n 0, 1) := by decide +kernel
theorem dX11_turnsOf_36 : decode cX11_turnsOf 36 = .ok (.getfield 123, 3) := by decide +kernel
theorem dX11_turnsOf_39 : decode cX11_turnsOf 39 = .ok (.bipush 23, 2) := by decide +kernel
theorem dX11_turnsOf_41 : decode cX11_turnsOf 41 = .ok (.iload_n 1, 1) := by decide +kernel
theorem dX11_turnsOf_42 : decode cX11_turnsOf 42 = .ok (.iadd, 1) := by decide +kernel
theorem dX11_turnsOf_43 : decode cX11_turnsOf 43 = .ok (.iaload, 1) := by decide +kernel
theorem dX11_turnsOf_44 : decode cX11_turnsOf 44 = .ok (.if_icmp .gt 9, 3) := by decide +kernel
theorem dX11_turnsOf_47 : decode cX11_turnsOf 47 = .ok (.iconst 1, 1) := by decide +kernel
theorem dX11_turnsOf_48 : decode cX11_turnsOf 48 = .ok (.iload_n 3, 1) := by decide +kernel
theorem dX11_turnsOf_49 : decode cX11_turnsOf 49 = .ok (.ishl, 1) := by decide +kernel
theorem dX11_turnsOf_50 : decode cX11_turnsOf 50 = .ok (.goto 4, 3) := by decide +kernel
theorem dX11_turnsOf_53 : decode cX11_turnsOf 53 = .ok (.iconst 0, 1) := by decide +kernel
theorem dX11_turnsOf_54 : decode cX11_turnsOf 54 = .ok (.ior, 1) := by decide +kernel
theorem dX11_turnsOf_55 : decode cX11_turnsOf 55 = .ok (.istore_n 2, 1) := by decide +kernel
theorem dX11_turnsOf_56 : decode cX11_turnsOf 56 = .ok (.iinc 3 1, 3) := by decide +kernel
theorem dX11_turnsOf_59 : decode cX11_turnsOf 59 = .ok (.goto (-55), 3) := by decide +kernel
theorem dX11_turnsOf_62 : decode cX11_turnsOf 62 = .ok (.iload_n 2, 1) := by decide +kernel
theorem dX11_turnsOf_63 : decode cX11_turnsOf 63 = .ok (.ireturn, 1) := by decide +kernel
theorem dX11_reaches_0 : decode cX11_reaches 0 = .ok (.aload_n 0, 1) := by decide +kernel
theorem dX11_reaches_1 : decode cX11_reaches 1 = .ok (.iconst 0, 1) := by decide +kernel
theorem dX11_reaches_2 : decode cX11_reaches 2 = .ok (.putfield 1, 3) := by decide +kernel
theorem dX11_reaches_5 : decode cX11_reaches 5 = .ok (.aload_n 0, 1) := by decide +kernel
theorem dX11_reaches_6 : decode cX11_reaches 6 = .ok (.iload_n 1, 1) := by decide +kernel
theorem dX11_reaches_7 : decode cX11_reaches 7 = .ok (.invokevirtual 352, 3) := by decide +kernel
theorem dX11_reaches_10 : decode cX11_reaches 10 = .ok (.ifCond .eq 11, 3) := by decide +kernel
theorem dX11_reaches_13 : decode cX11_reaches 13 = .ok (.aload_n 0, 1) := by decide +kernel
theorem dX11_reaches_14 : decode cX11_reaches 14 = .ok (.iload_n 1, 1) := by decide +kernel
theorem dX11_reaches_15 : decode cX11_reaches 15 = .ok (.invokevirtual 403, 3) := by decide +kernel
theorem dX11_reaches_18 : decode cX11_reaches 18 = .ok (.goto 4, 3) := by decide +kernel
theorem dX11_reaches_21 : decode cX11_reaches 21 = .ok (.iconst (-1), 1) := by decide +kernel
theorem dX11_reaches_22 : decode cX11_reaches 22 = .ok (.ireturn, 1) := by decide +kernel
theorem dX11_deepest_0 : decode cX11_deepest 0 = .ok (.aload_n 0, 1) := by decide +kernel
theorem dX11_deepest_1 : decode cX11_deepest 1 = .ok (.iconst 0, 1) := by decide +kernel
theorem dX11_deepest_2 : decode cX11_deepest 2 = .ok (.putfield 1, 3) := by decide +kernel
theorem dX11_deepest_5 : decode cX11_deepest 5 = .ok (.aload_n 0, 1) := by decide +kernel
theorem dX11_deepest_6 : decode cX11_deepest 6 = .ok (.iload_n 1, 1) := by decide +kernel
theorem dX11_deepest_7 : decode cX11_deepest 7 = .ok (.invokevirtual 352, 3) := by decide +kernel
theorem dX11_deepest_10 : decode cX11_deepest 10 = .ok (.ifCond .eq 11, 3) := by decide +kernel
theorem dX11_deepest_13 : decode cX11_deepest 13 = .ok (.aload_n 0, 1) := by decide +kernel
theorem dX11_deepest_14 : decode cX11_deepest 14 = .ok (.iload_n 1, 1) := by decide +kernel
theorem dX11_deepest_15 : decode cX11_deepest 15 = .ok (.invokevirtual 403, 3) := by decide +kernel
theorem dX11_deepest_18 : decode cX11_deepest 18 = .ok (.goto 4, 3) := by decide +kernel
theorem dX11_deepest_21 : decode cX11_deepest 21 = .ok (.iconst 0, 1) := by decide +kernel
theorem dX11_deepest_22 : decode cX11_deepest 22 = .ok (.istore_n 2, 1) := by decide +kernel
theorem dX11_deepest_23 : decode cX11_deepest 23 = .ok (.iconst (-1), 1) := by decide +kernel
theorem dX11_deepest_24 : decode cX11_deepest 24 = .ok (.istore_n 3, 1) := by decide +kernel
theorem dX11_deepest_25 : decode cX11_deepest 25 = .ok (.iconst 0, 1) := by decide +kernel
theorem dX11_deepest_26 : decode cX11_deepest 26 = .ok (.istore 4, 2) := by decide +kernel
theorem dX11_deepest_28 : decode cX11_deepest 28 = .ok (.iload 4, 2) := by decide +kernel
theorem dX11_deepest_30 : decode cX11_deepest 30 = .ok (.aload_n 0, 1) := by decide +kernel
theorem dX11_deepest_31 : decode cX11_deepest 31 = .ok (.invokevirtual 280, 3) := by decide +kernel
theorem dX11_deepest_34 : decode cX11_deepest 34 = .ok (.if_icmp .ge 50, 3) := by decide +kernel
theorem dX11_deepest_37 : decode cX11_deepest 37 = .ok (.iload_n 2, 1) := by decide +kernel
theorem dX11_deepest_38 : decode cX11_deepest 38 = .ok (.iload 4, 2) := by decide +kernel
theorem dX11_deepest_40 : decode cX11_deepest 40 = .ok (.ishr, 1) := by decide +kernel
theorem dX11_deepest_41 : decode cX11_deepest 41 = .ok (.iconst 1, 1) := by decide +kernel
theorem dX11_deepest_42 : decode cX11_deepest 42 = .ok (.iand, 1) := by decide +kernel
theorem dX11_deepest_43 : decode cX11_deepest 43 = .ok (.iconst 1, 1) := by decide +kernel
theorem dX11_deepest_44 : decode cX11_deepest 44 = .ok (.if_icmp .ne 32, 3) := by decide +kernel
theorem dX11_deepest_47 : decode cX11_deepest 47 = .ok (.iload_n 3, 1) := by decide +kernel
theorem dX11_deepest_48 : decode cX11_deepest 48 = .ok (.ifCond .lt 23, 3) := by decide +kernel
theorem dX11_deepest_51 : decode cX11_deepest 51 = .ok (.aload_n 0, 1) := by decide +kernel
theorem dX11_deepest_52 : decode cX11_deepest 52 = .ok (.getfield 93, 3) := by decide +kernel
theorem dX11_deepest_55 : decode cX11_deepest 55 = .ok (.iconst 5, 1) := by decide +kernel
theorem dX11_deepest_56 : decode cX11_deepest 56 = .ok (.iload 4, 2) := by decide +kernel
theorem dX11_deepest_58 : decode cX11_deepest 58 = .ok (.iadd, 1) := by decide +kernel
theorem dX11_deepest_59 : decode cX11_deepest 59 = .ok (.iaload, 1) := by decide +kernel
theorem dX11_deepest_60 : decode cX11_deepest 60 = .ok (.aload_n 0, 1) := by decide +kernel
theorem dX11_deepest_61 : decode cX11_deepest 61 = .ok (.getfield 93, 3) := by decide +kernel
theorem dX11_deepest_64 : decode cX11_deepest 64 = .ok (.iconst 5, 1) := by decide +kernel
theorem dX11_deepest_65 : decode cX11_deepest 65 = .ok (.iload_n 3, 1) := by decide +kernel
theorem dX11_deepest_66 : decode cX11_deepest 66 = .ok (.iadd, 1) := by decide +kernel
theorem dX11_deepest_67 : decode cX11_deepest 67 = .ok (.iaload, 1) := by decide +kernel
theorem dX11_deepest_68 : decode cX11_deepest 68 = .ok (.if_icmp .le 8, 3) := by decide +kernel
theorem dX11_deepest_71 : decode cX11_deepest 71 = .ok (.iload 4, 2) := by decide +kernel
theorem dX11_deepest_73 : decode cX11_deepest 73 = .ok (.goto 4, 3) := by decide +kernel
theorem dX11_deepest_76 : decode cX11_deepest 76 = .ok (.iload_n 3, 1) := by decide +kernel
theorem dX11_deepest_77 : decode cX11_deepest 77 = .ok (.istore_n 3, 1) := by decide +kernel
theorem dX11_deepest_78 : decode cX11_deepest 78 = .ok (.iinc 4 1, 3) := by decide +kernel
theorem dX11_deepest_81 : decode cX11_deepest 81 = .ok (.goto (-53), 3) := by decide +kernel
theorem dX11_deepest_84 : decode cX11_deepest 84 = .ok (.iload_n 3, 1) := by decide +kernel
theorem dX11_deepest_85 : decode cX11_deepest 85 = .ok (.ireturn, 1) := by decide +kernel
theorem dX11_all_0 : decode cX11_all 0 = .ok (.aload_n 0, 1) := by decide +kernel
theorem dX11_all_1 : decode cX11_all 1 = .ok (.iconst 0, 1) := by decide +kernel
theorem dX11_all_2 : decode cX11_all 2 = .ok (.putfield 1, 3) := by decide +kernel
theorem dX11_all_5 : decode cX11_all 5 = .ok (.iconst 1, 1) := by decide +kernel
theorem dX11_all_6 : decode cX11_all 6 = .ok (.aload_n 0, 1) := by decide +kernel
theorem dX11_all_7 : decode cX11_all 7 = .ok (.invokevirtual 280, 3) := by decide +kernel
theorem dX11_all_10 : decode cX11_all 10 = .ok (.ishl, 1) := by decide +kernel
theorem dX11_all_11 : decode cX11_all 11 = .ok (.iconst 1, 1) := by decide +kernel
theorem dX11_all_12 : decode cX11_all 12 = .ok (.isub, 1) := by decide +kernel
theorem dX11_all_13 : decode cX11_all 13 = .ok (.istore_n 1, 1) := by decide +kernel
theorem dX11_all_14 : decode cX11_all 14 = .ok (.iconst 0, 1) := by decide +kernel
theorem dX11_all_15 : decode cX11_all 15 = .ok (.istore_n 2, 1) := by decide +kernel
theorem dX11_all_16 : decode cX11_all 16 = .ok (.iload_n 2, 1) := by decide +kernel
theorem dX11_all_17 : decode cX11_all 17 = .ok (.aload_n 0, 1) := by decide +kernel
theorem dX11_all_18 : decode cX11_all 18 = .ok (.invokevirtual 276, 3) := by decide +kernel
theorem dX11_all_21 : decode cX11_all 21 = .ok (.if_icmp .ge 30, 3) := by decide +kernel
theorem dX11_all_24 : decode cX11_all 24 = .ok (.iload_n 1, 1) := by decide +kernel
theorem dX11_all_25 : decode cX11_all 25 = .ok (.aload_n 0, 1) := by decide +kernel
theorem dX11_all_26 : decode cX11_all 26 = .ok (.iconst 0, 1) := by decide +kernel
theorem dX11_all_27 : decode cX11_all 27 = .ok (.iload_n 2, 1) := by decide +kernel
theorem dX11_all_28 : decode cX11_all 28 = .ok (.invokevirtual 315, 3) := by decide +kernel
theorem dX11_all_31 : decode cX11_all 31 = .ok (.ifCond .eq 7, 3) := by decide +kernel
theorem dX11_all_34 : decode cX11_all 34 = .ok (.iconst (-1), 1) := by decide +kernel
theorem dX11_all_35 : decode cX11_all 35 = .ok (.goto 8, 3) := by decide +kernel
theorem dX11_all_38 : decode cX11_all 38 = .ok (.aload_n 0, 1) := by decide +kernel
theorem dX11_all_39 : decode cX11_all 39 = .ok (.iload_n 2, 1) := by decide +kernel
theorem dX11_all_40 : decode cX11_all 40 = .ok (.invokevirtual 403, 3) := by decide +kernel
theorem dX11_all_43 : decode cX11_all 43 = .ok (.iand, 1) := by decide +kernel
theorem dX11_all_44 : decode cX11_all 44 = .ok (.istore_n 1, 1) := by decide +kernel
theorem dX11_all_45 : decode cX11_all 45 = .ok (.iinc 2 1, 3) := by decide +kernel
theorem dX11_all_48 : decode cX11_all 48 = .ok (.goto (-32), 3) := by decide +kernel
theorem dX11_all_51 : decode cX11_all 51 = .ok (.iload_n 1, 1) := by decide +kernel
theorem dX11_all_52 : decode cX11_all 52 = .ok (.ireturn, 1) := by decide +kernel
theorem dX11_sure_0 : decode cX11_sure 0 = .ok (.aload_n 0, 1) := by decide +kernel
theorem dX11_sure_1 : decode cX11_sure 1 = .ok (.iconst 0, 1) := by decide +kernel
theorem dX11_sure_2 : decode cX11_sure 2 = .ok (.putfield 1, 3) := by decide +kernel
theorem dX11_sure_5 : decode cX11_sure 5 = .ok (.iconst 0, 1) := by decide +kernel
theorem dX11_sure_6 : decode cX11_sure 6 = .ok (.istore_n 1, 1) := by decide +kernel
theorem dX11_sure_7 : decode cX11_sure 7 = .ok (.iconst 0, 1) := by decide +kernel
theorem dX11_sure_8 : decode cX11_sure 8 = .ok (.istore_n 2, 1) := by decide +kernel
theorem dX11_sure_9 : decode cX11_sure 9 = .ok (.iload_n 2, 1) := by decide +kernel
theorem dX11_sure_10 : decode cX11_sure 10 = .ok (.aload_n 0, 1) := by decide +kernel
theorem dX11_sure_11 : decode cX11_sure 11 = .ok (.invokevirtual 280, 3) := by decide +kernel
theorem dX11_sure_14 : decode cX11_sure 14 = .ok (.if_icmp .ge 167, 3) := by decide +kernel
theorem dX11_sure_17 : decode cX11_sure 17 = .ok (.iconst 0, 1) := by decide +kernel
theorem dX11_sure_18 : decode cX11_sure 18 = .ok (.istore_n 3, 1) := by decide +kernel
theorem dX11_sure_19 : decode cX11_sure 19 = .ok (.iconst 0, 1) := by decide +kernel
theorem dX11_sure_20 : decode cX11_sure 20 = .ok (.istore 4, 2) := by decide +kernel
theorem dX11_sure_22 : decode cX11_sure 22 = .ok (.iconst 0, 1) := by decide +kernel
theorem dX11_sure_23 : decode cX11_sure 23 = .ok (.istore 5, 2) := by decide +kernel
theorem dX11_sure_25 : decode cX11_sure 25 = .ok (.iconst 0, 1) := by decide +kernel
theorem dX11_sure_26 : decode cX11_sure 26 = .ok (.istore 6, 2) := by decide +kernel
theorem dX11_sure_28 : decode cX11_sure 28 = .ok (.iconst 1, 1) := by decide +kernel
theorem dX11_sure_29 : decode cX11_sure 29 = .ok (.istore 7, 2) := by decide +kernel
theorem dX11_sure_31 : decode cX11_sure 31 = .ok (.iconst 0, 1) := by decide +kernel
theorem dX11_sure_32 : decode cX11_sure 32 = .ok (.istore 8, 2) := by decide +kernel
theorem dX11_sure_34 : decode cX11_sure 34 = .ok (.iload 8, 2) := by decide +kernel
theorem dX11_sure_36 : decode cX11_sure 36 = .ok (.aload_n 0, 1) := by decide +kernel
theorem dX11_sure_37 : decode cX11_sure 37 = .ok (.invokevirtual 276, 3) := by decide +kernel
theorem dX11_sure_40 : decode cX11_sure 40 = .ok (.if_icmp .ge 106, 3) := by decide +kernel
theorem dX11_sure_43 : decode cX11_sure 43 = .ok (.aload_n 0, 1) := by decide +kernel
theorem dX11_sure_44 : decode cX11_sure 44 = .ok (.iconst 0, 1) := by decide +kernel
theorem dX11_sure_45 : decode cX11_sure 45 = .ok (.iload 8, 2) := by decide +kernel
theorem dX11_sure_47 : decode cX11_sure 47 = .ok (.invokevirtual 315, 3) := by decide +kernel
theorem dX11_sure_50 : decode cX11_sure 50 = .ok (.ifCond .ne 90, 3) := by decide +kernel
theorem dX11_sure_53 : decode cX11_sure 53 = .ok (.aload_n 0, 1) := by decide +kernel
theorem dX11_sure_54 : decode cX11_sure 54 = .ok (.getfield 123, 3) := by decide +kernel
theorem dX11_sure_57 : decode cX11_sure 57 = .ok (.bipush 23, 2) := by decide +kernel
theorem dX11_sure_59 : decode cX11_sure 59 = .ok (.iload 8, 2) := by decide +kernel
theorem dX11_sure_61 : decode cX11_sure 61 = .ok (.iadd, 1) := by decide +kernel
theorem dX11_sure_62 : decode cX11_sure 62 = .ok (.iaload, 1) := by decide +kernel
theorem dX11_sure_63 : decode cX11_sure 63 = .ok (.aload_n 0, 1) := by decide +kernel
theorem dX11_sure_64 : decode cX11_sure 64 = .ok (.iload 8, 2) := by decide +kernel
theorem dX11_sure_66 : decode cX11_sure 66 = .ok (.iload_n 2, 1) := by decide +kernel
theorem dX11_sure_67 : decode cX11_sure 67 = .ok (.invokevirtual 394, 3) := by decide +kernel
theorem dX11_sure_70 : decode cX11_sure 70 = .ok (.isub, 1) := by decide +kernel
theorem dX11_sure_71 : decode cX11_sure 71 = .ok (.istore 9, 2) := by decide +kernel
theorem dX11_sure_73 : decode cX11_sure 73 = .ok (.aload_n 0, 1) := by decide +kernel
theorem dX11_sure_74 : decode cX11_sure 74 = .ok (.iload 8, 2) := by decide +kernel
theorem dX11_sure_76 : decode cX11_sure 76 = .ok (.iload_n 2, 1) := by decide +kernel
theorem dX11_sure_77 : decode cX11_sure 77 = .ok (.invokevirtual 400, 3) := by decide +kernel
theorem dX11_sure_80 : decode cX11_sure 80 = .ok (.istore 10, 2) := by decide +kernel
theorem dX11_sure_82 : decode cX11_sure 82 = .ok (.iload 7, 2) := by decide +kernel
theorem dX11_sure_84 : decode cX11_sure 84 = .ok (.ifCond .eq 20, 3) := by decide +kernel
theorem dX11_sure_87 : decode cX11_sure 87 = .ok (.iload 9, 2) := by decide +kernel
theorem dX11_sure_89 : decode cX11_sure 89 = .ok (.ifCond .lt 15, 3) := by decide +kernel
theorem dX11_sure_92 : decode cX11_sure 92 = .ok (.iload 10, 2) := by decide +kernel
theorem dX11_sure_94 : decode cX11_sure 94 = .ok (.ldc_w 386, 3) := by decide +kernel
theorem dX11_sure_97 : decode cX11_sure 97 = .ok (.if_icmp .ge 7, 3) := by decide +kernel
theorem dX11_sure_100 : decode cX11_sure 100 = .ok (.iconst 1, 1) := by decide +kernel
theorem dX11_sure_101 : decode cX11_sure 101 = .ok (.goto 4, 3) := by decide +kernel
theorem dX11_sure_104 : decode cX11_sure 104 = .ok (.iconst 0, 1) := by decide +kernel
theorem dX11_sure_105 : decode cX11_sure 105 = .ok (.istore 7, 2) := by decide +kernel
theorem dX11_sure_107 : decode cX11_sure 107 = .ok (.iload 4, 2) := by decide +kernel
theorem dX11_sure_109 : decode cX11_sure 109 = .ok (.iload 9, 2) := by decide +kernel
theorem dX11_sure_111 : decode cX11_sure 111 = .ok (.iadd, 1) := by decide +kernel
theorem dX11_sure_112 : decode cX11_sure 112 = .ok (.istore 4, 2) := by decide +kernel
theorem dX11_sure_114 : decode cX11_sure 114 = .ok (.iload 9, 2) := by decide +kernel
theorem dX11_sure_116 : decode cX11_sure 116 = .ok (.iload 5, 2) := by decide +kernel
theorem dX11_sure_118 : decode cX11_sure 118 = .ok (.if_icmp .le 8, 3) := by decide +kernel
theorem dX11_sure_121 : decode cX11_sure 121 = .ok (.iload 9, 2) := by decide +kernel
theorem dX11_sure_123 : decode cX11_sure 123 = .ok (.goto 5, 3) := by decide +kernel
theorem dX11_sure_126 : decode cX11_sure 126 = .ok (.iload 5, 2) := by decide +kernel
theorem dX11_sure_128 : decode cX11_sure 128 = .ok (.istore 5, 2) := by decide +kernel
theorem dX11_sure_130 : decode cX11_sure 130 = .ok (.iload 6, 2) := by decide +kernel
theorem dX11_sure_132 : decode cX11_sure 132 = .ok (.iload 10, 2) := by decide +kernel
theorem dX11_sure_134 : decode cX11_sure 134 = .ok (.iadd, 1) := by decide +kernel
theorem dX11_sure_135 : decode cX11_sure 135 = .ok (.istore 6, 2) := by decide +kernel
theorem dX11_sure_137 : decode cX11_sure 137 = .ok (.iinc 3 1, 3) := by decide +kernel
theorem dX11_sure_140 : decode cX11_sure 140 = .ok (.iinc 8 1, 3) := by decide +kernel
theorem dX11_sure_143 : decode cX11_sure 143 = .ok (.goto (-109), 3) := by decide +kernel
theorem dX11_sure_146 : decode cX11_sure 146 = .ok (.iload_n 1, 1) := by decide +kernel
theorem dX11_sure_147 : decode cX11_sure 147 = .ok (.iload 7, 2) := by decide +kernel
theorem dX11_sure_149 : decode cX11_sure 149 = .ok (.ifCond .eq 23, 3) := by decide +kernel
theorem dX11_sure_152 : decode cX11_sure 152 = .ok (.iload_n 3, 1) := by decide +kernel
theorem dX11_sure_153 : decode cX11_sure 153 = .ok (.ifCond .le 19, 3) := by decide +kernel
theorem dX11_sure_156 : decode cX11_sure 156 = .ok (.iload 4, 2) := by decide +kernel
theorem dX11_sure_158 : decode cX11_sure 158 = .ok (.iload 5, 2) := by decide +kernel
theorem dX11_sure_160 : decode cX11_sure 160 = .ok (.isub, 1) := by decide +kernel
theorem dX11_sure_161 : decode cX11_sure 161 = .ok (.iload 6, 2) := by decide +kernel
theorem dX11_sure_163 : decode cX11_sure 163 = .ok (.if_icmp .lt 9, 3) := by decide +kernel
theorem dX11_sure_166 : decode cX11_sure 166 = .ok (.iconst 1, 1) := by decide +kernel
theorem dX11_sure_167 : decode cX11_sure 167 = .ok (.iload_n 2, 1) := by decide +kernel
theorem dX11_sure_168 : decode cX11_sure 168 = .ok (.ishl, 1) := by decide +kernel
theorem dX11_sure_169 : decode cX11_sure 169 = .ok (.goto 4, 3) := by decide +kernel
theorem dX11_sure_172 : decode cX11_sure 172 = .ok (.iconst 0, 1) := by decide +kernel
theorem dX11_sure_173 : decode cX11_sure 173 = .ok (.ior, 1) := by decide +kernel
theorem dX11_sure_174 : decode cX11_sure 174 = .ok (.istore_n 1, 1) := by decide +kernel
theorem dX11_sure_175 : decode cX11_sure 175 = .ok (.iinc 2 1, 3) := by decide +kernel
theorem dX11_sure_178 : decode cX11_sure 178 = .ok (.goto (-169), 3) := by decide +kernel
theorem dX11_sure_181 : decode cX11_sure 181 = .ok (.iload_n 1, 1) := by decide +kernel
theorem dX11_sure_182 : decode cX11_sure 182 = .ok (.ireturn, 1) := by decide +kernel
theorem dX11_lacks_0 : decode cX11_lacks 0 = .ok (.aload_n 0, 1) := by decide +kernel
theorem dX11_lacks_1 : decode cX11_lacks 1 = .ok (.iconst 0, 1) := by decide +kernel
theorem dX11_lacks_2 : decode cX11_lacks 2 = .ok (.putfield 1, 3) := by decide +kernel
theorem dX11_lacks_5 : decode cX11_lacks 5 = .ok (.aload_n 0, 1) := by decide +kernel
theorem dX11_lacks_6 : decode cX11_lacks 6 = .ok (.iload_n 1, 1) := by decide +kernel
theorem dX11_lacks_7 : decode cX11_lacks 7 = .ok (.invokevirtual 352, 3) := by decide +kernel
theorem dX11_lacks_10 : decode cX11_lacks 10 = .ok (.ifCond .eq 20, 3) := by decide +kernel
theorem dX11_lacks_13 : decode cX11_lacks 13 = .ok (.aload_n 0, 1) := by decide +kernel
theorem dX11_lacks_14 : decode cX11_lacks 14 = .ok (.iload_n 2, 1) := by decide +kernel
theorem dX11_lacks_15 : decode cX11_lacks 15 = .ok (.invokevirtual 343, 3) := by decide +kernel
theorem dX11_lacks_18 : decode cX11_lacks 18 = .ok (.ifCond .eq 12, 3) := by decide +kernel
theorem dX11_lacks_21 : decode cX11_lacks 21 = .ok (.aload_n 0, 1) := by decide +kernel
theorem dX11_lacks_22 : decode cX11_lacks 22 = .ok (.iconst 0, 1) := by decide +kernel
theorem dX11_lacks_23 : decode cX11_lacks 23 = .ok (.iload_n 1, 1) := by decide +kernel
theorem dX11_lacks_24 : decode cX11_lacks 24 = .ok (.invokevirtual 315, 3) := by decide +kernel
theorem dX11_lacks_27 : decode cX11_lacks 27 = .ok (.ifCond .eq 5, 3) := by decide +kernel
theorem dX11_lacks_30 : decode cX11_lacks 30 = .ok (.iconst (-1), 1) := by decide +kernel
theorem dX11_lacks_31 : decode cX11_lacks 31 = .ok (.ireturn, 1) := by decide +kernel
theorem dX11_lacks_32 : decode cX11_lacks 32 = .ok (.aload_n 0, 1) := by decide +kernel
theorem dX11_lacks_33 : decode cX11_lacks 33 = .ok (.iload_n 1, 1) := by decide +kernel
theorem dX11_lacks_34 : decode cX11_lacks 34 = .ok (.iload_n 2, 1) := by decide +kernel
theorem dX11_lacks_35 : decode cX11_lacks 35 = .ok (.invokevirtual 394, 3) := by decide +kernel
theorem dX11_lacks_38 : decode cX11_lacks 38 = .ok (.aload_n 0, 1) := by decide +kernel
theorem dX11_lacks_39 : decode cX11_lacks 39 = .ok (.iload_n 1, 1) := by decide +kernel
theorem dX11_lacks_40 : decode cX11_lacks 40 = .ok (.iload_n 2, 1) := by decide +kernel
theorem dX11_lacks_41 : decode cX11_lacks 41 = .ok (.invokevirtual 400, 3) := by decide +kernel
theorem dX11_lacks_44 : decode cX11_lacks 44 = .ok (.iadd, 1) := by decide +kernel
theorem dX11_lacks_45 : decode cX11_lacks 45 = .ok (.istore_n 3, 1) := by decide +kernel
theorem dX11_lacks_46 : decode cX11_lacks 46 = .ok (.iload_n 3, 1) := by decide +kernel
theorem dX11_lacks_47 : decode cX11_lacks 47 = .ok (.aload_n 0, 1) := by decide +kernel
theorem dX11_lacks_48 : decode cX11_lacks 48 = .ok (.getfield 123, 3) := by decide +kernel
theorem dX11_lacks_51 : decode cX11_lacks 51 = .ok (.bipush 23, 2) := by decide +kernel
theorem dX11_lacks_53 : decode cX11_lacks 53 = .ok (.iload_n 1, 1) := by decide +kernel
theorem dX11_lacks_54 : decode cX11_lacks 54 = .ok (.iadd, 1) := by decide +kernel
theorem dX11_lacks_55 : decode cX11_lacks 55 = .ok (.iaload, 1) := by decide +kernel
theorem dX11_lacks_56 : decode cX11_lacks 56 = .ok (.isub, 1) := by decide +kernel
theorem dX11_lacks_57 : decode cX11_lacks 57 = .ok (.istore 4, 2) := by decide +kernel
theorem dX11_lacks_59 : decode cX11_lacks 59 = .ok (.iload_n 3, 1) := by decide +kernel
theorem dX11_lacks_60 : decode cX11_lacks 60 = .ok (.ldc_w 386, 3) := by decide +kernel
theorem dX11_lacks_63 : decode cX11_lacks 63 = .ok (.if_icmp .lt 7, 3) := by decide +kernel
theorem dX11_lacks_66 : decode cX11_lacks 66 = .ok (.iconst (-1), 1) := by decide +kernel
theorem dX11_lacks_67 : decode cX11_lacks 67 = .ok (.goto 14, 3) := by decide +kernel
theorem dX11_lacks_70 : decode cX11_lacks 70 = .ok (.iload 4, 2) := by decide +kernel
theorem dX11_lacks_72 : decode cX11_lacks 72 = .ok (.ifCond .ge 7, 3) := by decide +kernel
theorem dX11_lacks_75 : decode cX11_lacks 75 = .ok (.iconst 0, 1) := by decide +kernel
theorem dX11_lacks_76 : decode cX11_lacks 76 = .ok (.goto 5, 3) := by decide +kernel
theorem dX11_lacks_79 : decode cX11_lacks 79 = .ok (.iload 4, 2) := by decide +kernel
theorem dX11_lacks_81 : decode cX11_lacks 81 = .ok (.ireturn, 1) := by decide +kernel
theorem dX11_clear_0 : decode cX11_clear 0 = .ok (.aload_n 0, 1) := by decide +kernel
theorem dX11_clear_1 : decode cX11_clear 1 = .ok (.iconst 0, 1) := by decide +kernel
theorem dX11_clear_2 : decode cX11_clear 2 = .ok (.putfield 1, 3) := by decide +kernel
theorem dX11_clear_5 : decode cX11_clear 5 = .ok (.aload_n 0, 1) := by decide +kernel
theorem dX11_clear_6 : decode cX11_clear 6 = .ok (.iconst 0, 1) := by decide +kernel
theorem dX11_clear_7 : decode cX11_clear 7 = .ok (.sipush 1008, 3) := by decide +kernel
theorem dX11_clear_10 : decode cX11_clear 10 = .ok (.bipush 31, 2) := by decide +kernel
theorem dX11_clear_12 : decode cX11_clear 12 = .ok (.invokevirtual 289, 3) := by decide +kernel
theorem dX11_clear_15 : decode cX11_clear 15 = .ok (.iconst 0, 1) := by decide +kernel
theorem dX11_clear_16 : decode cX11_clear 16 = .ok (.istore_n 2, 1) := by decide +kernel
theorem dX11_clear_17 : decode cX11_clear 17 = .ok (.iload_n 2, 1) := by decide +kernel
theorem dX11_clear_18 : decode cX11_clear 18 = .ok (.bipush 60, 2) := by decide +kernel
theorem dX11_clear_20 : decode cX11_clear 20 = .ok (.if_icmp .gt 38, 3) := by decide +kernel
theorem dX11_clear_23 : decode cX11_clear 23 = .ok (.aload_n 0, 1) := by decide +kernel
theorem dX11_clear_24 : decode cX11_clear 24 = .ok (.iload_n 1, 1) := by decide +kernel
theorem dX11_clear_25 : decode cX11_clear 25 = .ok (.invokevirtual 349, 3) := by decide +kernel
theorem dX11_clear_28 : decode cX11_clear 28 = .ok (.ifCond .eq 30, 3) := by decide +kernel
theorem dX11_clear_31 : decode cX11_clear 31 = .ok (.aload_n 0, 1) := by decide +kernel
theorem dX11_clear_32 : decode cX11_clear 32 = .ok (.sipush 1008, 3) := by decide +kernel
theorem dX11_clear_35 : decode cX11_clear 35 = .ok (.iload_n 1, 1) := by decide +kernel
theorem dX11_clear_36 : decode cX11_clear 36 = .ok (.invokevirtual 322, 3) := by decide +kernel
theorem dX11_clear_39 : decode cX11_clear 39 = .ok (.ifCond .ne 5, 3) := by decide +kernel
theorem dX11_clear_42 : decode cX11_clear 42 = .ok (.iload_n 2, 1) := by decide +kernel
theorem dX11_clear_43 : decode cX11_clear 43 = .ok (.ireturn, 1) := by decide +kernel
theorem dX11_clear_44 : decode cX11_clear 44 = .ok (.aload_n 0, 1) := by decide +kernel
theorem dX11_clear_45 : decode cX11_clear 45 = .ok (.sipush 1008, 3) := by decide +kernel
theorem dX11_clear_48 : decode cX11_clear 48 = .ok (.invokevirtual 378, 3) := by decide +kernel
theorem dX11_clear_51 : decode cX11_clear 51 = .ok (.pop, 1) := by decide +kernel
theorem dX11_clear_52 : decode cX11_clear 52 = .ok (.iinc 2 1, 3) := by decide +kernel
theorem dX11_clear_55 : decode cX11_clear 55 = .ok (.goto (-38), 3) := by decide +kernel
theorem dX11_clear_58 : decode cX11_clear 58 = .ok (.iconst (-1), 1) := by decide +kernel
theorem dX11_clear_59 : decode cX11_clear 59 = .ok (.ireturn, 1) := by decide +kernel
theorem dX11_comesFrom_0 : decode cX11_comesFrom 0 = .ok (.iconst 1, 1) := by decide +kernel
theorem dX11_comesFrom_1 : decode cX11_comesFrom 1 = .ok (.iload_n 1, 1) := by decide +kernel
theorem dX11_comesFrom_2 : decode cX11_comesFrom 2 = .ok (.ishl, 1) := by decide +kernel
theorem dX11_comesFrom_3 : decode cX11_comesFrom 3 = .ok (.istore_n 3, 1) := by decide +kernel
theorem dX11_comesFrom_4 : decode cX11_comesFrom 4 = .ok (.iconst 0, 1) := by decide +kernel
theorem dX11_comesFrom_5 : decode cX11_comesFrom 5 = .ok (.istore 4, 2) := by decide +kernel
theorem dX11_comesFrom_7 : decode cX11_comesFrom 7 = .ok (.iload 4, 2) := by decide +kernel
theorem dX11_comesFrom_9 : decode cX11_comesFrom 9 = .ok (.bipush 7, 2) := by decide +kernel
theorem dX11_comesFrom_11 : decode cX11_comesFrom 11 = .ok (.if_icmp .ge 74, 3) := by decide +kernel
theorem dX11_comesFrom_14 : decode cX11_comesFrom 14 = .ok (.iconst 0, 1) := by decide +kernel
theorem dX11_comesFrom_15 : decode cX11_comesFrom 15 = .ok (.istore 5, 2) := by decide +kernel
theorem dX11_comesFrom_17 : decode cX11_comesFrom 17 = .ok (.iload 5, 2) := by decide +kernel
theorem dX11_comesFrom_19 : decode cX11_comesFrom 19 = .ok (.aload_n 0, 1) := by decide +kernel
theorem dX11_comesFrom_20 : decode cX11_comesFrom 20 = .ok (.invokevirtual 292, 3) := by decide +kernel
theorem dX11_comesFrom_23 : decode cX11_comesFrom 23 = .ok (.if_icmp .ge 56, 3) := by decide +kernel
theorem dX11_comesFrom_26 : decode cX11_comesFrom 26 = .ok (.iconst 1, 1) := by decide +kernel
theorem dX11_comesFrom_27 : decode cX11_comesFrom 27 = .ok (.aload_n 0, 1) := by decide +kernel
theorem dX11_comesFrom_28 : decode cX11_comesFrom 28 = .ok (.iload 5, 2) := by decide +kernel
theorem dX11_comesFrom_30 : decode cX11_comesFrom 30 = .ok (.iconst 0, 1) := by decide +kernel
theorem dX11_comesFrom_31 : decode cX11_comesFrom 31 = .ok (.invokevirtual 304, 3) := by decide +kernel
theorem dX11_comesFrom_34 : decode cX11_comesFrom 34 = .ok (.ishl, 1) := by decide +kernel
theorem dX11_comesFrom_35 : decode cX11_comesFrom 35 = .ok (.iconst 1, 1) := by decide +kernel
theorem dX11_comesFrom_36 : decode cX11_comesFrom 36 = .ok (.aload_n 0, 1) := by decide +kernel
theorem dX11_comesFrom_37 : decode cX11_comesFrom 37 = .ok (.iload 5, 2) := by decide +kernel
theorem dX11_comesFrom_39 : decode cX11_comesFrom 39 = .ok (.iconst 1, 1) := by decide +kernel
theorem dX11_comesFrom_40 : decode cX11_comesFrom 40 = .ok (.invokevirtual 304, 3) := by decide +kernel
theorem dX11_comesFrom_43 : decode cX11_comesFrom 43 = .ok (.ishl, 1) := by decide +kernel
theorem dX11_comesFrom_44 : decode cX11_comesFrom 44 = .ok (.ior, 1) := by decide +kernel
theorem dX11_comesFrom_45 : decode cX11_comesFrom 45 = .ok (.istore 6, 2) := by decide +kernel
theorem dX11_comesFrom_47 : decode cX11_comesFrom 47 = .ok (.iload_n 3, 1) := by decide +kernel
theorem dX11_comesFrom_48 : decode cX11_comesFrom 48 = .ok (.iload_n 2, 1) := by decide +kernel
theorem dX11_comesFrom_49 : decode cX11_comesFrom 49 = .ok (.iload 5, 2) := by decide +kernel
theorem dX11_comesFrom_51 : decode cX11_comesFrom 51 = .ok (.ishr, 1) := by decide +kernel
theorem dX11_comesFrom_52 : decode cX11_comesFrom 52 = .ok (.iconst 1, 1) := by decide +kernel
theorem dX11_comesFrom_53 : decode cX11_comesFrom 53 = .ok (.iand, 1) := by decide +kernel
theorem dX11_comesFrom_54 : decode cX11_comesFrom 54 = .ok (.iconst 1, 1) := by decide +kernel
theorem dX11_comesFrom_55 : decode cX11_comesFrom 55 = .ok (.if_icmp .ne 15, 3) := by decide +kernel
theorem dX11_comesFrom_58 : decode cX11_comesFrom 58 = .ok (.iload_n 3, 1) := by decide +kernel
theorem dX11_comesFrom_59 : decode cX11_comesFrom 59 = .ok (.iload 6, 2) := by decide +kernel
theorem dX11_comesFrom_61 : decode cX11_comesFrom 61 = .ok (.iand, 1) := by decide +kernel
theorem dX11_comesFrom_62 : decode cX11_comesFrom 62 = .ok (.ifCond .eq 8, 3) := by decide +kernel
theorem dX11_comesFrom_65 : decode cX11_comesFrom 65 = .ok (.iload 6, 2) := by decide +kernel
theorem dX11_comesFrom_67 : decode cX11_comesFrom 67 = .ok (.goto 4, 3) := by decide +kernel
theorem dX11_comesFrom_70 : decode cX11_comesFrom 70 = .ok (.iconst 0, 1) := by decide +kernel
theorem dX11_comesFrom_71 : decode cX11_comesFrom 71 = .ok (.ior, 1) := by decide +kernel
theorem dX11_comesFrom_72 : decode cX11_comesFrom 72 = .ok (.istore_n 3, 1) := by decide +kernel
theorem dX11_comesFrom_73 : decode cX11_comesFrom 73 = .ok (.iinc 5 1, 3) := by decide +kernel
theorem dX11_comesFrom_76 : decode cX11_comesFrom 76 = .ok (.goto (-59), 3) := by decide +kernel
theorem dX11_comesFrom_79 : decode cX11_comesFrom 79 = .ok (.iinc 4 1, 3) := by decide +kernel
theorem dX11_comesFrom_82 : decode cX11_comesFrom 82 = .ok (.goto (-75), 3) := by decide +kernel
theorem dX11_comesFrom_85 : decode cX11_comesFrom 85 = .ok (.iload_n 3, 1) := by decide +kernel
theorem dX11_comesFrom_86 : decode cX11_comesFrom 86 = .ok (.ireturn, 1) := by decide +kernel
theorem dX11_allWays_0 : decode cX11_allWays 0 = .ok (.iconst 1, 1) := by decide +kernel
theorem dX11_allWays_1 : decode cX11_allWays 1 = .ok (.aload_n 0, 1) := by decide +kernel
theorem dX11_allWays_2 : decode cX11_allWays 2 = .ok (.invokevirtual 292, 3) := by decide +kernel
theorem dX11_allWays_5 : decode cX11_allWays 5 = .ok (.ishl, 1) := by decide +kernel
theorem dX11_allWays_6 : decode cX11_allWays 6 = .ok (.iconst 1, 1) := by decide +kernel
theorem dX11_allWays_7 : decode cX11_allWays 7 = .ok (.isub, 1) := by decide +kernel
theorem dX11_allWays_8 : decode cX11_allWays 8 = .ok (.ireturn, 1) := by decide +kernel
theorem dX11_led_0 : decode cX11_led 0 = .ok (.aload_n 0, 1) := by decide +kernel
theorem dX11_led_1 : decode cX11_led 1 = .ok (.iconst 0, 1) := by decide +kernel
theorem dX11_led_2 : decode cX11_led 2 = .ok (.putfield 1, 3) := by decide +kernel
theorem dX11_led_5 : decode cX11_led 5 = .ok (.aload_n 0, 1) := by decide +kernel
theorem dX11_led_6 : decode cX11_led 6 = .ok (.invokevirtual 280, 3) := by decide +kernel
theorem dX11_led_9 : decode cX11_led 9 = .ok (.ifCond .ne 7, 3) := by decide +kernel
theorem dX11_led_12 : decode cX11_led 12 = .ok (.iconst 0, 1) := by decide +kernel
theorem dX11_led_13 : decode cX11_led 13 = .ok (.goto 14, 3) := by decide +kernel
theorem dX11_led_16 : decode cX11_led 16 = .ok (.aload_n 0, 1) := by decide +kernel
theorem dX11_led_17 : decode cX11_led 17 = .ok (.iconst 0, 1) := by decide +kernel
theorem dX11_led_18 : decode cX11_led 18 = .ok (.aload_n 0, 1) := by decide +kernel
theorem dX11_led_19 : decode cX11_led 19 = .ok (.getfield 123, 3) := by decide +kernel
theorem dX11_led_22 : decode cX11_led 22 = .ok (.iconst 1, 1) := by decide +kernel
theorem dX11_led_23 : decode cX11_led 23 = .ok (.iaload, 1) := by decide +kernel
theorem dX11_led_24 : decode cX11_led 24 = .ok (.invokevirtual 406, 3) := by decide +kernel
theorem dX11_led_27 : decode cX11_led 27 = .ok (.ireturn, 1) := by decide +kernel
theorem dX11_lost_0 : decode cX11_lost 0 = .ok (.aload_n 0, 1) := by decide +kernel
theorem dX11_lost_1 : decode cX11_lost 1 = .ok (.iconst 0, 1) := by decide +kernel
theorem dX11_lost_2 : decode cX11_lost 2 = .ok (.putfield 1, 3) := by decide +kernel
theorem dX11_lost_5 : decode cX11_lost 5 = .ok (.iconst 0, 1) := by decide +kernel
theorem dX11_lost_6 : decode cX11_lost 6 = .ok (.istore_n 1, 1) := by decide +kernel
theorem dX11_lost_7 : decode cX11_lost 7 = .ok (.iconst 0, 1) := by decide +kernel
theorem dX11_lost_8 : decode cX11_lost 8 = .ok (.istore_n 2, 1) := by decide +kernel
theorem dX11_lost_9 : decode cX11_lost 9 = .ok (.iload_n 2, 1) := by decide +kernel
theorem dX11_lost_10 : decode cX11_lost 10 = .ok (.aload_n 0, 1) := by decide +kernel
theorem dX11_lost_11 : decode cX11_lost 11 = .ok (.invokevirtual 276, 3) := by decide +kernel
theorem dX11_lost_14 : decode cX11_lost 14 = .ok (.if_icmp .ge 71, 3) := by decide +kernel
theorem dX11_lost_17 : decode cX11_lost 17 = .ok (.aload_n 0, 1) := by decide +kernel
theorem dX11_lost_18 : decode cX11_lost 18 = .ok (.getfield 123, 3) := by decide +kernel
theorem dX11_lost_21 : decode cX11_lost 21 = .ok (.bipush 19, 2) := by decide +kernel
theorem dX11_lost_23 : decode cX11_lost 23 = .ok (.iload_n 2, 1) := by decide +kernel
theorem dX11_lost_24 : decode cX11_lost 24 = .ok (.iadd, 1) := by decide +kernel
theorem dX11_lost_25 : decode cX11_lost 25 = .ok (.iaload, 1) := by decide +kernel
theorem dX11_lost_26 : decode cX11_lost 26 = .ok (.istore_n 3, 1) := by decide +kernel
theorem dX11_lost_27 : decode cX11_lost 27 = .ok (.iload_n 3, 1) := by decide +kernel
theorem dX11_lost_28 : decode cX11_lost 28 = .ok (.ifCond .lt 24, 3) := by decide +kernel
theorem dX11_lost_31 : decode cX11_lost 31 = .ok (.aload_n 0, 1) := by decide +kernel
theorem dX11_lost_32 : decode cX11_lost 32 = .ok (.iconst 0, 1) := by decide +kernel
theorem dX11_lost_33 : decode cX11_lost 33 = .ok (.aload_n 0, 1) := by decide +kernel
theorem dX11_lost_34 : decode cX11_lost 34 = .ok (.invokevirtual 387, 3) := by decide +kernel
theorem dX11_lost_37 : decode cX11_lost 37 = .ok (.invokevirtual 406, 3) := by decide +kernel
theorem dX11_lost_40 : decode cX11_lost 40 = .ok (.iload_n 3, 1) := by decide +kernel
theorem dX11_lost_41 : decode cX11_lost 41 = .ok (.ishr, 1) := by decide +kernel
theorem dX11_lost_42 : decode cX11_lost 42 = .ok (.iconst 1, 1) := by decide +kernel
theorem dX11_lost_43 : decode cX11_lost 43 = .ok (.iand, 1) := by decide +kernel
theorem dX11_lost_44 : decode cX11_lost 44 = .ok (.iconst 1, 1) := by decide +kernel
theorem dX11_lost_45 : decode cX11_lost 45 = .ok (.if_icmp .ne 7, 3) := by decide +kernel
theorem dX11_lost_48 : decode cX11_lost 48 = .ok (.iconst 1, 1) := by decide +kernel
theorem dX11_lost_49 : decode cX11_lost 49 = .ok (.goto 4, 3) := by decide +kernel
theorem dX11_lost_52 : decode cX11_lost 52 = .ok (.iconst 0, 1) := by decide +kernel
theorem dX11_lost_53 : decode cX11_lost 53 = .ok (.istore 4, 2) := by decide +kernel
theorem dX11_lost_55 : decode cX11_lost 55 = .ok (.iload_n 1, 1) := by decide +kernel
theorem dX11_lost_56 : decode cX11_lost 56 = .ok (.aload_n 0, 1) := by decide +kernel
theorem dX11_lost_57 : decode cX11_lost 57 = .ok (.iconst 0, 1) := by decide +kernel
theorem dX11_lost_58 : decode cX11_lost 58 = .ok (.iload_n 2, 1) := by decide +kernel
theorem dX11_lost_59 : decode cX11_lost 59 = .ok (.invokevirtual 315, 3) := by decide +kernel
theorem dX11_lost_62 : decode cX11_lost 62 = .ok (.ifCond .ne 14, 3) := by decide +kernel
theorem dX11_lost_65 : decode cX11_lost 65 = .ok (.iload 4, 2) := by decide +kernel
theorem dX11_lost_67 : decode cX11_lost 67 = .ok (.ifCond .ne 9, 3) := by decide +kernel
theorem dX11_lost_70 : decode cX11_lost 70 = .ok (.iconst 1, 1) := by decide +kernel
theorem dX11_lost_71 : decode cX11_lost 71 = .ok (.iload_n 2, 1) := by decide +kernel
theorem dX11_lost_72 : decode cX11_lost 72 = .ok (.ishl, 1) := by decide +kernel
theorem dX11_lost_73 : decode cX11_lost 73 = .ok (.goto 4, 3) := by decide +kernel
theorem dX11_lost_76 : decode cX11_lost 76 = .ok (.iconst 0, 1) := by decide +kernel
theorem dX11_lost_77 : decode cX11_lost 77 = .ok (.ior, 1) := by decide +kernel
theorem dX11_lost_78 : decode cX11_lost 78 = .ok (.istore_n 1, 1) := by decide +kernel
theorem dX11_lost_79 : decode cX11_lost 79 = .ok (.iinc 2 1, 3) := by decide +kernel
theorem dX11_lost_82 : decode cX11_lost 82 = .ok (.goto (-73), 3) := by decide +kernel
theorem dX11_lost_85 : decode cX11_lost 85 = .ok (.iload_n 1, 1) := by decide +kernel
theorem dX11_lost_86 : decode cX11_lost 86 = .ok (.ireturn, 1) := by decide +kernel
theorem dX11_worst_0 : decode cX11_worst 0 = .ok (.aload_n 0, 1) := by decide +kernel
theorem dX11_worst_1 : decode cX11_worst 1 = .ok (.iconst 0, 1) := by decide +kernel
theorem dX11_worst_2 : decode cX11_worst 2 = .ok (.putfield 1, 3) := by decide +kernel
theorem dX11_worst_5 : decode cX11_worst 5 = .ok (.iconst (-1), 1) := by decide +kernel
theorem dX11_worst_6 : decode cX11_worst 6 = .ok (.istore_n 1, 1) := by decide +kernel
theorem dX11_worst_7 : decode cX11_worst 7 = .ok (.iconst 0, 1) := by decide +kernel
theorem dX11_worst_8 : decode cX11_worst 8 = .ok (.istore_n 2, 1) := by decide +kernel
theorem dX11_worst_9 : decode cX11_worst 9 = .ok (.iconst 0, 1) := by decide +kernel
theorem dX11_worst_10 : decode cX11_worst 10 = .ok (.istore_n 3, 1) := by decide +kernel
theorem dX11_worst_11 : decode cX11_worst 11 = .ok (.iload_n 3, 1) := by decide +kernel
theorem dX11_worst_12 : decode cX11_worst 12 = .ok (.aload_n 0, 1) := by decide +kernel
theorem dX11_worst_13 : decode cX11_worst 13 = .ok (.invokevirtual 292, 3) := by decide +kernel
theorem dX11_worst_16 : decode cX11_worst 16 = .ok (.if_icmp .ge 69, 3) := by decide +kernel
theorem dX11_worst_19 : decode cX11_worst 19 = .ok (.aload_n 0, 1) := by decide +kernel
theorem dX11_worst_20 : decode cX11_worst 20 = .ok (.iconst 0, 1) := by decide +kernel
theorem dX11_worst_21 : decode cX11_worst 21 = .ok (.aload_n 0, 1) := by decide +kernel
theorem dX11_worst_22 : decode cX11_worst 22 = .ok (.invokevirtual 409, 3) := by decide +kernel
theorem dX11_worst_25 : decode cX11_worst 25 = .ok (.iconst 1, 1) := by decide +kernel
theorem dX11_worst_26 : decode cX11_worst 26 = .ok (.iload_n 3, 1) := by decide +kernel
theorem dX11_worst_27 : decode cX11_worst 27 = .ok (.ishl, 1) := by decide +kernel
theorem dX11_worst_28 : decode cX11_worst 28 = .ok (.iconst (-1), 1) := by decide +kernel
theorem dX11_worst_29 : decode cX11_worst 29 = .ok (.ixor, 1) := by decide +kernel
theorem dX11_worst_30 : decode cX11_worst 30 = .ok (.iand, 1) := by decide +kernel
theorem dX11_worst_31 : decode cX11_worst 31 = .ok (.invokevirtual 406, 3) := by decide +kernel
theorem dX11_worst_34 : decode cX11_worst 34 = .ok (.invokestatic 383, 3) := by decide +kernel
theorem dX11_worst_37 : decode cX11_worst 37 = .ok (.istore 4, 2) := by decide +kernel
theorem dX11_worst_39 : decode cX11_worst 39 = .ok (.iload_n 1, 1) := by decide +kernel
theorem dX11_worst_40 : decode cX11_worst 40 = .ok (.ifCond .lt 9, 3) := by decide +kernel
theorem dX11_worst_43 : decode cX11_worst 43 = .ok (.iload 4, 2) := by decide +kernel
theorem dX11_worst_45 : decode cX11_worst 45 = .ok (.iload_n 2, 1) := by decide +kernel
theorem dX11_worst_46 : decode cX11_worst 46 = .ok (.if_icmp .ge 7, 3) := by decide +kernel
theorem dX11_worst_49 : decode cX11_worst 49 = .ok (.iconst 1, 1) := by decide +kernel
theorem dX11_worst_50 : decode cX11_worst 50 = .ok (.goto 4, 3) := by decide +kernel
theorem dX11_worst_53 : decode cX11_worst 53 = .ok (.iconst 0, 1) := by decide +kernel
theorem dX11_worst_54 : decode cX11_worst 54 = .ok (.istore 5, 2) := by decide +kernel
theorem dX11_worst_56 : decode cX11_worst 56 = .ok (.iload 5, 2) := by decide +kernel
theorem dX11_worst_58 : decode cX11_worst 58 = .ok (.ifCond .eq 7, 3) := by decide +kernel
theorem dX11_worst_61 : decode cX11_worst 61 = .ok (.iload_n 3, 1) := by decide +kernel
theorem dX11_worst_62 : decode cX11_worst 62 = .ok (.goto 4, 3) := by decide +kernel
theorem dX11_worst_65 : decode cX11_worst 65 = .ok (.iload_n 1, 1) := by decide +kernel
theorem dX11_worst_66 : decode cX11_worst 66 = .ok (.istore_n 1, 1) := by decide +kernel
theorem dX11_worst_67 : decode cX11_worst 67 = .ok (.iload 5, 2) := by decide +kernel
theorem dX11_worst_69 : decode cX11_worst 69 = .ok (.ifCond .eq 8, 3) := by decide +kernel
theorem dX11_worst_72 : decode cX11_worst 72 = .ok (.iload 4, 2) := by decide +kernel
theorem dX11_worst_74 : decode cX11_worst 74 = .ok (.goto 4, 3) := by decide +kernel
theorem dX11_worst_77 : decode cX11_worst 77 = .ok (.iload_n 2, 1) := by decide +kernel
theorem dX11_worst_78 : decode cX11_worst 78 = .ok (.istore_n 2, 1) := by decide +kernel
theorem dX11_worst_79 : decode cX11_worst 79 = .ok (.iinc 3 1, 3) := by decide +kernel
theorem dX11_worst_82 : decode cX11_worst 82 = .ok (.goto (-71), 3) := by decide +kernel
theorem dX11_worst_85 : decode cX11_worst 85 = .ok (.iload_n 1, 1) := by decide +kernel
theorem dX11_worst_86 : decode cX11_worst 86 = .ok (.ireturn, 1) := by decide +kernel
theorem dX11_near_0 : decode cX11_near 0 = .ok (.aload_n 0, 1) := by decide +kernel
theorem dX11_near_1 : decode cX11_near 1 = .ok (.iconst 0, 1) := by decide +kernel
theorem dX11_near_2 : decode cX11_near 2 = .ok (.putfield 1, 3) := by decide +kernel
theorem dX11_near_5 : decode cX11_near 5 = .ok (.aload_n 0, 1) := by decide +kernel
theorem dX11_near_6 : decode cX11_near 6 = .ok (.iload_n 1, 1) := by decide +kernel
theorem dX11_near_7 : decode cX11_near 7 = .ok (.invokevirtual 352, 3) := by decide +kernel
theorem dX11_near_10 : decode cX11_near 10 = .ok (.ifCond .eq 48, 3) := by decide +kernel
theorem dX11_near_13 : decode cX11_near 13 = .ok (.aload_n 0, 1) := by decide +kernel
theorem dX11_near_14 : decode cX11_near 14 = .ok (.iload_n 2, 1) := by decide +kernel
theorem dX11_near_15 : decode cX11_near 15 = .ok (.invokevirtual 352, 3) := by decide +kernel
theorem dX11_near_18 : decode cX11_near 18 = .ok (.ifCond .eq 40, 3) := by decide +kernel
theorem dX11_near_21 : decode cX11_near 21 = .ok (.iload_n 1, 1) := by decide +kernel
theorem dX11_near_22 : decode cX11_near 22 = .ok (.iload_n 2, 1) := by decide +kernel
theorem dX11_near_23 : decode cX11_near 23 = .ok (.if_icmp .eq 35, 3) := by decide +kernel
theorem dX11_near_26 : decode cX11_near 26 = .ok (.aload_n 0, 1) := by decide +kernel
theorem dX11_near_27 : decode cX11_near 27 = .ok (.getfield 123, 3) := by decide +kernel
theorem dX11_near_30 : decode cX11_near 30 = .ok (.bipush 19, 2) := by decide +kernel
theorem dX11_near_32 : decode cX11_near 32 = .ok (.iload_n 2, 1) := by decide +kernel
theorem dX11_near_33 : decode cX11_near 33 = .ok (.iadd, 1) := by decide +kernel
theorem dX11_near_34 : decode cX11_near 34 = .ok (.iaload, 1) := by decide +kernel
theorem dX11_near_35 : decode cX11_near 35 = .ok (.ifCond .lt 23, 3) := by decide +kernel
theorem dX11_near_38 : decode cX11_near 38 = .ok (.aload_n 0, 1) := by decide +kernel
theorem dX11_near_39 : decode cX11_near 39 = .ok (.iload_n 1, 1) := by decide +kernel
theorem dX11_near_40 : decode cX11_near 40 = .ok (.aload_n 0, 1) := by decide +kernel
theorem dX11_near_41 : decode cX11_near 41 = .ok (.getfield 123, 3) := by decide +kernel
theorem dX11_near_44 : decode cX11_near 44 = .ok (.bipush 19, 2) := by decide +kernel
theorem dX11_near_46 : decode cX11_near 46 = .ok (.iload_n 2, 1) := by decide +kernel
theorem dX11_near_47 : decode cX11_near 47 = .ok (.iadd, 1) := by decide +kernel
theorem dX11_near_48 : decode cX11_near 48 = .ok (.iaload, 1) := by decide +kernel
theorem dX11_near_49 : decode cX11_near 49 = .ok (.invokevirtual 394, 3) := by decide +kernel
theorem dX11_near_52 : decode cX11_near 52 = .ok (.invokestatic 397, 3) := by decide +kernel
theorem dX11_near_55 : decode cX11_near 55 = .ok (.goto 4, 3) := by decide +kernel
theorem dX11_near_58 : decode cX11_near 58 = .ok (.iconst (-1), 1) := by decide +kernel
theorem dX11_near_59 : decode cX11_near 59 = .ok (.ireturn, 1) := by decide +kernel
theorem dX11_lasts_0 : decode cX11_lasts 0 = .ok (.aload_n 0, 1) := by decide +kernel
theorem dX11_lasts_1 : decode cX11_lasts 1 = .ok (.iconst 0, 1) := by decide +kernel
theorem dX11_lasts_2 : decode cX11_lasts 2 = .ok (.putfield 1, 3) := by decide +kernel
theorem dX11_lasts_5 : decode cX11_lasts 5 = .ok (.aload_n 0, 1) := by decide +kernel
theorem dX11_lasts_6 : decode cX11_lasts 6 = .ok (.iconst 0, 1) := by decide +kernel
theorem dX11_lasts_7 : decode cX11_lasts 7 = .ok (.sipush 1008, 3) := by decide +kernel
theorem dX11_lasts_10 : decode cX11_lasts 10 = .ok (.bipush 31, 2) := by decide +kernel
theorem dX11_lasts_12 : decode cX11_lasts 12 = .ok (.invokevirtual 289, 3) := by decide +kernel
theorem dX11_lasts_15 : decode cX11_lasts 15 = .ok (.iconst 1, 1) := by decide +kernel
theorem dX11_lasts_16 : decode cX11_lasts 16 = .ok (.istore_n 2, 1) := by decide +kernel
theorem dX11_lasts_17 : decode cX11_lasts 17 = .ok (.iload_n 2, 1) := by decide +kernel
theorem dX11_lasts_18 : decode cX11_lasts 18 = .ok (.bipush 99, 2) := by decide +kernel
theorem dX11_lasts_20 : decode cX11_lasts 20 = .ok (.if_icmp .gt 34, 3) := by decide +kernel
theorem dX11_lasts_23 : decode cX11_lasts 23 = .ok (.aload_n 0, 1) := by decide +kernel
theorem dX11_lasts_24 : decode cX11_lasts 24 = .ok (.iload_n 1, 1) := by decide +kernel
theorem dX11_lasts_25 : decode cX11_lasts 25 = .ok (.invokevirtual 352, 3) := by decide +kernel
theorem dX11_lasts_28 : decode cX11_lasts 28 = .ok (.ifCond .eq 26, 3) := by decide +kernel
theorem dX11_lasts_31 : decode cX11_lasts 31 = .ok (.aload_n 0, 1) := by decide +kernel
theorem dX11_lasts_32 : decode cX11_lasts 32 = .ok (.sipush 1008, 3) := by decide +kernel
theorem dX11_lasts_35 : decode cX11_lasts 35 = .ok (.invokevirtual 378, 3) := by decide +kernel
theorem dX11_lasts_38 : decode cX11_lasts 38 = .ok (.iload_n 1, 1) := by decide +kernel
theorem dX11_lasts_39 : decode cX11_lasts 39 = .ok (.ishr, 1) := by decide +kernel
theorem dX11_lasts_40 : decode cX11_lasts 40 = .ok (.iconst 1, 1) := by decide +kernel
theorem dX11_lasts_41 : decode cX11_lasts 41 = .ok (.iand, 1) := by decide +kernel
theorem dX11_lasts_42 : decode cX11_lasts 42 = .ok (.iconst 1, 1) := by decide +kernel
theorem dX11_lasts_43 : decode cX11_lasts 43 = .ok (.if_icmp .ne 5, 3) := by decide +kernel
theorem dX11_lasts_46 : decode cX11_lasts 46 = .ok (.iload_n 2, 1) := by decide +kernel
theorem dX11_lasts_47 : decode cX11_lasts 47 = .ok (.ireturn, 1) := by decide +kernel
theorem dX11_lasts_48 : decode cX11_lasts 48 = .ok (.iinc 2 1, 3) := by decide +kernel
theorem dX11_lasts_51 : decode cX11_lasts 51 = .ok (.goto (-34), 3) := by decide +kernel
theorem dX11_lasts_54 : decode cX11_lasts 54 = .ok (.iconst (-1), 1) := by decide +kernel
theorem dX11_lasts_55 : decode cX11_lasts 55 = .ok (.ireturn, 1) := by decide +kernel
theorem dX11_tie_0 : decode cX11_tie 0 = .ok (.aload_n 0, 1) := by decide +kernel
theorem dX11_tie_1 : decode cX11_tie 1 = .ok (.iconst 0, 1) := by decide +kernel
theorem dX11_tie_2 : decode cX11_tie 2 = .ok (.putfield 1, 3) := by decide +kernel
theorem dX11_tie_5 : decode cX11_tie 5 = .ok (.aload_n 0, 1) := by decide +kernel
theorem dX11_tie_6 : decode cX11_tie 6 = .ok (.invokevirtual 280, 3) := by decide +kernel
theorem dX11_tie_9 : decode cX11_tie 9 = .ok (.ifCond .ne 7, 3) := by decide +kernel
theorem dX11_tie_12 : decode cX11_tie 12 = .ok (.iconst 0, 1) := by decide +kernel
theorem dX11_tie_13 : decode cX11_tie 13 = .ok (.goto 12, 3) := by decide +kernel
theorem dX11_tie_16 : decode cX11_tie 16 = .ok (.aload_n 0, 1) := by decide +kernel
theorem dX11_tie_17 : decode cX11_tie 17 = .ok (.iconst 0, 1) := by decide +kernel
theorem dX11_tie_18 : decode cX11_tie 18 = .ok (.aload_n 0, 1) := by decide +kernel
theorem dX11_tie_19 : decode cX11_tie 19 = .ok (.invokevirtual 409, 3) := by decide +kernel
theorem dX11_tie_22 : decode cX11_tie 22 = .ok (.invokevirtual 406, 3) := by decide +kernel
theorem dX11_tie_25 : decode cX11_tie 25 = .ok (.istore_n 1, 1) := by decide +kernel
theorem dX11_tie_26 : decode cX11_tie 26 = .ok (.iconst 0, 1) := by decide +kernel
theorem dX11_tie_27 : decode cX11_tie 27 = .ok (.istore_n 2, 1) := by decide +kernel
theorem dX11_tie_28 : decode cX11_tie 28 = .ok (.iconst 1, 1) := by decide +kernel
theorem dX11_tie_29 : decode cX11_tie 29 = .ok (.istore_n 3, 1) := by decide +kernel
theorem dX11_tie_30 : decode cX11_tie 30 = .ok (.iload_n 3, 1) := by decide +kernel
theorem dX11_tie_31 : decode cX11_tie 31 = .ok (.aload_n 0, 1) := by decide +kernel
theorem dX11_tie_32 : decode cX11_tie 32 = .ok (.invokevirtual 280, 3) := by decide +kernel
theorem dX11_tie_35 : decode cX11_tie 35 = .ok (.if_icmp .ge 58, 3) := by decide +kernel
theorem dX11_tie_38 : decode cX11_tie 38 = .ok (.aload_n 0, 1) := by decide +kernel
theorem dX11_tie_39 : decode cX11_tie 39 = .ok (.iload_n 3, 1) := by decide +kernel
theorem dX11_tie_40 : decode cX11_tie 40 = .ok (.aload_n 0, 1) := by decide +kernel
theorem dX11_tie_41 : decode cX11_tie 41 = .ok (.getfield 123, 3) := by decide +kernel
theorem dX11_tie_44 : decode cX11_tie 44 = .ok (.iconst 1, 1) := by decide +kernel
theorem dX11_tie_45 : decode cX11_tie 45 = .ok (.iaload, 1) := by decide +kernel
theorem dX11_tie_46 : decode cX11_tie 46 = .ok (.invokevirtual 406, 3) := by decide +kernel
theorem dX11_tie_49 : decode cX11_tie 49 = .ok (.iconst 1, 1) := by decide +kernel
theorem dX11_tie_50 : decode cX11_tie 50 = .ok (.iload_n 3, 1) := by decide +kernel
theorem dX11_tie_51 : decode cX11_tie 51 = .ok (.ishl, 1) := by decide +kernel
theorem dX11_tie_52 : decode cX11_tie 52 = .ok (.iconst 1, 1) := by decide +kernel
theorem dX11_tie_53 : decode cX11_tie 53 = .ok (.isub, 1) := by decide +kernel
theorem dX11_tie_54 : decode cX11_tie 54 = .ok (.iand, 1) := by decide +kernel
theorem dX11_tie_55 : decode cX11_tie 55 = .ok (.ifCond .ne 7, 3) := by decide +kernel
theorem dX11_tie_58 : decode cX11_tie 58 = .ok (.iconst 1, 1) := by decide +kernel
theorem dX11_tie_59 : decode cX11_tie 59 = .ok (.goto 4, 3) := by decide +kernel
theorem dX11_tie_62 : decode cX11_tie 62 = .ok (.iconst 0, 1) := by decide +kernel
theorem dX11_tie_63 : decode cX11_tie 63 = .ok (.istore 4, 2) := by decide +kernel
theorem dX11_tie_65 : decode cX11_tie 65 = .ok (.iload_n 2, 1) := by decide +kernel
theorem dX11_tie_66 : decode cX11_tie 66 = .ok (.iload_n 1, 1) := by decide +kernel
theorem dX11_tie_67 : decode cX11_tie 67 = .ok (.iload_n 3, 1) := by decide +kernel
theorem dX11_tie_68 : decode cX11_tie 68 = .ok (.ishr, 1) := by decide +kernel
theorem dX11_tie_69 : decode cX11_tie 69 = .ok (.iconst 1, 1) := by decide +kernel
theorem dX11_tie_70 : decode cX11_tie 70 = .ok (.iand, 1) := by decide +kernel
theorem dX11_tie_71 : decode cX11_tie 71 = .ok (.iconst 1, 1) := by decide +kernel
theorem dX11_tie_72 : decode cX11_tie 72 = .ok (.if_icmp .ne 12, 3) := by decide +kernel
theorem dX11_tie_75 : decode cX11_tie 75 = .ok (.iload 4, 2) := by decide +kernel
theorem dX11_tie_77 : decode cX11_tie 77 = .ok (.ifCond .eq 7, 3) := by decide +kernel
theorem dX11_tie_80 : decode cX11_tie 80 = .ok (.iconst 1, 1) := by decide +kernel
theorem dX11_tie_81 : decode cX11_tie 81 = .ok (.goto 4, 3) := by decide +kernel
theorem dX11_tie_84 : decode cX11_tie 84 = .ok (.iconst 0, 1) := by decide +kernel
theorem dX11_tie_85 : decode cX11_tie 85 = .ok (.iadd, 1) := by decide +kernel
theorem dX11_tie_86 : decode cX11_tie 86 = .ok (.istore_n 2, 1) := by decide +kernel
theorem dX11_tie_87 : decode cX11_tie 87 = .ok (.iinc 3 1, 3) := by decide +kernel
theorem dX11_tie_90 : decode cX11_tie 90 = .ok (.goto (-60), 3) := by decide +kernel
theorem dX11_tie_93 : decode cX11_tie 93 = .ok (.iload_n 2, 1) := by decide +kernel
theorem dX11_tie_94 : decode cX11_tie 94 = .ok (.ireturn, 1) := by decide +kernel
theorem dX11_find_0 : decode cX11_find 0 = .ok (.aload_n 0, 1) := by decide +kernel
theorem dX11_find_1 : decode cX11_find 1 = .ok (.iconst 0, 1) := by decide +kernel
theorem dX11_find_2 : decode cX11_find 2 = .ok (.putfield 1, 3) := by decide +kernel
theorem dX11_find_5 : decode cX11_find 5 = .ok (.aload_n 0, 1) := by decide +kernel
theorem dX11_find_6 : decode cX11_find 6 = .ok (.iload_n 1, 1) := by decide +kernel
theorem dX11_find_7 : decode cX11_find 7 = .ok (.invokevirtual 343, 3) := by decide +kernel
theorem dX11_find_10 : decode cX11_find 10 = .ok (.ifCond .eq 26, 3) := by decide +kernel
theorem dX11_find_13 : decode cX11_find 13 = .ok (.iload_n 2, 1) := by decide +kernel
theorem dX11_find_14 : decode cX11_find 14 = .ok (.iconst 0, 1) := by decide +kernel
theorem dX11_find_15 : decode cX11_find 15 = .ok (.sipush 9999, 3) := by decide +kernel
theorem dX11_find_18 : decode cX11_find 18 = .ok (.invokestatic 205, 3) := by decide +kernel
theorem dX11_find_21 : decode cX11_find 21 = .ok (.ifCond .eq 15, 3) := by decide +kernel
theorem dX11_find_24 : decode cX11_find 24 = .ok (.aload_n 0, 1) := by decide +kernel
theorem dX11_find_25 : decode cX11_find 25 = .ok (.getfield 123, 3) := by decide +kernel
theorem dX11_find_28 : decode cX11_find 28 = .ok (.bipush 31, 2) := by decide +kernel
theorem dX11_find_30 : decode cX11_find 30 = .ok (.iaload, 1) := by decide +kernel
theorem dX11_find_31 : decode cX11_find 31 = .ok (.bipush 8, 2) := by decide +kernel
theorem dX11_find_33 : decode cX11_find 33 = .ok (.if_icmp .ne 5, 3) := by decide +kernel
theorem dX11_find_36 : decode cX11_find 36 = .ok (.iconst 0, 1) := by decide +kernel
theorem dX11_find_37 : decode cX11_find 37 = .ok (.ireturn, 1) := by decide +kernel
theorem dX11_find_38 : decode cX11_find 38 = .ok (.bipush 32, 2) := by decide +kernel
theorem dX11_find_40 : decode cX11_find 40 = .ok (.iconst 2, 1) := by decide +kernel
theorem dX11_find_41 : decode cX11_find 41 = .ok (.aload_n 0, 1) := by decide +kernel
theorem dX11_find_42 : decode cX11_find 42 = .ok (.getfield 123, 3) := by decide +kernel
theorem dX11_find_45 : decode cX11_find 45 = .ok (.bipush 31, 2) := by decide +kernel
theorem dX11_find_47 : decode cX11_find 47 = .ok (.iaload, 1) := by decide +kernel
theorem dX11_find_48 : decode cX11_find 48 = .ok (.imul, 1) := by decide +kernel
theorem dX11_find_49 : decode cX11_find 49 = .ok (.iadd, 1) := by decide +kernel
theorem dX11_find_50 : decode cX11_find 50 = .ok (.istore_n 3, 1) := by decide +kernel
theorem dX11_find_51 : decode cX11_find 51 = .ok (.aload_n 0, 1) := by decide +kernel
theorem dX11_find_52 : decode cX11_find 52 = .ok (.getfield 123, 3) := by decide +kernel
theorem dX11_find_55 : decode cX11_find 55 = .ok (.iload_n 3, 1) := by decide +kernel
theorem dX11_find_56 : decode cX11_find 56 = .ok (.iload_n 1, 1) := by decide +kernel
theorem dX11_find_57 : decode cX11_find 57 = .ok (.iastore, 1) := by decide +kernel
theorem dX11_find_58 : decode cX11_find 58 = .ok (.aload_n 0, 1) := by decide +kernel
theorem dX11_find_59 : decode cX11_find 59 = .ok (.getfield 123, 3) := by decide +kernel
theorem dX11_find_62 : decode cX11_find 62 = .ok (.iload_n 3, 1) := by decide +kernel
theorem dX11_find_63 : decode cX11_find 63 = .ok (.iconst 1, 1) := by decide +kernel
theorem dX11_find_64 : decode cX11_find 64 = .ok (.iadd, 1) := by decide +kernel
theorem dX11_find_65 : decode cX11_find 65 = .ok (.iload_n 2, 1) := by decide +kernel
theorem dX11_find_66 : decode cX11_find 66 = .ok (.iastore, 1) := by decide +kernel
theorem dX11_find_67 : decode cX11_find 67 = .ok (.aload_n 0, 1) := by decide +kernel
theorem dX11_find_68 : decode cX11_find 68 = .ok (.getfield 123, 3) := by decide +kernel
theorem dX11_find_71 : decode cX11_find 71 = .ok (.bipush 31, 2) := by decide +kernel
theorem dX11_find_73 : decode cX11_find 73 = .ok (.dup2, 1) := by decide +kernel
theorem dX11_find_74 : decode cX11_find 74 = .ok (.iaload, 1) := by decide +kernel
theorem dX11_find_75 : decode cX11_find 75 = .ok (.iconst 1, 1) := by decide +kernel
theorem dX11_find_76 : decode cX11_find 76 = .ok (.iadd, 1) := by decide +kernel
theorem dX11_find_77 : decode cX11_find 77 = .ok (.iastore, 1) := by decide +kernel
theorem dX11_find_78 : decode cX11_find 78 = .ok (.iconst 1, 1) := by decide +kernel
theorem dX11_find_79 : decode cX11_find 79 = .ok (.ireturn, 1) := by decide +kernel
theorem dX11_freshTo_0 : decode cX11_freshTo 0 = .ok (.aload_n 0, 1) := by decide +kernel
theorem dX11_freshTo_1 : decode cX11_freshTo 1 = .ok (.iconst 0, 1) := by decide +kernel
theorem dX11_freshTo_2 : decode cX11_freshTo 2 = .ok (.iload_n 1, 1) := by decide +kernel
theorem dX11_freshTo_3 : decode cX11_freshTo 3 = .ok (.iconst 0, 1) := by decide +kernel
theorem dX11_freshTo_4 : decode cX11_freshTo 4 = .ok (.aload_n 0, 1) := by decide +kernel
theorem dX11_freshTo_5 : decode cX11_freshTo 5 = .ok (.invokevirtual 409, 3) := by decide +kernel
theorem dX11_freshTo_8 : decode cX11_freshTo 8 = .ok (.invokevirtual 390, 3) := by decide +kernel
theorem dX11_freshTo_11 : decode cX11_freshTo 11 = .ok (.aload_n 0, 1) := by decide +kernel
theorem dX11_freshTo_12 : decode cX11_freshTo 12 = .ok (.getfield 130, 3) := by decide +kernel
theorem dX11_freshTo_15 : decode cX11_freshTo 15 = .ok (.iload_n 2, 1) := by decide +kernel
theorem dX11_freshTo_16 : decode cX11_freshTo 16 = .ok (.iaload, 1) := by decide +kernel
theorem dX11_freshTo_17 : decode cX11_freshTo 17 = .ok (.ireturn, 1) := by decide +kernel
theorem dX11_whoNow_0 : decode cX11_whoNow 0 = .ok (.iconst 1, 1) := by decide +kernel
theorem dX11_whoNow_1 : decode cX11_whoNow 1 = .ok (.aload_n 0, 1) := by decide +kernel
theorem dX11_whoNow_2 : decode cX11_whoNow 2 = .ok (.invokevirtual 276, 3) := by decide +kernel
theorem dX11_whoNow_5 : decode cX11_whoNow 5 = .ok (.ishl, 1) := by decide +kernel
theorem dX11_whoNow_6 : decode cX11_whoNow 6 = .ok (.iconst 1, 1) := by decide +kernel
theorem dX11_whoNow_7 : decode cX11_whoNow 7 = .ok (.isub, 1) := by decide +kernel
theorem dX11_whoNow_8 : decode cX11_whoNow 8 = .ok (.istore_n 1, 1) := by decide +kernel
theorem dX11_whoNow_9 : decode cX11_whoNow 9 = .ok (.iconst 0, 1) := by decide +kernel
theorem dX11_whoNow_10 : decode cX11_whoNow 10 = .ok (.istore_n 2, 1) := by decide +kernel
theorem dX11_whoNow_11 : decode cX11_whoNow 11 = .ok (.iload_n 2, 1) := by decide +kernel
theorem dX11_whoNow_12 : decode cX11_whoNow 12 = .ok (.aload_n 0, 1) := by decide +kernel
theorem dX11_whoNow_13 : decode cX11_whoNow 13 = .ok (.getfield 123, 3) := by decide +kernel
theorem dX11_whoNow_16 : decode cX11_whoNow 16 = .ok (.bipush 31, 2) := by decide +kernel
theorem dX11_whoNow_18 : decode cX11_whoNow 18 = .ok (.iaload, 1) := by decide +kernel
theorem dX11_whoNow_19 : decode cX11_whoNow 19 = .ok (.if_icmp .ge 70, 3) := by decide +kernel
theorem dX11_whoNow_22 : decode cX11_whoNow 22 = .ok (.bipush 32, 2) := by decide +kernel
theorem dX11_whoNow_24 : decode cX11_whoNow 24 = .ok (.iconst 2, 1) := by decide +kernel
theorem dX11_whoNow_25 : decode cX11_whoNow 25 = .ok (.iload_n 2, 1) := by decide +kernel
theorem dX11_whoNow_26 : decode cX11_whoNow 26 = .ok (.imul, 1) := by decide +kernel
theorem dX11_whoNow_27 : decode cX11_whoNow 27 = .ok (.iadd, 1) := by decide +kernel
theorem dX11_whoNow_28 : decode cX11_whoNow 28 = .ok (.istore_n 3, 1) := by decide +kernel
theorem dX11_whoNow_29 : decode cX11_whoNow 29 = .ok (.iconst 0, 1) := by decide +kernel
theorem dX11_whoNow_30 : decode cX11_whoNow 30 = .ok (.istore 4, 2) := by decide +kernel
theorem dX11_whoNow_32 : decode cX11_whoNow 32 = .ok (.iload 4, 2) := by decide +kernel
theorem dX11_whoNow_34 : decode cX11_whoNow 34 = .ok (.aload_n 0, 1) := by decide +kernel
theorem dX11_whoNow_35 : decode cX11_whoNow 35 = .ok (.invokevirtual 276, 3) := by decide +kernel
theorem dX11_whoNow_38 : decode cX11_whoNow 38 = .ok (.if_icmp .ge 45, 3) := by decide +kernel
theorem dX11_whoNow_41 : decode cX11_whoNow 41 = .ok (.iload_n 1, 1) := by decide +kernel
theorem dX11_whoNow_42 : decode cX11_whoNow 42 = .ok (.aload_n 0, 1) := by decide +kernel
theorem dX11_whoNow_43 : decode cX11_whoNow 43 = .ok (.iload 4, 2) := by decide +kernel
theorem dX11_whoNow_45 : decode cX11_whoNow 45 = .ok (.aload_n 0, 1) := by decide +kernel
theorem dX11_whoNow_46 : decode cX11_whoNow 46 = .ok (.getfield 123, 3) := by decide +kernel
theorem dX11_whoNow_49 : decode cX11_whoNow 49 = .ok (.iload_n 3, 1) := by decide +kernel
theorem dX11_whoNow_50 : decode cX11_whoNow 50 = .ok (.iaload, 1) := by decide +kernel
theorem dX11_whoNow_51 : decode cX11_whoNow 51 = .ok (.invokevirtual 412, 3) := by decide +kernel
theorem dX11_whoNow_54 : decode cX11_whoNow 54 = .ok (.aload_n 0, 1) := by decide +kernel
theorem dX11_whoNow_55 : decode cX11_whoNow 55 = .ok (.getfield 123, 3) := by decide +kernel
theorem dX11_whoNow_58 : decode cX11_whoNow 58 = .ok (.iload_n 3, 1) := by decide +kernel
theorem dX11_whoNow_59 : decode cX11_whoNow 59 = .ok (.iconst 1, 1) := by decide +kernel
theorem dX11_whoNow_60 : decode cX11_whoNow 60 = .ok (.iadd, 1) := by decide +kernel
theorem dX11_whoNow_61 : decode cX11_whoNow 61 = .ok (.iaload, 1) := by decide +kernel
theorem dX11_whoNow_62 : decode cX11_whoNow 62 = .ok (.if_icmp .ne 7, 3) := by decide +kernel
theorem dX11_whoNow_65 : decode cX11_whoNow 65 = .ok (.iconst (-1), 1) := by decide +kernel
theorem dX11_whoNow_66 : decode cX11_whoNow 66 = .ok (.goto 9, 3) := by decide +kernel
theorem dX11_whoNow_69 : decode cX11_whoNow 69 = .ok (.iconst 1, 1) := by decide +kernel
theorem dX11_whoNow_70 : decode cX11_whoNow 70 = .ok (.iload 4, 2) := by decide +kernel
theorem dX11_whoNow_72 : decode cX11_whoNow 72 = .ok (.ishl, 1) := by decide +kernel
theorem dX11_whoNow_73 : decode cX11_whoNow 73 = .ok (.iconst (-1), 1) := by decide +kernel
theorem dX11_whoNow_74 : decode cX11_whoNow 74 = .ok (.ixor, 1) := by decide +kernel
theorem dX11_whoNow_75 : decode cX11_whoNow 75 = .ok (.iand, 1) := by decide +kernel
theorem dX11_whoNow_76 : decode cX11_whoNow 76 = .ok (.istore_n 1, 1) := by decide +kernel
theorem dX11_whoNow_77 : decode cX11_whoNow 77 = .ok (.iinc 4 1, 3) := by decide +kernel
theorem dX11_whoNow_80 : decode cX11_whoNow 80 = .ok (.goto (-48), 3) := by decide +kernel
theorem dX11_whoNow_83 : decode cX11_whoNow 83 = .ok (.iinc 2 1, 3) := by decide +kernel
theorem dX11_whoNow_86 : decode cX11_whoNow 86 = .ok (.goto (-75), 3) := by decide +kernel
theorem dX11_whoNow_89 : decode cX11_whoNow 89 = .ok (.iload_n 1, 1) := by decide +kernel
theorem dX11_whoNow_90 : decode cX11_whoNow 90 = .ok (.ireturn, 1) := by decide +kernel
theorem dX11_who_0 : decode cX11_who 0 = .ok (.aload_n 0, 1) := by decide +kernel
theorem dX11_who_1 : decode cX11_who 1 = .ok (.iconst 0, 1) := by decide +kernel
theorem dX11_who_2 : decode cX11_who 2 = .ok (.putfield 1, 3) := by decide +kernel
theorem dX11_who_5 : decode cX11_who 5 = .ok (.aload_n 0, 1) := by decide +kernel
theorem dX11_who_6 : decode cX11_who 6 = .ok (.invokevirtual 415, 3) := by decide +kernel
theorem dX11_who_9 : decode cX11_who 9 = .ok (.ireturn, 1) := by decide +kernel
theorem dX11_ask_0 : decode cX11_ask 0 = .ok (.aload_n 0, 1) := by decide +kernel
theorem dX11_ask_1 : decode cX11_ask 1 = .ok (.iconst 0, 1) := by decide +kernel
theorem dX11_ask_2 : decode cX11_ask 2 = .ok (.putfield 1, 3) := by decide +kernel
theorem dX11_ask_5 : decode cX11_ask 5 = .ok (.aload_n 0, 1) := by decide +kernel
theorem dX11_ask_6 : decode cX11_ask 6 = .ok (.invokevirtual 415, 3) := by decide +kernel
theorem dX11_ask_9 : decode cX11_ask 9 = .ok (.istore_n 1, 1) := by decide +kernel
theorem dX11_ask_10 : decode cX11_ask 10 = .ok (.iconst (-1), 1) := by decide +kernel
theorem dX11_ask_11 : decode cX11_ask 11 = .ok (.istore_n 2, 1) := by decide +kernel
theorem dX11_ask_12 : decode cX11_ask 12 = .ok (.iload_n 1, 1) := by decide +kernel
theorem dX11_ask_13 : decode cX11_ask 13 = .ok (.invokestatic 383, 3) := by decide +kernel
theorem dX11_ask_16 : decode cX11_ask 16 = .ok (.istore_n 3, 1) := by decide +kernel
theorem dX11_ask_17 : decode cX11_ask 17 = .ok (.iconst 0, 1) := by decide +kernel
theorem dX11_ask_18 : decode cX11_ask 18 = .ok (.istore 4, 2) := by decide +kernel
theorem dX11_ask_20 : decode cX11_ask 20 = .ok (.iload 4, 2) := by decide +kernel
theorem dX11_ask_22 : decode cX11_ask 22 = .ok (.aload_n 0, 1) := by decide +kernel
theorem dX11_ask_23 : decode cX11_ask 23 = .ok (.invokevirtual 280, 3) := by decide +kernel
theorem dX11_ask_26 : decode cX11_ask 26 = .ok (.if_icmp .ge 146, 3) := by decide +kernel
theorem dX11_ask_29 : decode cX11_ask 29 = .ok (.iconst 0, 1) := by decide +kernel
theorem dX11_ask_30 : decode cX11_ask 30 = .ok (.istore 5, 2) := by decide +kernel
theorem dX11_ask_32 : decode cX11_ask 32 = .ok (.iconst 0, 1) := by decide +kernel
theorem dX11_ask_33 : decode cX11_ask 33 = .ok (.istore 6, 2) := by decide +kernel
theorem dX11_ask_35 : decode cX11_ask 35 = .ok (.iload 6, 2) := by decide +kernel
theorem dX11_ask_37 : decode cX11_ask 37 = .ok (.aload_n 0, 1) := by decide +kernel
theorem dX11_ask_38 : decode cX11_ask 38 = .ok (.invokevirtual 276, 3) := by decide +kernel
theorem dX11_ask_41 : decode cX11_ask 41 = .ok (.if_icmp .ge 99, 3) := by decide +kernel
theorem dX11_ask_44 : decode cX11_ask 44 = .ok (.aload_n 0, 1) := by decide +kernel
theorem dX11_ask_45 : decode cX11_ask 45 = .ok (.iload 6, 2) := by decide +kernel
theorem dX11_ask_47 : decode cX11_ask 47 = .ok (.iload 4, 2) := by decide +kernel
theorem dX11_ask_49 : decode cX11_ask 49 = .ok (.invokevirtual 412, 3) := by decide +kernel
theorem dX11_ask_52 : decode cX11_ask 52 = .ok (.istore 7, 2) := by decide +kernel
theorem dX11_ask_54 : decode cX11_ask 54 = .ok (.iconst 0, 1) := by decide +kernel
theorem dX11_ask_55 : decode cX11_ask 55 = .ok (.istore 8, 2) := by decide +kernel
theorem dX11_ask_57 : decode cX11_ask 57 = .ok (.iconst 0, 1) := by decide +kernel
theorem dX11_ask_58 : decode cX11_ask 58 = .ok (.istore 9, 2) := by decide +kernel
theorem dX11_ask_60 : decode cX11_ask 60 = .ok (.iload 9, 2) := by decide +kernel
theorem dX11_ask_62 : decode cX11_ask 62 = .ok (.aload_n 0, 1) := by decide +kernel
theorem dX11_ask_63 : decode cX11_ask 63 = .ok (.invokevirtual 276, 3) := by decide +kernel
theorem dX11_ask_66 : decode cX11_ask 66 = .ok (.if_icmp .ge 52, 3) := by decide +kernel
theorem dX11_ask_69 : decode cX11_ask 69 = .ok (.iload_n 1, 1) := by decide +kernel
theorem dX11_ask_70 : decode cX11_ask 70 = .ok (.iload 6, 2) := by decide +kernel
theorem dX11_ask_72 : decode cX11_ask 72 = .ok (.ishr, 1) := by decide +kernel
theorem dX11_ask_73 : decode cX11_ask 73 = .ok (.iconst 1, 1) := by decide +kernel
theorem dX11_ask_74 : decode cX11_ask 74 = .ok (.iand, 1) := by decide +kernel
theorem dX11_ask_75 : decode cX11_ask 75 = .ok (.iconst 1, 1) := by decide +kernel
theorem dX11_ask_76 : decode cX11_ask 76 = .ok (.if_icmp .ne 42, 3) := by decide +kernel
theorem dX11_ask_79 : decode cX11_ask 79 = .ok (.iload 8, 2) := by decide +kernel
theorem dX11_ask_81 : decode cX11_ask 81 = .ok (.iload_n 1, 1) := by decide +kernel
theorem dX11_ask_82 : decode cX11_ask 82 = .ok (.iload 9, 2) := by decide +kernel
theorem dX11_ask_84 : decode cX11_ask 84 = .ok (.ishr, 1) := by decide +kernel
theorem dX11_ask_85 : decode cX11_ask 85 = .ok (.iconst 1, 1) := by decide +kernel
theorem dX11_ask_86 : decode cX11_ask 86 = .ok (.iand, 1) := by decide +kernel
theorem dX11_ask_87 : decode cX11_ask 87 = .ok (.iconst 1, 1) := by decide +kernel
theorem dX11_ask_88 : decode cX11_ask 88 = .ok (.if_icmp .ne 20, 3) := by decide +kernel
theorem dX11_ask_91 : decode cX11_ask 91 = .ok (.aload_n 0, 1) := by decide +kernel
theorem dX11_ask_92 : decode cX11_ask 92 = .ok (.iload 9, 2) := by decide +kernel
theorem dX11_ask_94 : decode cX11_ask 94 = .ok (.iload 4, 2) := by decide +kernel
theorem dX11_ask_96 : decode cX11_ask 96 = .ok (.invokevirtual 412, 3) := by decide +kernel
theorem dX11_ask_99 : decode cX11_ask 99 = .ok (.iload 7, 2) := by decide +kernel
theorem dX11_ask_101 : decode cX11_ask 101 = .ok (.if_icmp .ne 7, 3) := by decide +kernel
theorem dX11_ask_104 : decode cX11_ask 104 = .ok (.iconst 1, 1) := by decide +kernel
theorem dX11_ask_105 : decode cX11_ask 105 = .ok (.goto 4, 3) := by decide +kernel
theorem dX11_ask_108 : decode cX11_ask 108 = .ok (.iconst 0, 1) := by decide +kernel
theorem dX11_ask_109 : decode cX11_ask 109 = .ok (.iadd, 1) := by decide +kernel
theorem dX11_ask_110 : decode cX11_ask 110 = .ok (.istore 8, 2) := by decide +kernel
theorem dX11_ask_112 : decode cX11_ask 112 = .ok (.iinc 9 1, 3) := by decide +kernel
theorem dX11_ask_115 : decode cX11_ask 115 = .ok (.goto (-55), 3) := by decide +kernel
theorem dX11_ask_118 : decode cX11_ask 118 = .ok (.iload 8, 2) := by decide +kernel
theorem dX11_ask_120 : decode cX11_ask 120 = .ok (.iload 5, 2) := by decide +kernel
theorem dX11_ask_122 : decode cX11_ask 122 = .ok (.if_icmp .le 8, 3) := by decide +kernel
theorem dX11_ask_125 : decode cX11_ask 125 = .ok (.iload 8, 2) := by decide +kernel
theorem dX11_ask_127 : decode cX11_ask 127 = .ok (.goto 5, 3) := by decide +kernel
theorem dX11_ask_130 : decode cX11_ask 130 = .ok (.iload 5, 2) := by decide +kernel
theorem dX11_ask_132 : decode cX11_ask 132 = .ok (.istore 5, 2) := by decide +kernel
theorem dX11_ask_134 : decode cX11_ask 134 = .ok (.iinc 6 1, 3) := by decide +kernel
theorem dX11_ask_137 : decode cX11_ask 137 = .ok (.goto (-102), 3) := by decide +kernel
theorem dX11_ask_140 : decode cX11_ask 140 = .ok (.iload 5, 2) := by decide +kernel
theorem dX11_ask_142 : decode cX11_ask 142 = .ok (.iload_n 3, 1) := by decide +kernel
theorem dX11_ask_143 : decode cX11_ask 143 = .ok (.if_icmp .ge 8, 3) := by decide +kernel
theorem dX11_ask_146 : decode cX11_ask 146 = .ok (.iload 4, 2) := by decide +kernel
theorem dX11_ask_148 : decode cX11_ask 148 = .ok (.goto 4, 3) := by decide +kernel
theorem dX11_ask_151 : decode cX11_ask 151 = .ok (.iload_n 2, 1) := by decide +kernel
theorem dX11_ask_152 : decode cX11_ask 152 = .ok (.istore_n 2, 1) := by decide +kernel
theorem dX11_ask_153 : decode cX11_ask 153 = .ok (.iload 5, 2) := by decide +kernel
theorem dX11_ask_155 : decode cX11_ask 155 = .ok (.iload_n 3, 1) := by decide +kernel
theorem dX11_ask_156 : decode cX11_ask 156 = .ok (.if_icmp .ge 8, 3) := by decide +kernel
theorem dX11_ask_159 : decode cX11_ask 159 = .ok (.iload 5, 2) := by decide +kernel
theorem dX11_ask_161 : decode cX11_ask 161 = .ok (.goto 4, 3) := by decide +kernel
theorem dX11_ask_164 : decode cX11_ask 164 = .ok (.iload_n 3, 1) := by decide +kernel
theorem dX11_ask_165 : decode cX11_ask 165 = .ok (.istore_n 3, 1) := by decide +kernel
theorem dX11_ask_166 : decode cX11_ask 166 = .ok (.iinc 4 1, 3) := by decide +kernel
theorem dX11_ask_169 : decode cX11_ask 169 = .ok (.goto (-149), 3) := by decide +kernel
theorem dX11_ask_172 : decode cX11_ask 172 = .ok (.iload_n 2, 1) := by decide +kernel
theorem dX11_ask_173 : decode cX11_ask 173 = .ok (.ireturn, 1) := by decide +kernel
theorem dX11_bell_0 : decode cX11_bell 0 = .ok (.aload_n 0, 1) := by decide +kernel
theorem dX11_bell_1 : decode cX11_bell 1 = .ok (.iconst 0, 1) := by decide +kernel
theorem dX11_bell_2 : decode cX11_bell 2 = .ok (.putfield 1, 3) := by decide +kernel
theorem dX11_bell_5 : decode cX11_bell 5 = .ok (.iconst (-1), 1) := by decide +kernel
theorem dX11_bell_6 : decode cX11_bell 6 = .ok (.istore_n 1, 1) := by decide +kernel
theorem dX11_bell_7 : decode cX11_bell 7 = .ok (.iconst 0, 1) := by decide +kernel
theorem dX11_bell_8 : decode cX11_bell 8 = .ok (.istore_n 2, 1) := by decide +kernel
theorem dX11_bell_9 : decode cX11_bell 9 = .ok (.iconst 0, 1) := by decide +kernel
theorem dX11_bell_10 : decode cX11_bell 10 = .ok (.istore_n 3, 1) := by decide +kernel
theorem dX11_bell_11 : decode cX11_bell 11 = .ok (.iload_n 3, 1) := by decide +kernel
theorem dX11_bell_12 : decode cX11_bell 12 = .ok (.aload_n 0, 1) := by decide +kernel
theorem dX11_bell_13 : decode cX11_bell 13 = .ok (.invokevirtual 280, 3) := by decide +kernel
theorem dX11_bell_16 : decode cX11_bell 16 = .ok (.if_icmp .ge 55, 3) := by decide +kernel
theorem dX11_bell_19 : decode cX11_bell 19 = .ok (.aload_n 0, 1) := by decide +kernel
theorem dX11_bell_20 : decode cX11_bell 20 = .ok (.getfield 123, 3) := by decide +kernel
theorem dX11_bell_23 : decode cX11_bell 23 = .ok (.bipush 12, 2) := by decide +kernel
theorem dX11_bell_25 : decode cX11_bell 25 = .ok (.iload_n 3, 1) := by decide +kernel
theorem dX11_bell_26 : decode cX11_bell 26 = .ok (.iadd, 1) := by decide +kernel
theorem dX11_bell_27 : decode cX11_bell 27 = .ok (.iaload, 1) := by decide +kernel
theorem dX11_bell_28 : decode cX11_bell 28 = .ok (.iload_n 2, 1) := by decide +kernel
theorem dX11_bell_29 : decode cX11_bell 29 = .ok (.if_icmp .le 7, 3) := by decide +kernel
theorem dX11_bell_32 : decode cX11_bell 32 = .ok (.iload_n 3, 1) := by decide +kernel
theorem dX11_bell_33 : decode cX11_bell 33 = .ok (.goto 4, 3) := by decide +kernel
theorem dX11_bell_36 : decode cX11_bell 36 = .ok (.iload_n 1, 1) := by decide +kernel
theorem dX11_bell_37 : decode cX11_bell 37 = .ok (.istore_n 1, 1) := by decide +kernel
theorem dX11_bell_38 : decode cX11_bell 38 = .ok (.aload_n 0, 1) := by decide +kernel
theorem dX11_bell_39 : decode cX11_bell 39 = .ok (.getfield 123, 3) := by decide +kernel
theorem dX11_bell_42 : decode cX11_bell 42 = .ok (.bipush 12, 2) := by decide +kernel
theorem dX11_bell_44 : decode cX11_bell 44 = .ok (.iload_n 3, 1) := by decide +kernel
theorem dX11_bell_45 : decode cX11_bell 45 = .ok (.iadd, 1) := by decide +kernel
theorem dX11_bell_46 : decode cX11_bell 46 = .ok (.iaload, 1) := by decide +kernel
theorem dX11_bell_47 : decode cX11_bell 47 = .ok (.iload_n 2, 1) := by decide +kernel
theorem dX11_bell_48 : decode cX11_bell 48 = .ok (.if_icmp .le 15, 3) := by decide +kernel
theorem dX11_bell_51 : decode cX11_bell 51 = .ok (.aload_n 0, 1) := by decide +kernel
theorem dX11_bell_52 : decode cX11_bell 52 = .ok (.getfield 123, 3) := by decide +kernel
theorem dX11_bell_55 : decode cX11_bell 55 = .ok (.bipush 12, 2) := by decide +kernel
theorem dX11_bell_57 : decode cX11_bell 57 = .ok (.iload_n 3, 1) := by decide +kernel
theorem dX11_bell_58 : decode cX11_bell 58 = .ok (.iadd, 1) := by decide +kernel
theorem dX11_bell_59 : decode cX11_bell 59 = .ok (.iaload, 1) := by decide +kernel
theorem dX11_bell_60 : decode cX11_bell 60 = .ok (.goto 4, 3) := by decide +kernel
theorem dX11_bell_63 : decode cX11_bell 63 = .ok (.iload_n 2, 1) := by decide +kernel
theorem dX11_bell_64 : decode cX11_bell 64 = .ok (.istore_n 2, 1) := by decide +kernel
theorem dX11_bell_65 : decode cX11_bell 65 = .ok (.iinc 3 1, 3) := by decide +kernel
theorem dX11_bell_68 : decode cX11_bell 68 = .ok (.goto (-57), 3) := by decide +kernel
theorem dX11_bell_71 : decode cX11_bell 71 = .ok (.iload_n 1, 1) := by decide +kernel
theorem dX11_bell_72 : decode cX11_bell 72 = .ok (.ireturn, 1) := by decide +kernel
theorem dX11_slate_0 : decode cX11_slate 0 = .ok (.aload_n 0, 1) := by decide +kernel
theorem dX11_slate_1 : decode cX11_slate 1 = .ok (.iconst 0, 1) := by decide +kernel
theorem dX11_slate_2 : decode cX11_slate 2 = .ok (.putfield 1, 3) := by decide +kernel
theorem dX11_slate_5 : decode cX11_slate 5 = .ok (.iconst (-1), 1) := by decide +kernel
theorem dX11_slate_6 : decode cX11_slate 6 = .ok (.istore_n 1, 1) := by decide +kernel
theorem dX11_slate_7 : decode cX11_slate 7 = .ok (.iconst 0, 1) := by decide +kernel
theorem dX11_slate_8 : decode cX11_slate 8 = .ok (.istore_n 2, 1) := by decide +kernel
theorem dX11_slate_9 : decode cX11_slate 9 = .ok (.iload_n 2, 1) := by decide +kernel
theorem dX11_slate_10 : decode cX11_slate 10 = .ok (.aload_n 0, 1) := by decide +kernel
theorem dX11_slate_11 : decode cX11_slate 11 = .ok (.invokevirtual 276, 3) := by decide +kernel
theorem dX11_slate_14 : decode cX11_slate 14 = .ok (.if_icmp .ge 49, 3) := by decide +kernel
theorem dX11_slate_17 : decode cX11_slate 17 = .ok (.aload_n 0, 1) := by decide +kernel
theorem dX11_slate_18 : decode cX11_slate 18 = .ok (.iconst 0, 1) := by decide +kernel
theorem dX11_slate_19 : decode cX11_slate 19 = .ok (.iload_n 2, 1) := by decide +kernel
theorem dX11_slate_20 : decode cX11_slate 20 = .ok (.invokevirtual 315, 3) := by decide +kernel
theorem dX11_slate_23 : decode cX11_slate 23 = .ok (.ifCond .ne 32, 3) := by decide +kernel
theorem dX11_slate_26 : decode cX11_slate 26 = .ok (.iload_n 1, 1) := by decide +kernel
theorem dX11_slate_27 : decode cX11_slate 27 = .ok (.ifCond .lt 24, 3) := by decide +kernel
theorem dX11_slate_30 : decode cX11_slate 30 = .ok (.aload_n 0, 1) := by decide +kernel
theorem dX11_slate_31 : decode cX11_slate 31 = .ok (.getfield 123, 3) := by decide +kernel
theorem dX11_slate_34 : decode cX11_slate 34 = .ok (.bipush 23, 2) := by decide +kernel
theorem dX11_slate_36 : decode cX11_slate 36 = .ok (.iload_n 2, 1) := by decide +kernel
theorem dX11_slate_37 : decode cX11_slate 37 = .ok (.iadd, 1) := by decide +kernel
theorem dX11_slate_38 : decode cX11_slate 38 = .ok (.iaload, 1) := by decide +kernel
theorem dX11_slate_39 : decode cX11_slate 39 = .ok (.aload_n 0, 1) := by decide +kernel
theorem dX11_slate_40 : decode cX11_slate 40 = .ok (.getfield 123, 3) := by decide +kernel
theorem dX11_slate_43 : decode cX11_slate 43 = .ok (.bipush 23, 2) := by decide +kernel
theorem dX11_slate_45 : decode cX11_slate 45 = .ok (.iload_n 1, 1) := by decide +kernel
theorem dX11_slate_46 : decode cX11_slate 46 = .ok (.iadd, 1) := by decide +kernel
theorem dX11_slate_47 : decode cX11_slate 47 = .ok (.iaload, 1) := by decide +kernel
theorem dX11_slate_48 : decode cX11_slate 48 = .ok (.if_icmp .ge 7, 3) := by decide +kernel
theorem dX11_slate_51 : decode cX11_slate 51 = .ok (.iload_n 2, 1) := by decide +kernel
theorem dX11_slate_52 : decode cX11_slate 52 = .ok (.goto 4, 3) := by decide +kernel
theorem dX11_slate_55 : decode cX11_slate 55 = .ok (.iload_n 1, 1) := by decide +kernel
theorem dX11_slate_56 : decode cX11_slate 56 = .ok (.istore_n 1, 1) := by decide +kernel
theorem dX11_slate_57 : decode cX11_slate 57 = .ok (.iinc 2 1, 3) := by decide +kernel
theorem dX11_slate_60 : decode cX11_slate 60 = .ok (.goto (-51), 3) := by decide +kernel
theorem dX11_slate_63 : decode cX11_slate 63 = .ok (.iload_n 1, 1) := by decide +kernel
theorem dX11_slate_64 : decode cX11_slate 64 = .ok (.ireturn, 1) := by decide +kernel
theorem dX11_together_0 : decode cX11_together 0 = .ok (.aload_n 0, 1) := by decide +kernel
theorem dX11_together_1 : decode cX11_together 1 = .ok (.iconst 0, 1) := by decide +kernel
theorem dX11_together_2 : decode cX11_together 2 = .ok (.putfield 1, 3) := by decide +kernel
theorem dX11_together_5 : decode cX11_together 5 = .ok (.iconst 0, 1) := by decide +kernel
theorem dX11_together_6 : decode cX11_together 6 = .ok (.istore_n 1, 1) := by decide +kernel
theorem dX11_together_7 : decode cX11_together 7 = .ok (.iconst 0, 1) := by decide +kernel
theorem dX11_together_8 : decode cX11_together 8 = .ok (.istore_n 2, 1) := by decide +kernel
theorem dX11_together_9 : decode cX11_together 9 = .ok (.iload_n 2, 1) := by decide +kernel
theorem dX11_together_10 : decode cX11_together 10 = .ok (.aload_n 0, 1) := by decide +kernel
theorem dX11_together_11 : decode cX11_together 11 = .ok (.invokevirtual 280, 3) := by decide +kernel
theorem dX11_together_14 : decode cX11_together 14 = .ok (.if_icmp .ge 28, 3) := by decide +kernel
theorem dX11_together_17 : decode cX11_together 17 = .ok (.aload_n 0, 1) := by decide +kernel
theorem dX11_together_18 : decode cX11_together 18 = .ok (.iload_n 2, 1) := by decide +kernel
theorem dX11_together_19 : decode cX11_together 19 = .ok (.invokevirtual 346, 3) := by decide +kernel
theorem dX11_together_22 : decode cX11_together 22 = .ok (.invokestatic 383, 3) := by decide +kernel
theorem dX11_together_25 : decode cX11_together 25 = .ok (.istore_n 3, 1) := by decide +kernel
theorem dX11_together_26 : decode cX11_together 26 = .ok (.iload_n 1, 1) := by decide +kernel
theorem dX11_together_27 : decode cX11_together 27 = .ok (.iload_n 3, 1) := by decide +kernel
theorem dX11_together_28 : decode cX11_together 28 = .ok (.iload_n 3, 1) := by decide +kernel
theorem dX11_together_29 : decode cX11_together 29 = .ok (.iconst 1, 1) := by decide +kernel
theorem dX11_together_30 : decode cX11_together 30 = .ok (.isub, 1) := by decide +kernel
theorem dX11_together_31 : decode cX11_together 31 = .ok (.imul, 1) := by decide +kernel
theorem dX11_together_32 : decode cX11_together 32 = .ok (.iconst 2, 1) := by decide +kernel
theorem dX11_together_33 : decode cX11_together 33 = .ok (.idiv, 1) := by decide +kernel
theorem dX11_together_34 : decode cX11_together 34 = .ok (.iadd, 1) := by decide +kernel
theorem dX11_together_35 : decode cX11_together 35 = .ok (.istore_n 1, 1) := by decide +kernel
theorem dX11_together_36 : decode cX11_together 36 = .ok (.iinc 2 1, 3) := by decide +kernel
theorem dX11_together_39 : decode cX11_together 39 = .ok (.goto (-30), 3) := by decide +kernel
theorem dX11_together_42 : decode cX11_together 42 = .ok (.iload_n 1, 1) := by decide +kernel
theorem dX11_together_43 : decode cX11_together 43 = .ok (.ireturn, 1) := by decide +kernel
theorem dX11_spent_0 : decode cX11_spent 0 = .ok (.aload_n 0, 1) := by decide +kernel
theorem dX11_spent_1 : decode cX11_spent 1 = .ok (.iconst 0, 1) := by decide +kernel
theorem dX11_spent_2 : decode cX11_spent 2 = .ok (.putfield 1, 3) := by decide +kernel
theorem dX11_spent_5 : decode cX11_spent 5 = .ok (.aload_n 0, 1) := by decide +kernel
theorem dX11_spent_6 : decode cX11_spent 6 = .ok (.getfield 123, 3) := by decide +kernel
theorem dX11_spent_9 : decode cX11_spent 9 = .ok (.iconst 3, 1) := by decide +kernel
theorem dX11_spent_10 : decode cX11_spent 10 = .ok (.iaload, 1) := by decide +kernel
theorem dX11_spent_11 : decode cX11_spent 11 = .ok (.ireturn, 1) := by decide +kernel
theorem dX11_far_0 : decode cX11_far 0 = .ok (.aload_n 0, 1) := by decide +kernel
theorem dX11_far_1 : decode cX11_far 1 = .ok (.iconst 0, 1) := by decide +kernel
theorem dX11_far_2 : decode cX11_far 2 = .ok (.putfield 1, 3) := by decide +kernel
theorem dX11_far_5 : decode cX11_far 5 = .ok (.iconst 1, 1) := by decide +kernel
theorem dX11_far_6 : decode cX11_far 6 = .ok (.istore_n 2, 1) := by decide +kernel
theorem dX11_far_7 : decode cX11_far 7 = .ok (.iconst 0, 1) := by decide +kernel
theorem dX11_far_8 : decode cX11_far 8 = .ok (.istore_n 3, 1) := by decide +kernel
theorem dX11_far_9 : decode cX11_far 9 = .ok (.iload_n 3, 1) := by decide +kernel
theorem dX11_far_10 : decode cX11_far 10 = .ok (.bipush 7, 2) := by decide +kernel
theorem dX11_far_12 : decode cX11_far 12 = .ok (.if_icmp .ge 91, 3) := by decide +kernel
theorem dX11_far_15 : decode cX11_far 15 = .ok (.aload_n 0, 1) := by decide +kernel
theorem dX11_far_16 : decode cX11_far 16 = .ok (.iload_n 1, 1) := by decide +kernel
theorem dX11_far_17 : decode cX11_far 17 = .ok (.invokevirtual 343, 3) := by decide +kernel
theorem dX11_far_20 : decode cX11_far 20 = .ok (.ifCond .eq 83, 3) := by decide +kernel
theorem dX11_far_23 : decode cX11_far 23 = .ok (.iload_n 2, 1) := by decide +kernel
theorem dX11_far_24 : decode cX11_far 24 = .ok (.iload_n 1, 1) := by decide +kernel
theorem dX11_far_25 : decode cX11_far 25 = .ok (.ishr, 1) := by decide +kernel
theorem dX11_far_26 : decode cX11_far 26 = .ok (.iconst 1, 1) := by decide +kernel
theorem dX11_far_27 : decode cX11_far 27 = .ok (.iand, 1) := by decide +kernel
theorem dX11_far_28 : decode cX11_far 28 = .ok (.iconst 1, 1) := by decide +kernel
theorem dX11_far_29 : decode cX11_far 29 = .ok (.if_icmp .ne 5, 3) := by decide +kernel
theorem dX11_far_32 : decode cX11_far 32 = .ok (.iload_n 3, 1) := by decide +kernel
theorem dX11_far_33 : decode cX11_far 33 = .ok (.ireturn, 1) := by decide +kernel
theorem dX11_far_34 : decode cX11_far 34 = .ok (.iload_n 2, 1) := by decide +kernel
theorem dX11_far_35 : decode cX11_far 35 = .ok (.istore 4, 2) := by decide +kernel
theorem dX11_far_37 : decode cX11_far 37 = .ok (.iconst 0, 1) := by decide +kernel
theorem dX11_far_38 : decode cX11_far 38 = .ok (.istore 5, 2) := by decide +kernel
theorem dX11_far_40 : decode cX11_far 40 = .ok (.iload 5, 2) := by decide +kernel
theorem dX11_far_42 : decode cX11_far 42 = .ok (.aload_n 0, 1) := by decide +kernel
theorem dX11_far_43 : decode cX11_far 43 = .ok (.invokevirtual 292, 3) := by decide +kernel
theorem dX11_far_46 : decode cX11_far 46 = .ok (.if_icmp .ge 48, 3) := by decide +kernel
theorem dX11_far_49 : decode cX11_far 49 = .ok (.iconst 1, 1) := by decide +kernel
theorem dX11_far_50 : decode cX11_far 50 = .ok (.aload_n 0, 1) := by decide +kernel
theorem dX11_far_51 : decode cX11_far 51 = .ok (.iload 5, 2) := by decide +kernel
theorem dX11_far_53 : decode cX11_far 53 = .ok (.iconst 0, 1) := by decide +kernel
theorem dX11_far_54 : decode cX11_far 54 = .ok (.invokevirtual 304, 3) := by decide +kernel
theorem dX11_far_57 : decode cX11_far 57 = .ok (.ishl, 1) := by decide +kernel
theorem dX11_far_58 : decode cX11_far 58 = .ok (.iconst 1, 1) := by decide +kernel
theorem dX11_far_59 : decode cX11_far 59 = .ok (.aload_n 0, 1) := by decide +kernel
theorem dX11_far_60 : decode cX11_far 60 = .ok (.iload 5, 2) := by decide +kernel
theorem dX11_far_62 : decode cX11_far 62 = .ok (.iconst 1, 1) := by decide +kernel
theorem dX11_far_63 : decode cX11_far 63 = .ok (.invokevirtual 304, 3) := by decide +kernel
theorem dX11_far_66 : decode cX11_far 66 = .ok (.ishl, 1) := by decide +kernel
theorem dX11_far_67 : decode cX11_far 67 = .ok (.ior, 1) := by decide +kernel
theorem dX11_far_68 : decode cX11_far 68 = .ok (.istore 6, 2) := by decide +kernel
theorem dX11_far_70 : decode cX11_far 70 = .ok (.iload 4, 2) := by decide +kernel
theorem dX11_far_72 : decode cX11_far 72 = .ok (.iload_n 2, 1) := by decide +kernel
theorem dX11_far_73 : decode cX11_far 73 = .ok (.iload 6, 2) := by decide +kernel
theorem dX11_far_75 : decode cX11_far 75 = .ok (.iand, 1) := by decide +kernel
theorem dX11_far_76 : decode cX11_far 76 = .ok (.ifCond .eq 8, 3) := by decide +kernel
theorem dX11_far_79 : decode cX11_far 79 = .ok (.iload 6, 2) := by decide +kernel
theorem dX11_far_81 : decode cX11_far 81 = .ok (.goto 4, 3) := by decide +kernel
theorem dX11_far_84 : decode cX11_far 84 = .ok (.iconst 0, 1) := by decide +kernel
theorem dX11_far_85 : decode cX11_far 85 = .ok (.ior, 1) := by decide +kernel
theorem dX11_far_86 : decode cX11_far 86 = .ok (.istore 4, 2) := by decide +kernel
theorem dX11_far_88 : decode cX11_far 88 = .ok (.iinc 5 1, 3) := by decide +kernel
theorem dX11_far_91 : decode cX11_far 91 = .ok (.goto (-51), 3) := by decide +kernel
theorem dX11_far_94 : decode cX11_far 94 = .ok (.iload 4, 2) := by decide +kernel
theorem dX11_far_96 : decode cX11_far 96 = .ok (.istore_n 2, 1) := by decide +kernel
theorem dX11_far_97 : decode cX11_far 97 = .ok (.iinc 3 1, 3) := by decide +kernel
theorem dX11_far_100 : decode cX11_far 100 = .ok (.goto (-91), 3) := by decide +kernel
theorem dX11_far_103 : decode cX11_far 103 = .ok (.iconst (-1), 1) := by decide +kernel
theorem dX11_far_104 : decode cX11_far 104 = .ok (.ireturn, 1) := by decide +kernel
theorem dX11_lean_0 : decode cX11_lean 0 = .ok (.aload_n 0, 1) := by decide +kernel
theorem dX11_lean_1 : decode cX11_lean 1 = .ok (.iconst 0, 1) := by decide +kernel
theorem dX11_lean_2 : decode cX11_lean 2 = .ok (.putfield 1, 3) := by decide +kernel
theorem dX11_lean_5 : decode cX11_lean 5 = .ok (.iconst (-1), 1) := by decide +kernel
theorem dX11_lean_6 : decode cX11_lean 6 = .ok (.istore_n 2, 1) := by decide +kernel
theorem dX11_lean_7 : decode cX11_lean 7 = .ok (.iconst 0, 1) := by decide +kernel
theorem dX11_lean_8 : decode cX11_lean 8 = .ok (.istore_n 3, 1) := by decide +kernel
theorem dX11_lean_9 : decode cX11_lean 9 = .ok (.iload_n 3, 1) := by decide +kernel
theorem dX11_lean_10 : decode cX11_lean 10 = .ok (.aload_n 0, 1) := by decide +kernel
theorem dX11_lean_11 : decode cX11_lean 11 = .ok (.invokevirtual 292, 3) := by decide +kernel
theorem dX11_lean_14 : decode cX11_lean 14 = .ok (.if_icmp .ge 97, 3) := by decide +kernel
theorem dX11_lean_17 : decode cX11_lean 17 = .ok (.aload_n 0, 1) := by decide +kernel
theorem dX11_lean_18 : decode cX11_lean 18 = .ok (.iload_n 1, 1) := by decide +kernel
theorem dX11_lean_19 : decode cX11_lean 19 = .ok (.invokevirtual 352, 3) := by decide +kernel
theorem dX11_lean_22 : decode cX11_lean 22 = .ok (.ifCond .eq 89, 3) := by decide +kernel
theorem dX11_lean_25 : decode cX11_lean 25 = .ok (.aload_n 0, 1) := by decide +kernel
theorem dX11_lean_26 : decode cX11_lean 26 = .ok (.getfield 123, 3) := by decide +kernel
theorem dX11_lean_29 : decode cX11_lean 29 = .ok (.bipush 19, 2) := by decide +kernel
theorem dX11_lean_31 : decode cX11_lean 31 = .ok (.iload_n 1, 1) := by decide +kernel
theorem dX11_lean_32 : decode cX11_lean 32 = .ok (.iadd, 1) := by decide +kernel
theorem dX11_lean_33 : decode cX11_lean 33 = .ok (.iaload, 1) := by decide +kernel
theorem dX11_lean_34 : decode cX11_lean 34 = .ok (.ifCond .lt 36, 3) := by decide +kernel
theorem dX11_lean_37 : decode cX11_lean 37 = .ok (.aload_n 0, 1) := by decide +kernel
theorem dX11_lean_38 : decode cX11_lean 38 = .ok (.iload_n 3, 1) := by decide +kernel
theorem dX11_lean_39 : decode cX11_lean 39 = .ok (.aload_n 0, 1) := by decide +kernel
theorem dX11_lean_40 : decode cX11_lean 40 = .ok (.getfield 123, 3) := by decide +kernel
theorem dX11_lean_43 : decode cX11_lean 43 = .ok (.bipush 19, 2) := by decide +kernel
theorem dX11_lean_45 : decode cX11_lean 45 = .ok (.iload_n 1, 1) := by decide +kernel
theorem dX11_lean_46 : decode cX11_lean 46 = .ok (.iadd, 1) := by decide +kernel
theorem dX11_lean_47 : decode cX11_lean 47 = .ok (.iaload, 1) := by decide +kernel
theorem dX11_lean_48 : decode cX11_lean 48 = .ok (.invokevirtual 319, 3) := by decide +kernel
theorem dX11_lean_51 : decode cX11_lean 51 = .ok (.ifCond .lt 19, 3) := by decide +kernel
theorem dX11_lean_54 : decode cX11_lean 54 = .ok (.aload_n 0, 1) := by decide +kernel
theorem dX11_lean_55 : decode cX11_lean 55 = .ok (.invokevirtual 387, 3) := by decide +kernel
theorem dX11_lean_58 : decode cX11_lean 58 = .ok (.iload_n 3, 1) := by decide +kernel
theorem dX11_lean_59 : decode cX11_lean 59 = .ok (.ishr, 1) := by decide +kernel
theorem dX11_lean_60 : decode cX11_lean 60 = .ok (.iconst 1, 1) := by decide +kernel
theorem dX11_lean_61 : decode cX11_lean 61 = .ok (.iand, 1) := by decide +kernel
theorem dX11_lean_62 : decode cX11_lean 62 = .ok (.iconst 1, 1) := by decide +kernel
theorem dX11_lean_63 : decode cX11_lean 63 = .ok (.if_icmp .ne 7, 3) := by decide +kernel
theorem dX11_lean_66 : decode cX11_lean 66 = .ok (.iconst 1, 1) := by decide +kernel
theorem dX11_lean_67 : decode cX11_lean 67 = .ok (.goto 4, 3) := by decide +kernel
theorem dX11_lean_70 : decode cX11_lean 70 = .ok (.iconst 0, 1) := by decide +kernel
theorem dX11_lean_71 : decode cX11_lean 71 = .ok (.istore 4, 2) := by decide +kernel
theorem dX11_lean_73 : decode cX11_lean 73 = .ok (.iload 4, 2) := by decide +kernel
theorem dX11_lean_75 : decode cX11_lean 75 = .ok (.ifCond .eq 28, 3) := by decide +kernel
theorem dX11_lean_78 : decode cX11_lean 78 = .ok (.iload_n 2, 1) := by decide +kernel
theorem dX11_lean_79 : decode cX11_lean 79 = .ok (.ifCond .lt 20, 3) := by decide +kernel
theorem dX11_lean_82 : decode cX11_lean 82 = .ok (.aload_n 0, 1) := by decide +kernel
theorem dX11_lean_83 : decode cX11_lean 83 = .ok (.iconst 0, 1) := by decide +kernel
theorem dX11_lean_84 : decode cX11_lean 84 = .ok (.iload_n 1, 1) := by decide +kernel
theorem dX11_lean_85 : decode cX11_lean 85 = .ok (.iload_n 3, 1) := by decide +kernel
theorem dX11_lean_86 : decode cX11_lean 86 = .ok (.invokevirtual 328, 3) := by decide +kernel
theorem dX11_lean_89 : decode cX11_lean 89 = .ok (.aload_n 0, 1) := by decide +kernel
theorem dX11_lean_90 : decode cX11_lean 90 = .ok (.iconst 0, 1) := by decide +kernel
theorem dX11_lean_91 : decode cX11_lean 91 = .ok (.iload_n 1, 1) := by decide +kernel
theorem dX11_lean_92 : decode cX11_lean 92 = .ok (.iload_n 2, 1) := by decide +kernel
theorem dX11_lean_93 : decode cX11_lean 93 = .ok (.invokevirtual 328, 3) := by decide +kernel
theorem dX11_lean_96 : decode cX11_lean 96 = .ok (.if_icmp .ge 7, 3) := by decide +kernel
theorem dX11_lean_99 : decode cX11_lean 99 = .ok (.iload_n 3, 1) := by decide +kernel
theorem dX11_lean_100 : decode cX11_lean 100 = .ok (.goto 4, 3) := by decide +kernel
theorem dX11_lean_103 : decode cX11_lean 103 = .ok (.iload_n 2, 1) := by decide +kernel
theorem dX11_lean_104 : decode cX11_lean 104 = .ok (.istore_n 2, 1) := by decide +kernel
theorem dX11_lean_105 : decode cX11_lean 105 = .ok (.iinc 3 1, 3) := by decide +kernel
theorem dX11_lean_108 : decode cX11_lean 108 = .ok (.goto (-99), 3) := by decide +kernel
theorem dX11_lean_111 : decode cX11_lean 111 = .ok (.iload_n 2, 1) := by decide +kernel
theorem dX11_lean_112 : decode cX11_lean 112 = .ok (.ireturn, 1) := by decide +kernel
theorem dX11_chance_0 : decode cX11_chance 0 = .ok (.aload_n 0, 1) := by decide +kernel
theorem dX11_chance_1 : decode cX11_chance 1 = .ok (.iconst 0, 1) := by decide +kernel
theorem dX11_chance_2 : decode cX11_chance 2 = .ok (.putfield 1, 3) := by decide +kernel
theorem dX11_chance_5 : decode cX11_chance 5 = .ok (.aload_n 0, 1) := by decide +kernel
theorem dX11_chance_6 : decode cX11_chance 6 = .ok (.iload_n 1, 1) := by decide +kernel
theorem dX11_chance_7 : decode cX11_chance 7 = .ok (.invokevirtual 349, 3) := by decide +kernel
theorem dX11_chance_10 : decode cX11_chance 10 = .ok (.ifCond .eq 23, 3) := by decide +kernel
theorem dX11_chance_13 : decode cX11_chance 13 = .ok (.iload_n 2, 1) := by decide +kernel
theorem dX11_chance_14 : decode cX11_chance 14 = .ok (.iconst 1, 1) := by decide +kernel
theorem dX11_chance_15 : decode cX11_chance 15 = .ok (.bipush 6, 2) := by decide +kernel
theorem dX11_chance_17 : decode cX11_chance 17 = .ok (.invokestatic 205, 3) := by decide +kernel
theorem dX11_chance_20 : decode cX11_chance 20 = .ok (.ifCond .eq 13, 3) := by decide +kernel
theorem dX11_chance_23 : decode cX11_chance 23 = .ok (.iload_n 3, 1) := by decide +kernel
theorem dX11_chance_24 : decode cX11_chance 24 = .ok (.iconst 0, 1) := by decide +kernel
theorem dX11_chance_25 : decode cX11_chance 25 = .ok (.bipush 10, 2) := by decide +kernel
theorem dX11_chance_27 : decode cX11_chance 27 = .ok (.invokestatic 205, 3) := by decide +kernel
theorem dX11_chance_30 : decode cX11_chance 30 = .ok (.ifCond .ne 5, 3) := by decide +kernel
theorem dX11_chance_33 : decode cX11_chance 33 = .ok (.iconst (-1), 1) := by decide +kernel
theorem dX11_chance_34 : decode cX11_chance 34 = .ok (.ireturn, 1) := by decide +kernel
theorem dX11_chance_35 : decode cX11_chance 35 = .ok (.lconst 1, 1) := by decide +kernel
theorem dX11_chance_36 : decode cX11_chance 36 = .ok (.lstore 4, 2) := by decide +kernel
theorem dX11_chance_38 : decode cX11_chance 38 = .ok (.lconst 0, 1) := by decide +kernel
theorem dX11_chance_39 : decode cX11_chance 39 = .ok (.lstore 6, 2) := by decide +kernel
theorem dX11_chance_41 : decode cX11_chance 41 = .ok (.iconst 0, 1) := by decide +kernel
theorem dX11_chance_42 : decode cX11_chance 42 = .ok (.istore 8, 2) := by decide +kernel
theorem dX11_chance_44 : decode cX11_chance 44 = .ok (.iload 8, 2) := by decide +kernel
theorem dX11_chance_46 : decode cX11_chance 46 = .ok (.iload_n 2, 1) := by decide +kernel
theorem dX11_chance_47 : decode cX11_chance 47 = .ok (.if_icmp .gt 17, 3) := by decide +kernel
theorem dX11_chance_50 : decode cX11_chance 50 = .ok (.lload 4, 2) := by decide +kernel
theorem dX11_chance_52 : decode cX11_chance 52 = .ok (.ldc2_w 156, 3) := by decide +kernel
theorem dX11_chance_55 : decode cX11_chance 55 = .ok (.lmul, 1) := by decide +kernel
theorem dX11_chance_56 : decode cX11_chance 56 = .ok (.lstore 4, 2) := by decide +kernel
theorem dX11_chance_58 : decode cX11_chance 58 = .ok (.iinc 8 1, 3) := by decide +kernel
theorem dX11_chance_61 : decode cX11_chance 61 = .ok (.goto (-17), 3) := by decide +kernel
theorem dX11_chance_64 : decode cX11_chance 64 = .ok (.iconst 0, 1) := by decide +kernel
theorem dX11_chance_65 : decode cX11_chance 65 = .ok (.istore 8, 2) := by decide +kernel
theorem dX11_chance_67 : decode cX11_chance 67 = .ok (.iload 8, 2) := by decide +kernel
theorem dX11_chance_69 : decode cX11_chance 69 = .ok (.iconst 2, 1) := by decide +kernel
theorem dX11_chance_70 : decode cX11_chance 70 = .ok (.iload_n 2, 1) := by decide +kernel
theorem dX11_chance_71 : decode cX11_chance 71 = .ok (.ishl, 1) := by decide +kernel
theorem dX11_chance_72 : decode cX11_chance 72 = .ok (.if_icmp .ge 132, 3) := by decide +kernel
theorem dX11_chance_75 : decode cX11_chance 75 = .ok (.aload_n 0, 1) := by decide +kernel
theorem dX11_chance_76 : decode cX11_chance 76 = .ok (.iconst 0, 1) := by decide +kernel
theorem dX11_chance_77 : decode cX11_chance 77 = .ok (.sipush 1008, 3) := by decide +kernel
theorem dX11_chance_80 : decode cX11_chance 80 = .ok (.bipush 31, 2) := by decide +kernel
theorem dX11_chance_82 : decode cX11_chance 82 = .ok (.invokevirtual 289, 3) := by decide +kernel
theorem dX11_chance_85 : decode cX11_chance 85 = .ok (.lconst 1, 1) := by decide +kernel
theorem dX11_chance_86 : decode cX11_chance 86 = .ok (.lstore 9, 2) := by decide +kernel
theorem dX11_chance_88 : decode cX11_chance 88 = .ok (.iconst 0, 1) := by decide +kernel
theorem dX11_chance_89 : decode cX11_chance 89 = .ok (.istore 11, 2) := by decide +kernel
theorem dX11_chance_91 : decode cX11_chance 91 = .ok (.iload 11, 2) := by decide +kernel
theorem dX11_chance_93 : decode cX11_chance 93 = .ok (.iload_n 2, 1) := by decide +kernel
theorem dX11_chance_94 : decode cX11_chance 94 = .ok (.if_icmp .gt 35, 3) := by decide +kernel
theorem dX11_chance_97 : decode cX11_chance 97 = .ok (.lload 9, 2) := by decide +kernel
theorem dX11_chance_99 : decode cX11_chance 99 = .ok (.iload 8, 2) := by decide +kernel
theorem dX11_chance_101 : decode cX11_chance 101 = .ok (.iload 11, 2) := by decide +kernel
theorem dX11_chance_103 : decode cX11_chance 103 = .ok (.ishr, 1) := by decide +kernel
theorem dX11_chance_104 : decode cX11_chance 104 = .ok (.iconst 1, 1) := by decide +kernel
theorem dX11_chance_105 : decode cX11_chance 105 = .ok (.iand, 1) := by decide +kernel
theorem dX11_chance_106 : decode cX11_chance 106 = .ok (.iconst 1, 1) := by decide +kernel
theorem dX11_chance_107 : decode cX11_chance 107 = .ok (.if_icmp .ne 8, 3) := by decide +kernel
theorem dX11_chance_110 : decode cX11_chance 110 = .ok (.iload_n 3, 1) := by decide +kernel
theorem dX11_chance_111 : decode cX11_chance 111 = .ok (.i2l, 1) := by decide +kernel
theorem dX11_chance_112 : decode cX11_chance 112 = .ok (.goto 8, 3) := by decide +kernel
theorem dX11_chance_115 : decode cX11_chance 115 = .ok (.bipush 10, 2) := by decide +kernel
theorem dX11_chance_117 : decode cX11_chance 117 = .ok (.iload_n 3, 1) := by decide +kernel
theorem dX11_chance_118 : decode cX11_chance 118 = .ok (.isub, 1) := by decide +kernel
theorem dX11_chance_119 : decode cX11_chance 119 = .ok (.i2l, 1) := by decide +kernel
theorem dX11_chance_120 : decode cX11_chance 120 = .ok (.lmul, 1) := by decide +kernel
theorem dX11_chance_121 : decode cX11_chance 121 = .ok (.lstore 9, 2) := by decide +kernel
theorem dX11_chance_123 : decode cX11_chance 123 = .ok (.iinc 11 1, 3) := by decide +kernel
theorem dX11_chance_126 : decode cX11_chance 126 = .ok (.goto (-35), 3) := by decide +kernel
theorem dX11_chance_129 : decode cX11_chance 129 = .ok (.iconst 0, 1) := by decide +kernel
theorem dX11_chance_130 : decode cX11_chance 130 = .ok (.istore 11, 2) := by decide +kernel
theorem dX11_chance_132 : decode cX11_chance 132 = .ok (.iload 11, 2) := by decide +kernel
theorem dX11_chance_134 : decode cX11_chance 134 = .ok (.iload_n 2, 1) := by decide +kernel
theorem dX11_chance_135 : decode cX11_chance 135 = .ok (.if_icmp .ge 27, 3) := by decide +kernel
theorem dX11_chance_138 : decode cX11_chance 138 = .ok (.aload_n 0, 1) := by decide +kernel
theorem dX11_chance_139 : decode cX11_chance 139 = .ok (.sipush 1008, 3) := by decide +kernel
theorem dX11_chance_142 : decode cX11_chance 142 = .ok (.iload 8, 2) := by decide +kernel
theorem dX11_chance_144 : decode cX11_chance 144 = .ok (.iload 11, 2) := by decide +kernel
theorem dX11_chance_146 : decode cX11_chance 146 = .ok (.ishr, 1) := by decide +kernel
theorem dX11_chance_147 : decode cX11_chance 147 = .ok (.iconst 1, 1) := by decide +kernel
theorem dX11_chance_148 : decode cX11_chance 148 = .ok (.iand, 1) := by decide +kernel
theorem dX11_chance_149 : decode cX11_chance 149 = .ok (.bipush 9, 2) := by decide +kernel
theorem dX11_chance_151 : decode cX11_chance 151 = .ok (.imul, 1) := by decide +kernel
theorem dX11_chance_152 : decode cX11_chance 152 = .ok (.invokevirtual 340, 3) := by decide +kernel
theorem dX11_chance_155 : decode cX11_chance 155 = .ok (.pop, 1) := by decide +kernel
theorem dX11_chance_156 : decode cX11_chance 156 = .ok (.iinc 11 1, 3) := by decide +kernel
theorem dX11_chance_159 : decode cX11_chance 159 = .ok (.goto (-27), 3) := by decide +kernel
theorem dX11_chance_162 : decode cX11_chance 162 = .ok (.lload 6, 2) := by decide +kernel
theorem dX11_chance_164 : decode cX11_chance 164 = .ok (.aload_n 0, 1) := by decide +kernel
theorem dX11_chance_165 : decode cX11_chance 165 = .ok (.getfield 123, 3) := by decide +kernel
theorem dX11_chance_168 : decode cX11_chance 168 = .ok (.sipush 1012, 3) := by decide +kernel
theorem dX11_chance_171 : decode cX11_chance 171 = .ok (.iload_n 1, 1) := by decide +kernel
theorem dX11_chance_172 : decode cX11_chance 172 = .ok (.iadd, 1) := by decide +kernel
theorem dX11_chance_173 : decode cX11_chance 173 = .ok (.iaload, 1) := by decide +kernel
theorem dX11_chance_174 : decode cX11_chance 174 = .ok (.iload 8, 2) := by decide +kernel
theorem dX11_chance_176 : decode cX11_chance 176 = .ok (.iload_n 2, 1) := by decide +kernel
theorem dX11_chance_177 : decode cX11_chance 177 = .ok (.ishr, 1) := by decide +kernel
theorem dX11_chance_178 : decode cX11_chance 178 = .ok (.iconst 1, 1) := by decide +kernel
theorem dX11_chance_179 : decode cX11_chance 179 = .ok (.iand, 1) := by decide +kernel
theorem dX11_chance_180 : decode cX11_chance 180 = .ok (.bipush 9, 2) := by decide +kernel
theorem dX11_chance_182 : decode cX11_chance 182 = .ok (.imul, 1) := by decide +kernel
theorem dX11_chance_183 : decode cX11_chance 183 = .ok (.iadd, 1) := by decide +kernel
theorem dX11_chance_184 : decode cX11_chance 184 = .ok (.bipush 6, 2) := by decide +kernel
theorem dX11_chance_186 : decode cX11_chance 186 = .ok (.if_icmp .lt 8, 3) := by decide +kernel
theorem dX11_chance_189 : decode cX11_chance 189 = .ok (.lload 9, 2) := by decide +kernel
theorem dX11_chance_191 : decode cX11_chance 191 = .ok (.goto 4, 3) := by decide +kernel
theorem dX11_chance_194 : decode cX11_chance 194 = .ok (.lconst 0, 1) := by decide +kernel
theorem dX11_chance_195 : decode cX11_chance 195 = .ok (.ladd, 1) := by decide +kernel
theorem dX11_chance_196 : decode cX11_chance 196 = .ok (.lstore 6, 2) := by decide +kernel
theorem dX11_chance_198 : decode cX11_chance 198 = .ok (.iinc 8 1, 3) := by decide +kernel
theorem dX11_chance_201 : decode cX11_chance 201 = .ok (.goto (-134), 3) := by decide +kernel
theorem dX11_chance_204 : decode cX11_chance 204 = .ok (.lload 6, 2) := by decide +kernel
theorem dX11_chance_206 : decode cX11_chance 206 = .ok (.ldc2_w 418, 3) := by decide +kernel
theorem dX11_chance_209 : decode cX11_chance 209 = .ok (.lmul, 1) := by decide +kernel
theorem dX11_chance_210 : decode cX11_chance 210 = .ok (.lload 4, 2) := by decide +kernel
theorem dX11_chance_212 : decode cX11_chance 212 = .ok (.ldiv, 1) := by decide +kernel
theorem dX11_chance_213 : decode cX11_chance 213 = .ok (.l2i, 1) := by decide +kernel
theorem dX11_chance_214 : decode cX11_chance 214 = .ok (.ireturn, 1) := by decide +kernel
theorem dX11_getsBy_0 : decode cX11_getsBy 0 = .ok (.iload_n 0, 1) := by decide +kernel
theorem dX11_getsBy_1 : decode cX11_getsBy 1 = .ok (.iconst 1, 1) := by decide +kernel
theorem dX11_getsBy_2 : decode cX11_getsBy 2 = .ok (.if_icmp .ne 17, 3) := by decide +kernel
theorem dX11_getsBy_5 : decode cX11_getsBy 5 = .ok (.iload_n 1, 1) := by decide +kernel
theorem dX11_getsBy_6 : decode cX11_getsBy 6 = .ok (.iconst 1, 1) := by decide +kernel
theorem dX11_getsBy_7 : decode cX11_getsBy 7 = .ok (.if_icmp .ne 8, 3) := by decide +kernel
theorem dX11_getsBy_10 : decode cX11_getsBy 10 = .ok (.iload_n 2, 1) := by decide +kernel
theorem dX11_getsBy_11 : decode cX11_getsBy 11 = .ok (.ineg, 1) := by decide +kernel
theorem dX11_getsBy_12 : decode cX11_getsBy 12 = .ok (.goto 18, 3) := by decide +kernel
theorem dX11_getsBy_15 : decode cX11_getsBy 15 = .ok (.iload_n 3, 1) := by decide +kernel
theorem dX11_getsBy_16 : decode cX11_getsBy 16 = .ok (.goto 14, 3) := by decide +kernel
theorem dX11_getsBy_19 : decode cX11_getsBy 19 = .ok (.iload_n 1, 1) := by decide +kernel
theorem dX11_getsBy_20 : decode cX11_getsBy 20 = .ok (.iconst 1, 1) := by decide +kernel
theorem dX11_getsBy_21 : decode cX11_getsBy 21 = .ok (.if_icmp .ne 8, 3) := by decide +kernel
theorem dX11_getsBy_24 : decode cX11_getsBy 24 = .ok (.iload 4, 2) := by decide +kernel
theorem dX11_getsBy_26 : decode cX11_getsBy 26 = .ok (.goto 4, 3) := by decide +kernel
theorem dX11_getsBy_29 : decode cX11_getsBy 29 = .ok (.iconst 0, 1) := by decide +kernel
theorem dX11_getsBy_30 : decode cX11_getsBy 30 = .ok (.ireturn, 1) := by decide +kernel
theorem dX11_rests_0 : decode cX11_rests 0 = .ok (.iload_n 1, 1) := by decide +kernel
theorem dX11_rests_1 : decode cX11_rests 1 = .ok (.iconst 0, 1) := by decide +kernel
theorem dX11_rests_2 : decode cX11_rests 2 = .ok (.bipush 9, 2) := by decide +kernel
theorem dX11_rests_4 : decode cX11_rests 4 = .ok (.invokestatic 205, 3) := by decide +kernel
theorem dX11_rests_7 : decode cX11_rests 7 = .ok (.ifCond .eq 33, 3) := by decide +kernel
theorem dX11_rests_10 : decode cX11_rests 10 = .ok (.iload_n 2, 1) := by decide +kernel
theorem dX11_rests_11 : decode cX11_rests 11 = .ok (.iconst 0, 1) := by decide +kernel
theorem dX11_rests_12 : decode cX11_rests 12 = .ok (.bipush 9, 2) := by decide +kernel
theorem dX11_rests_14 : decode cX11_rests 14 = .ok (.invokestatic 205, 3) := by decide +kernel
theorem dX11_rests_17 : decode cX11_rests 17 = .ok (.ifCond .eq 23, 3) := by decide +kernel
theorem dX11_rests_20 : decode cX11_rests 20 = .ok (.iload_n 3, 1) := by decide +kernel
theorem dX11_rests_21 : decode cX11_rests 21 = .ok (.iconst 0, 1) := by decide +kernel
theorem dX11_rests_22 : decode cX11_rests 22 = .ok (.bipush 9, 2) := by decide +kernel
theorem dX11_rests_24 : decode cX11_rests 24 = .ok (.invokestatic 205, 3) := by decide +kernel
theorem dX11_rests_27 : decode cX11_rests 27 = .ok (.ifCond .eq 13, 3) := by decide +kernel
theorem dX11_rests_30 : decode cX11_rests 30 = .ok (.iload 4, 2) := by decide +kernel
theorem dX11_rests_32 : decode cX11_rests 32 = .ok (.iconst (-1), 1) := by decide +kernel
theorem dX11_rests_33 : decode cX11_rests 33 = .ok (.if_icmp .lt 7, 3) := by decide +kernel
theorem dX11_rests_36 : decode cX11_rests 36 = .ok (.iconst 1, 1) := by decide +kernel
theorem dX11_rests_37 : decode cX11_rests 37 = .ok (.goto 4, 3) := by decide +kernel
theorem dX11_rests_40 : decode cX11_rests 40 = .ok (.iconst 0, 1) := by decide +kernel
theorem dX11_rests_41 : decode cX11_rests 41 = .ok (.istore 5, 2) := by decide +kernel
theorem dX11_rests_43 : decode cX11_rests 43 = .ok (.iconst 0, 1) := by decide +kernel
theorem dX11_rests_44 : decode cX11_rests 44 = .ok (.istore 6, 2) := by decide +kernel
theorem dX11_rests_46 : decode cX11_rests 46 = .ok (.iconst (-1), 1) := by decide +kernel
theorem dX11_rests_47 : decode cX11_rests 47 = .ok (.istore 7, 2) := by decide +kernel
theorem dX11_rests_49 : decode cX11_rests 49 = .ok (.iconst 0, 1) := by decide +kernel
theorem dX11_rests_50 : decode cX11_rests 50 = .ok (.istore 8, 2) := by decide +kernel
theorem dX11_rests_52 : decode cX11_rests 52 = .ok (.iload 8, 2) := by decide +kernel
theorem dX11_rests_54 : decode cX11_rests 54 = .ok (.iconst 4, 1) := by decide +kernel
theorem dX11_rests_55 : decode cX11_rests 55 = .ok (.if_icmp .ge 119, 3) := by decide +kernel
theorem dX11_rests_58 : decode cX11_rests 58 = .ok (.iload 5, 2) := by decide +kernel
theorem dX11_rests_60 : decode cX11_rests 60 = .ok (.ifCond .eq 114, 3) := by decide +kernel
theorem dX11_rests_63 : decode cX11_rests 63 = .ok (.iload 8, 2) := by decide +kernel
theorem dX11_rests_65 : decode cX11_rests 65 = .ok (.iconst 2, 1) := by decide +kernel
theorem dX11_rests_66 : decode cX11_rests 66 = .ok (.idiv, 1) := by decide +kernel
theorem dX11_rests_67 : decode cX11_rests 67 = .ok (.istore 9, 2) := by decide +kernel
theorem dX11_rests_69 : decode cX11_rests 69 = .ok (.iload 8, 2) := by decide +kernel
theorem dX11_rests_71 : decode cX11_rests 71 = .ok (.iconst 2, 1) := by decide +kernel
theorem dX11_rests_72 : decode cX11_rests 72 = .ok (.irem, 1) := by decide +kernel
theorem dX11_rests_73 : decode cX11_rests 73 = .ok (.istore 10, 2) := by decide +kernel
theorem dX11_rests_75 : decode cX11_rests 75 = .ok (.iconst 1, 1) := by decide +kernel
theorem dX11_rests_76 : decode cX11_rests 76 = .ok (.iload 9, 2) := by decide +kernel
theorem dX11_rests_78 : decode cX11_rests 78 = .ok (.isub, 1) := by decide +kernel
theorem dX11_rests_79 : decode cX11_rests 79 = .ok (.iload 10, 2) := by decide +kernel
theorem dX11_rests_81 : decode cX11_rests 81 = .ok (.iload_n 1, 1) := by decide +kernel
theorem dX11_rests_82 : decode cX11_rests 82 = .ok (.iload_n 2, 1) := by decide +kernel
theorem dX11_rests_83 : decode cX11_rests 83 = .ok (.iload_n 3, 1) := by decide +kernel
theorem dX11_rests_84 : decode cX11_rests 84 = .ok (.invokestatic 420, 3) := by decide +kernel
theorem dX11_rests_87 : decode cX11_rests 87 = .ok (.iload 9, 2) := by decide +kernel
theorem dX11_rests_89 : decode cX11_rests 89 = .ok (.iload 10, 2) := by decide +kernel
theorem dX11_rests_91 : decode cX11_rests 91 = .ok (.iload_n 1, 1) := by decide +kernel
theorem dX11_rests_92 : decode cX11_rests 92 = .ok (.iload_n 2, 1) := by decide +kernel
theorem dX11_rests_93 : decode cX11_rests 93 = .ok (.iload_n 3, 1) := by decide +kernel
theorem dX11_rests_94 : decode cX11_rests 94 = .ok (.invokestatic 420, 3) := by decide +kernel
theorem dX11_rests_97 : decode cX11_rests 97 = .ok (.if_icmp .gt 32, 3) := by decide +kernel
theorem dX11_rests_100 : decode cX11_rests 100 = .ok (.iconst 1, 1) := by decide +kernel
theorem dX11_rests_101 : decode cX11_rests 101 = .ok (.iload 10, 2) := by decide +kernel
theorem dX11_rests_103 : decode cX11_rests 103 = .ok (.isub, 1) := by decide +kernel
theorem dX11_rests_104 : decode cX11_rests 104 = .ok (.iload 9, 2) := by decide +kernel
theorem dX11_rests_106 : decode cX11_rests 106 = .ok (.iload_n 1, 1) := by decide +kernel
theorem dX11_rests_107 : decode cX11_rests 107 = .ok (.iload_n 2, 1) := by decide +kernel
theorem dX11_rests_108 : decode cX11_rests 108 = .ok (.iload_n 3, 1) := by decide +kernel
theorem dX11_rests_109 : decode cX11_rests 109 = .ok (.invokestatic 420, 3) := by decide +kernel
theorem dX11_rests_112 : decode cX11_rests 112 = .ok (.iload 10, 2) := by decide +kernel
theorem dX11_rests_114 : decode cX11_rests 114 = .ok (.iload 9, 2) := by decide +kernel
theorem dX11_rests_116 : decode cX11_rests 116 = .ok (.iload_n 1, 1) := by decide +kernel
theorem dX11_rests_117 : decode cX11_rests 117 = .ok (.iload_n 2, 1) := by decide +kernel
theorem dX11_rests_118 : decode cX11_rests 118 = .ok (.iload_n 3, 1) := by decide +kernel
theorem dX11_rests_119 : decode cX11_rests 119 = .ok (.invokestatic 420, 3) := by decide +kernel
theorem dX11_rests_122 : decode cX11_rests 122 = .ok (.if_icmp .gt 7, 3) := by decide +kernel
theorem dX11_rests_125 : decode cX11_rests 125 = .ok (.iconst 1, 1) := by decide +kernel
theorem dX11_rests_126 : decode cX11_rests 126 = .ok (.goto 4, 3) := by decide +kernel
theorem dX11_rests_129 : decode cX11_rests 129 = .ok (.iconst 0, 1) := by decide +kernel
theorem dX11_rests_130 : decode cX11_rests 130 = .ok (.istore 11, 2) := by decide +kernel
theorem dX11_rests_132 : decode cX11_rests 132 = .ok (.iload 11, 2) := by decide +kernel
theorem dX11_rests_134 : decode cX11_rests 134 = .ok (.ifCond .eq 15, 3) := by decide +kernel
theorem dX11_rests_137 : decode cX11_rests 137 = .ok (.iload 6, 2) := by decide +kernel
theorem dX11_rests_139 : decode cX11_rests 139 = .ok (.iload 4, 2) := by decide +kernel
theorem dX11_rests_141 : decode cX11_rests 141 = .ok (.if_icmp .ne 8, 3) := by decide +kernel
theorem dX11_rests_144 : decode cX11_rests 144 = .ok (.iload 8, 2) := by decide +kernel
theorem dX11_rests_146 : decode cX11_rests 146 = .ok (.goto 5, 3) := by decide +kernel
theorem dX11_rests_149 : decode cX11_rests 149 = .ok (.iload 7, 2) := by decide +kernel
theorem dX11_rests_151 : decode cX11_rests 151 = .ok (.istore 7, 2) := by decide +kernel
theorem dX11_rests_153 : decode cX11_rests 153 = .ok (.iload 6, 2) := by decide +kernel
theorem dX11_rests_155 : decode cX11_rests 155 = .ok (.iload 11, 2) := by decide +kernel
theorem dX11_rests_157 : decode cX11_rests 157 = .ok (.ifCond .eq 7, 3) := by decide +kernel
theorem dX11_rests_160 : decode cX11_rests 160 = .ok (.iconst 1, 1) := by decide +kernel
theorem dX11_rests_161 : decode cX11_rests 161 = .ok (.goto 4, 3) := by decide +kernel
theorem dX11_rests_164 : decode cX11_rests 164 = .ok (.iconst 0, 1) := by decide +kernel
theorem dX11_rests_165 : decode cX11_rests 165 = .ok (.iadd, 1) := by decide +kernel
theorem dX11_rests_166 : decode cX11_rests 166 = .ok (.istore 6, 2) := by decide +kernel
theorem dX11_rests_168 : decode cX11_rests 168 = .ok (.iinc 8 1, 3) := by decide +kernel
theorem dX11_rests_171 : decode cX11_rests 171 = .ok (.goto (-119), 3) := by decide +kernel
theorem dX11_rests_174 : decode cX11_rests 174 = .ok (.aload_n 0, 1) := by decide +kernel
theorem dX11_rests_175 : decode cX11_rests 175 = .ok (.iload 5, 2) := by decide +kernel
theorem dX11_rests_177 : decode cX11_rests 177 = .ok (.ifCond .eq 17, 3) := by decide +kernel
theorem dX11_rests_180 : decode cX11_rests 180 = .ok (.iload 4, 2) := by decide +kernel
theorem dX11_rests_182 : decode cX11_rests 182 = .ok (.ifCond .lt 8, 3) := by decide +kernel
theorem dX11_rests_185 : decode cX11_rests 185 = .ok (.iload 7, 2) := by decide +kernel
theorem dX11_rests_187 : decode cX11_rests 187 = .ok (.ifCond .lt 7, 3) := by decide +kernel
theorem dX11_rests_190 : decode cX11_rests 190 = .ok (.iconst 0, 1) := by decide +kernel
theorem dX11_rests_191 : decode cX11_rests 191 = .ok (.goto 4, 3) := by decide +kernel
theorem dX11_rests_194 : decode cX11_rests 194 = .ok (.iconst 1, 1) := by decide +kernel
theorem dX11_rests_195 : decode cX11_rests 195 = .ok (.putfield 1, 3) := by decide +kernel
theorem dX11_rests_198 : decode cX11_rests 198 = .ok (.aload_n 0, 1) := by decide +kernel
theorem dX11_rests_199 : decode cX11_rests 199 = .ok (.getfield 1, 3) := by decide +kernel
theorem dX11_rests_202 : decode cX11_rests 202 = .ok (.ifCond .le 7, 3) := by decide +kernel
theorem dX11_rests_205 : decode cX11_rests 205 = .ok (.iconst 0, 1) := by decide +kernel
theorem dX11_rests_206 : decode cX11_rests 206 = .ok (.goto 15, 3) := by decide +kernel
theorem dX11_rests_209 : decode cX11_rests 209 = .ok (.iload 4, 2) := by decide +kernel
theorem dX11_rests_211 : decode cX11_rests 211 = .ok (.ifCond .ge 8, 3) := by decide +kernel
theorem dX11_rests_214 : decode cX11_rests 214 = .ok (.iload 6, 2) := by decide +kernel
theorem dX11_rests_216 : decode cX11_rests 216 = .ok (.goto 5, 3) := by decide +kernel
theorem dX11_rests_219 : decode cX11_rests 219 = .ok (.iload 7, 2) := by decide +kernel
theorem dX11_rests_221 : decode cX11_rests 221 = .ok (.ireturn, 1) := by decide +kernel
theorem dX11_draw_0 : decode cX11_draw 0 = .ok (.aload_n 0, 1) := by decide +kernel
theorem dX11_draw_1 : decode cX11_draw 1 = .ok (.aload_n 0, 1) := by decide +kernel
theorem dX11_draw_2 : decode cX11_draw 2 = .ok (.getfield 423, 3) := by decide +kernel
theorem dX11_draw_5 : decode cX11_draw 5 = .ok (.ldc2_w 427, 3) := by decide +kernel
theorem dX11_draw_8 : decode cX11_draw 8 = .ok (.lmul, 1) := by decide +kernel
theorem dX11_draw_9 : decode cX11_draw 9 = .ok (.ldc2_w 429, 3) := by decide +kernel
theorem dX11_draw_12 : decode cX11_draw 12 = .ok (.ladd, 1) := by decide +kernel
theorem dX11_draw_13 : decode cX11_draw 13 = .ok (.ldc2_w 431, 3) := by decide +kernel
theorem dX11_draw_16 : decode cX11_draw 16 = .ok (.lrem, 1) := by decide +kernel
theorem dX11_draw_17 : decode cX11_draw 17 = .ok (.putfield 423, 3) := by decide +kernel
theorem dX11_draw_20 : decode cX11_draw 20 = .ok (.aload_n 0, 1) := by decide +kernel
theorem dX11_draw_21 : decode cX11_draw 21 = .ok (.getfield 423, 3) := by decide +kernel
theorem dX11_draw_24 : decode cX11_draw 24 = .ok (.ldc2_w 433, 3) := by decide +kernel
theorem dX11_draw_27 : decode cX11_draw 27 = .ok (.ldiv, 1) := by decide +kernel
theorem dX11_draw_28 : decode cX11_draw 28 = .ok (.iload_n 1, 1) := by decide +kernel
theorem dX11_draw_29 : decode cX11_draw 29 = .ok (.i2l, 1) := by decide +kernel
theorem dX11_draw_30 : decode cX11_draw 30 = .ok (.lrem, 1) := by decide +kernel
theorem dX11_draw_31 : decode cX11_draw 31 = .ok (.l2i, 1) := by decide +kernel
theorem dX11_draw_32 : decode cX11_draw 32 = .ok (.ireturn, 1) := by decide +kernel
theorem dX11_drawsDeed_0 : decode cX11_drawsDeed 0 = .ok (.aload_n 0, 1) := by decide +kernel
theorem dX11_drawsDeed_1 : decode cX11_drawsDeed 1 = .ok (.aload_n 0, 1) := by decide +kernel
theorem dX11_drawsDeed_2 : decode cX11_drawsDeed 2 = .ok (.invokevirtual 276, 3) := by decide +kernel
theorem dX11_drawsDeed_5 : decode cX11_drawsDeed 5 = .ok (.invokevirtual 435, 3) := by decide +kernel
theorem dX11_drawsDeed_8 : decode cX11_drawsDeed 8 = .ok (.istore_n 1, 1) := by decide +kernel
theorem dX11_drawsDeed_9 : decode cX11_drawsDeed 9 = .ok (.aload_n 0, 1) := by decide +kernel
theorem dX11_drawsDeed_10 : decode cX11_drawsDeed 10 = .ok (.aload_n 0, 1) := by decide +kernel
theorem dX11_drawsDeed_11 : decode cX11_drawsDeed 11 = .ok (.invokevirtual 292, 3) := by decide +kernel
theorem dX11_drawsDeed_14 : decode cX11_drawsDeed 14 = .ok (.invokevirtual 435, 3) := by decide +kernel
theorem dX11_drawsDeed_17 : decode cX11_drawsDeed 17 = .ok (.istore_n 2, 1) := by decide +kernel
theorem dX11_drawsDeed_18 : decode cX11_drawsDeed 18 = .ok (.aload_n 0, 1) := by decide +kernel
theorem dX11_drawsDeed_19 : decode cX11_drawsDeed 19 = .ok (.iconst 4, 1) := by decide +kernel
theorem dX11_drawsDeed_20 : decode cX11_drawsDeed 20 = .ok (.invokevirtual 435, 3) := by decide +kernel
theorem dX11_drawsDeed_23 : decode cX11_drawsDeed 23 = .ok (.istore_n 3, 1) := by decide +kernel
theorem dX11_drawsDeed_24 : decode cX11_drawsDeed 24 = .ok (.iload_n 3, 1) := by decide +kernel
theorem dX11_drawsDeed_25 : decode cX11_drawsDeed 25 = .ok (.iconst 3, 1) := by decide +kernel
theorem dX11_drawsDeed_26 : decode cX11_drawsDeed 26 = .ok (.if_icmp .ne 13, 3) := by decide +kernel
theorem dX11_drawsDeed_29 : decode cX11_drawsDeed 29 = .ok (.aload_n 0, 1) := by decide +kernel
theorem dX11_drawsDeed_30 : decode cX11_drawsDeed 30 = .ok (.sipush 1056, 3) := by decide +kernel
theorem dX11_drawsDeed_33 : decode cX11_drawsDeed 33 = .ok (.invokevirtual 378, 3) := by decide +kernel
theorem dX11_drawsDeed_36 : decode cX11_drawsDeed 36 = .ok (.pop, 1) := by decide +kernel
theorem dX11_drawsDeed_37 : decode cX11_drawsDeed 37 = .ok (.iconst 0, 1) := by decide +kernel
theorem dX11_drawsDeed_38 : decode cX11_drawsDeed 38 = .ok (.ireturn, 1) := by decide +kernel
theorem dX11_drawsDeed_39 : decode cX11_drawsDeed 39 = .ok (.iload_n 3, 1) := by decide +kernel
theorem dX11_drawsDeed_40 : decode cX11_drawsDeed 40 = .ok (.ifCond .ne 15, 3) := by decide +kernel
theorem dX11_drawsDeed_43 : decode cX11_drawsDeed 43 = .ok (.aload_n 0, 1) := by decide +kernel
theorem dX11_drawsDeed_44 : decode cX11_drawsDeed 44 = .ok (.sipush 1056, 3) := by decide +kernel
theorem dX11_drawsDeed_47 : decode cX11_drawsDeed 47 = .ok (.iload_n 1, 1) := by decide +kernel
theorem dX11_drawsDeed_48 : decode cX11_drawsDeed 48 = .ok (.iload_n 2, 1) := by decide +kernel
theorem dX11_drawsDeed_49 : decode cX11_drawsDeed 49 = .ok (.invokevirtual 362, 3) := by decide +kernel
theorem dX11_drawsDeed_52 : decode cX11_drawsDeed 52 = .ok (.goto 12, 3) := by decide +kernel
theorem dX11_drawsDeed_55 : decode cX11_drawsDeed 55 = .ok (.aload_n 0, 1) := by decide +kernel
theorem dX11_drawsDeed_56 : decode cX11_drawsDeed 56 = .ok (.sipush 1056, 3) := by decide +kernel
theorem dX11_drawsDeed_59 : decode cX11_drawsDeed 59 = .ok (.iload_n 1, 1) := by decide +kernel
theorem dX11_drawsDeed_60 : decode cX11_drawsDeed 60 = .ok (.iload_n 2, 1) := by decide +kernel
theorem dX11_drawsDeed_61 : decode cX11_drawsDeed 61 = .ok (.invokevirtual 331, 3) := by decide +kernel
theorem dX11_drawsDeed_64 : decode cX11_drawsDeed 64 = .ok (.istore 4, 2) := by decide +kernel
theorem dX11_drawsDeed_66 : decode cX11_drawsDeed 66 = .ok (.iload 4, 2) := by decide +kernel
theorem dX11_drawsDeed_68 : decode cX11_drawsDeed 68 = .ok (.ifCond .eq 21, 3) := by decide +kernel
theorem dX11_drawsDeed_71 : decode cX11_drawsDeed 71 = .ok (.aload_n 0, 1) := by decide +kernel
theorem dX11_drawsDeed_72 : decode cX11_drawsDeed 72 = .ok (.sipush 1056, 3) := by decide +kernel
theorem dX11_drawsDeed_75 : decode cX11_drawsDeed 75 = .ok (.iload_n 1, 1) := by decide +kernel
theorem dX11_drawsDeed_76 : decode cX11_drawsDeed 76 = .ok (.iload_n 2, 1) := by decide +kernel
theorem dX11_drawsDeed_77 : decode cX11_drawsDeed 77 = .ok (.iload_n 3, 1) := by decide +kernel
theorem dX11_drawsDeed_78 : decode cX11_drawsDeed 78 = .ok (.ifCond .ne 7, 3) := by decide +kernel
theorem dX11_drawsDeed_81 : decode cX11_drawsDeed 81 = .ok (.iconst 1, 1) := by decide +kernel
theorem dX11_drawsDeed_82 : decode cX11_drawsDeed 82 = .ok (.goto 4, 3) := by decide +kernel
theorem dX11_drawsDeed_85 : decode cX11_drawsDeed 85 = .ok (.iconst 0, 1) := by decide +kernel
theorem dX11_drawsDeed_86 : decode cX11_drawsDeed 86 = .ok (.invokevirtual 358, 3) := by decide +kernel
theorem dX11_drawsDeed_89 : decode cX11_drawsDeed 89 = .ok (.iload 4, 2) := by decide +kernel
theorem dX11_drawsDeed_91 : decode cX11_drawsDeed 91 = .ok (.ireturn, 1) := by decide +kernel
theorem dX11_years_0 : decode cX11_years 0 = .ok (.aload_n 0, 1) := by decide +kernel
theorem dX11_years_1 : decode cX11_years 1 = .ok (.iconst 0, 1) := by decide +kernel
theorem dX11_years_2 : decode cX11_years 2 = .ok (.putfield 1, 3) := by decide +kernel
theorem dX11_years_5 : decode cX11_years 5 = .ok (.iload_n 1, 1) := by decide +kernel
theorem dX11_years_6 : decode cX11_years 6 = .ok (.iconst 0, 1) := by decide +kernel
theorem dX11_years_7 : decode cX11_years 7 = .ok (.sipush 9999, 3) := by decide +kernel
theorem dX11_years_10 : decode cX11_years 10 = .ok (.invokestatic 205, 3) := by decide +kernel
theorem dX11_years_13 : decode cX11_years 13 = .ok (.ifCond .eq 22, 3) := by decide +kernel
theorem dX11_years_16 : decode cX11_years 16 = .ok (.iload_n 2, 1) := by decide +kernel
theorem dX11_years_17 : decode cX11_years 17 = .ok (.iconst 1, 1) := by decide +kernel
theorem dX11_years_18 : decode cX11_years 18 = .ok (.bipush 99, 2) := by decide +kernel
theorem dX11_years_20 : decode cX11_years 20 = .ok (.invokestatic 205, 3) := by decide +kernel
theorem dX11_years_23 : decode cX11_years 23 = .ok (.ifCond .eq 12, 3) := by decide +kernel
theorem dX11_years_26 : decode cX11_years 26 = .ok (.iload_n 3, 1) := by decide +kernel
theorem dX11_years_27 : decode cX11_years 27 = .ok (.iconst 0, 1) := by decide +kernel
theorem dX11_years_28 : decode cX11_years 28 = .ok (.iconst 2, 1) := by decide +kernel
theorem dX11_years_29 : decode cX11_years 29 = .ok (.invokestatic 205, 3) := by decide +kernel
theorem dX11_years_32 : decode cX11_years 32 = .ok (.ifCond .ne 5, 3) := by decide +kernel
theorem dX11_years_35 : decode cX11_years 35 = .ok (.iconst (-1), 1) := by decide +kernel
theorem dX11_years_36 : decode cX11_years 36 = .ok (.ireturn, 1) := by decide +kernel
theorem dX11_years_37 : decode cX11_years 37 = .ok (.aload_n 0, 1) := by decide +kernel
theorem dX11_years_38 : decode cX11_years 38 = .ok (.iconst 0, 1) := by decide +kernel
theorem dX11_years_39 : decode cX11_years 39 = .ok (.sipush 1056, 3) := by decide +kernel
theorem dX11_years_42 : decode cX11_years 42 = .ok (.bipush 31, 2) := by decide +kernel
theorem dX11_years_44 : decode cX11_years 44 = .ok (.invokevirtual 289, 3) := by decide +kernel
theorem dX11_years_47 : decode cX11_years 47 = .ok (.aload_n 0, 1) := by decide +kernel
theorem dX11_years_48 : decode cX11_years 48 = .ok (.iload_n 1, 1) := by decide +kernel
theorem dX11_years_49 : decode cX11_years 49 = .ok (.i2l, 1) := by decide +kernel
theorem dX11_years_50 : decode cX11_years 50 = .ok (.putfield 423, 3) := by decide +kernel
theorem dX11_years_53 : decode cX11_years 53 = .ok (.iconst 0, 1) := by decide +kernel
theorem dX11_years_54 : decode cX11_years 54 = .ok (.istore 4, 2) := by decide +kernel
theorem dX11_years_56 : decode cX11_years 56 = .ok (.iconst 0, 1) := by decide +kernel
theorem dX11_years_57 : decode cX11_years 57 = .ok (.istore 5, 2) := by decide +kernel
theorem dX11_years_59 : decode cX11_years 59 = .ok (.iload 5, 2) := by decide +kernel
theorem dX11_years_61 : decode cX11_years 61 = .ok (.iload_n 2, 1) := by decide +kernel
theorem dX11_years_62 : decode cX11_years 62 = .ok (.if_icmp .ge 40, 3) := by decide +kernel
theorem dX11_years_65 : decode cX11_years 65 = .ok (.aload_n 0, 1) := by decide +kernel
theorem dX11_years_66 : decode cX11_years 66 = .ok (.invokevirtual 276, 3) := by decide +kernel
theorem dX11_years_69 : decode cX11_years 69 = .ok (.ifCond .le 33, 3) := by decide +kernel
theorem dX11_years_72 : decode cX11_years 72 = .ok (.aload_n 0, 1) := by decide +kernel
theorem dX11_years_73 : decode cX11_years 73 = .ok (.invokevirtual 292, 3) := by decide +kernel
theorem dX11_years_76 : decode cX11_years 76 = .ok (.ifCond .le 26, 3) := by decide +kernel
theorem dX11_years_79 : decode cX11_years 79 = .ok (.iload 4, 2) := by decide +kernel
theorem dX11_years_81 : decode cX11_years 81 = .ok (.aload_n 0, 1) := by decide +kernel
theorem dX11_years_82 : decode cX11_years 82 = .ok (.invokevirtual 438, 3) := by decide +kernel
theorem dX11_years_85 : decode cX11_years 85 = .ok (.ifCond .eq 7, 3) := by decide +kernel
theorem dX11_years_88 : decode cX11_years 88 = .ok (.iconst 1, 1) := by decide +kernel
theorem dX11_years_89 : decode cX11_years 89 = .ok (.goto 4, 3) := by decide +kernel
theorem dX11_years_92 : decode cX11_years 92 = .ok (.iconst 0, 1) := by decide +kernel
theorem dX11_years_93 : decode cX11_years 93 = .ok (.iadd, 1) := by decide +kernel
theorem dX11_years_94 : decode cX11_years 94 = .ok (.istore 4, 2) := by decide +kernel
theorem dX11_years_96 : decode cX11_years 96 = .ok (.iinc 5 1, 3) := by decide +kernel
theorem dX11_years_99 : decode cX11_years 99 = .ok (.goto (-40), 3) := by decide +kernel
theorem dX11_years_102 : decode cX11_years 102 = .ok (.iload_n 3, 1) := by decide +kernel
theorem dX11_years_103 : decode cX11_years 103 = .ok (.ifCond .ne 8, 3) := by decide +kernel
theorem dX11_years_106 : decode cX11_years 106 = .ok (.iload 4, 2) := by decide +kernel
theorem dX11_years_108 : decode cX11_years 108 = .ok (.goto 30, 3) := by decide +kernel
theorem dX11_years_111 : decode cX11_years 111 = .ok (.iload_n 3, 1) := by decide +kernel
theorem dX11_years_112 : decode cX11_years 112 = .ok (.iconst 1, 1) := by decide +kernel
theorem dX11_years_113 : decode cX11_years 113 = .ok (.if_icmp .ne 14, 3) := by decide +kernel
theorem dX11_years_116 : decode cX11_years 116 = .ok (.aload_n 0, 1) := by decide +kernel
theorem dX11_years_117 : decode cX11_years 117 = .ok (.getfield 123, 3) := by decide +kernel
theorem dX11_years_120 : decode cX11_years 120 = .ok (.sipush 1058, 3) := by decide +kernel
theorem dX11_years_123 : decode cX11_years 123 = .ok (.iaload, 1) := by decide +kernel
theorem dX11_years_124 : decode cX11_years 124 = .ok (.goto 14, 3) := by decide +kernel
theorem dX11_years_127 : decode cX11_years 127 = .ok (.aload_n 0, 1) := by decide +kernel
theorem dX11_years_128 : decode cX11_years 128 = .ok (.sipush 1079, 3) := by decide +kernel
theorem dX11_years_131 : decode cX11_years 131 = .ok (.aload_n 0, 1) := by decide +kernel
theorem dX11_years_132 : decode cX11_years 132 = .ok (.invokevirtual 276, 3) := by decide +kernel
theorem dX11_years_135 : decode cX11_years 135 = .ok (.invokevirtual 441, 3) := by decide +kernel
theorem dX11_years_138 : decode cX11_years 138 = .ok (.ireturn, 1) := by decide +kernel
theorem dX11_mark_0 : decode cX11_mark 0 = .ok (.aload_n 0, 1) := by decide +kernel
theorem dX11_mark_1 : decode cX11_mark 1 = .ok (.iconst 0, 1) := by decide +kernel
theorem dX11_mark_2 : decode cX11_mark 2 = .ok (.putfield 1, 3) := by decide +kernel
theorem dX11_mark_5 : decode cX11_mark 5 = .ok (.iload_n 1, 1) := by decide +kernel
theorem dX11_mark_6 : decode cX11_mark 6 = .ok (.iconst 0, 1) := by decide +kernel
theorem dX11_mark_7 : decode cX11_mark 7 = .ok (.iconst 3, 1) := by decide +kernel
theorem dX11_mark_8 : decode cX11_mark 8 = .ok (.invokestatic 205, 3) := by decide +kernel
theorem dX11_mark_11 : decode cX11_mark 11 = .ok (.ifCond .eq 16, 3) := by decide +kernel
theorem dX11_mark_14 : decode cX11_mark 14 = .ok (.iload_n 2, 1) := by decide +kernel
theorem dX11_mark_15 : decode cX11_mark 15 = .ok (.ifCond .eq 14, 3) := by decide +kernel
theorem dX11_mark_18 : decode cX11_mark 18 = .ok (.aload_n 0, 1) := by decide +kernel
theorem dX11_mark_19 : decode cX11_mark 19 = .ok (.getfield 126, 3) := by decide +kernel
theorem dX11_mark_22 : decode cX11_mark 22 = .ok (.iload_n 1, 1) := by decide +kernel
theorem dX11_mark_23 : decode cX11_mark 23 = .ok (.baload, 1) := by decide +kernel
theorem dX11_mark_24 : decode cX11_mark 24 = .ok (.ifCond .ne 5, 3) := by decide +kernel
theorem dX11_mark_27 : decode cX11_mark 27 = .ok (.iconst 0, 1) := by decide +kernel
theorem dX11_mark_28 : decode cX11_mark 28 = .ok (.ireturn, 1) := by decide +kernel
theorem dX11_mark_29 : decode cX11_mark 29 = .ok (.aload_n 0, 1) := by decide +kernel
theorem dX11_mark_30 : decode cX11_mark 30 = .ok (.getfield 126, 3) := by decide +kernel
theorem dX11_mark_33 : decode cX11_mark 33 = .ok (.iload_n 1, 1) := by decide +kernel
theorem dX11_mark_34 : decode cX11_mark 34 = .ok (.iconst 1, 1) := by decide +kernel
theorem dX11_mark_35 : decode cX11_mark 35 = .ok (.bastore, 1) := by decide +kernel
theorem dX11_mark_36 : decode cX11_mark 36 = .ok (.aload_n 0, 1) := by decide +kernel
theorem dX11_mark_37 : decode cX11_mark 37 = .ok (.iload_n 2, 1) := by decide +kernel
theorem dX11_mark_38 : decode cX11_mark 38 = .ok (.ifCond .eq 12, 3) := by decide +kernel
theorem dX11_mark_41 : decode cX11_mark 41 = .ok (.bipush 48, 2) := by decide +kernel
theorem dX11_mark_43 : decode cX11_mark 43 = .ok (.iconst 1, 1) := by decide +kernel
theorem dX11_mark_44 : decode cX11_mark 44 = .ok (.iload_n 1, 1) := by decide +kernel
theorem dX11_mark_45 : decode cX11_mark 45 = .ok (.iadd, 1) := by decide +kernel
theorem dX11_mark_46 : decode cX11_mark 46 = .ok (.imul, 1) := by decide +kernel
theorem dX11_mark_47 : decode cX11_mark 47 = .ok (.goto 4, 3) := by decide +kernel
theorem dX11_mark_50 : decode cX11_mark 50 = .ok (.iconst 0, 1) := by decide +kernel
theorem dX11_mark_51 : decode cX11_mark 51 = .ok (.iload_n 2, 1) := by decide +kernel
theorem dX11_mark_52 : decode cX11_mark 52 = .ok (.ifCond .eq 7, 3) := by decide +kernel
theorem dX11_mark_55 : decode cX11_mark 55 = .ok (.iconst 0, 1) := by decide +kernel
theorem dX11_mark_56 : decode cX11_mark 56 = .ok (.goto 9, 3) := by decide +kernel
theorem dX11_mark_59 : decode cX11_mark 59 = .ok (.bipush 48, 2) := by decide +kernel
theorem dX11_mark_61 : decode cX11_mark 61 = .ok (.iconst 1, 1) := by decide +kernel
theorem dX11_mark_62 : decode cX11_mark 62 = .ok (.iload_n 1, 1) := by decide +kernel
theorem dX11_mark_63 : decode cX11_mark 63 = .ok (.iadd, 1) := by decide +kernel
theorem dX11_mark_64 : decode cX11_mark 64 = .ok (.imul, 1) := by decide +kernel
theorem dX11_mark_65 : decode cX11_mark 65 = .ok (.bipush 48, 2) := by decide +kernel
theorem dX11_mark_67 : decode cX11_mark 67 = .ok (.invokevirtual 289, 3) := by decide +kernel
theorem dX11_mark_70 : decode cX11_mark 70 = .ok (.aload_n 0, 1) := by decide +kernel
theorem dX11_mark_71 : decode cX11_mark 71 = .ok (.iload_n 2, 1) := by decide +kernel
theorem dX11_mark_72 : decode cX11_mark 72 = .ok (.ifCond .eq 7, 3) := by decide +kernel
theorem dX11_mark_75 : decode cX11_mark 75 = .ok (.iconst 0, 1) := by decide +kernel
theorem dX11_mark_76 : decode cX11_mark 76 = .ok (.goto 7, 3) := by decide +kernel
theorem dX11_mark_79 : decode cX11_mark 79 = .ok (.aload_n 0, 1) := by decide +kernel
theorem dX11_mark_80 : decode cX11_mark 80 = .ok (.getfield 286, 3) := by decide +kernel
theorem dX11_mark_83 : decode cX11_mark 83 = .ok (.putfield 286, 3) := by decide +kernel
theorem dX11_mark_86 : decode cX11_mark 86 = .ok (.iconst 1, 1) := by decide +kernel
theorem dX11_mark_87 : decode cX11_mark 87 = .ok (.ireturn, 1) := by decide +kernel
theorem dX11_count_0 : decode cX11_count 0 = .ok (.aload_n 0, 1) := by decide +kernel
theorem dX11_count_1 : decode cX11_count 1 = .ok (.iconst 0, 1) := by decide +kernel
theorem dX11_count_2 : decode cX11_count 2 = .ok (.putfield 1, 3) := by decide +kernel
theorem dX11_count_5 : decode cX11_count 5 = .ok (.iload_n 1, 1) := by decide +kernel
theorem dX11_count_6 : decode cX11_count 6 = .ok (.tableswitch 166 0 13 #[70, 70, 70, 77, 84, 95, 102, 109, 119, 130, 141, 148, 156, 161], 70) := by decide +kernel
theorem dX11_count_76 : decode cX11_count 76 = .ok (.aload_n 0, 1) := by decide +kernel
theorem dX11_count_77 : decode cX11_count 77 = .ok (.getfield 93, 3) := by decide +kernel
theorem dX11_count_80 : decode cX11_count 80 = .ok (.iload_n 1, 1) := by decide +kernel
theorem dX11_count_81 : decode cX11_count 81 = .ok (.iaload, 1) := by decide +kernel
theorem dX11_count_82 : decode cX11_count 82 = .ok (.ireturn, 1) := by decide +kernel
theorem dX11_count_83 : decode cX11_count 83 = .ok (.aload_n 0, 1) := by decide +kernel
theorem dX11_count_84 : decode cX11_count 84 = .ok (.getfield 123, 3) := by decide +kernel
theorem dX11_count_87 : decode cX11_count 87 = .ok (.iconst 0, 1) := by decide +kernel
theorem dX11_count_88 : decode cX11_count 88 = .ok (.iaload, 1) := by decide +kernel
theorem dX11_count_89 : decode cX11_count 89 = .ok (.ireturn, 1) := by decide +kernel
theorem dX11_count_90 : decode cX11_count 90 = .ok (.aload_n 0, 1) := by decide +kernel
theorem dX11_count_91 : decode cX11_count 91 = .ok (.aload_n 0, 1) := by decide +kernel
theorem dX11_count_92 : decode cX11_count 92 = .ok (.getfield 123, 3) := by decide +kernel
theorem dX11_count_95 : decode cX11_count 95 = .ok (.iconst 0, 1) := by decide +kernel
theorem dX11_count_96 : decode cX11_count 96 = .ok (.iaload, 1) := by decide +kernel
theorem dX11_count_97 : decode cX11_count 97 = .ok (.invokevirtual 295, 3) := by decide +kernel
theorem dX11_count_100 : decode cX11_count 100 = .ok (.ireturn, 1) := by decide +kernel
theorem dX11_count_101 : decode cX11_count 101 = .ok (.aload_n 0, 1) := by decide +kernel
theorem dX11_count_102 : decode cX11_count 102 = .ok (.getfield 123, 3) := by decide +kernel
theorem dX11_count_105 : decode cX11_count 105 = .ok (.iconst 2, 1) := by decide +kernel
theorem dX11_count_106 : decode cX11_count 106 = .ok (.iaload, 1) := by decide +kernel
theorem dX11_count_107 : decode cX11_count 107 = .ok (.ireturn, 1) := by decide +kernel
theorem dX11_count_108 : decode cX11_count 108 = .ok (.aload_n 0, 1) := by decide +kernel
theorem dX11_count_109 : decode cX11_count 109 = .ok (.getfield 123, 3) := by decide +kernel
theorem dX11_count_112 : decode cX11_count 112 = .ok (.iconst 1, 1) := by decide +kernel
theorem dX11_count_113 : decode cX11_count 113 = .ok (.iaload, 1) := by decide +kernel
theorem dX11_count_114 : decode cX11_count 114 = .ok (.ireturn, 1) := by decide +kernel
theorem dX11_count_115 : decode cX11_count 115 = .ok (.aload_n 0, 1) := by decide +kernel
theorem dX11_count_116 : decode cX11_count 116 = .ok (.iconst 4, 1) := by decide +kernel
theorem dX11_count_117 : decode cX11_count 117 = .ok (.aload_n 0, 1) := by decide +kernel
theorem dX11_count_118 : decode cX11_count 118 = .ok (.invokevirtual 292, 3) := by decide +kernel
theorem dX11_count_121 : decode cX11_count 121 = .ok (.invokevirtual 441, 3) := by decide +kernel
theorem dX11_count_124 : decode cX11_count 124 = .ok (.ireturn, 1) := by decide +kernel
theorem dX11_count_125 : decode cX11_count 125 = .ok (.aload_n 0, 1) := by decide +kernel
theorem dX11_count_126 : decode cX11_count 126 = .ok (.bipush 23, 2) := by decide +kernel
theorem dX11_count_128 : decode cX11_count 128 = .ok (.aload_n 0, 1) := by decide +kernel
theorem dX11_count_129 : decode cX11_count 129 = .ok (.invokevirtual 276, 3) := by decide +kernel
theorem dX11_count_132 : decode cX11_count 132 = .ok (.invokevirtual 441, 3) := by decide +kernel
theorem dX11_count_135 : decode cX11_count 135 = .ok (.ireturn, 1) := by decide +kernel
theorem dX11_count_136 : decode cX11_count 136 = .ok (.aload_n 0, 1) := by decide +kernel
theorem dX11_count_137 : decode cX11_count 137 = .ok (.bipush 12, 2) := by decide +kernel
theorem dX11_count_139 : decode cX11_count 139 = .ok (.aload_n 0, 1) := by decide +kernel
theorem dX11_count_140 : decode cX11_count 140 = .ok (.invokevirtual 280, 3) := by decide +kernel
theorem dX11_count_143 : decode cX11_count 143 = .ok (.invokevirtual 441, 3) := by decide +kernel
theorem dX11_count_146 : decode cX11_count 146 = .ok (.ireturn, 1) := by decide +kernel
theorem dX11_count_147 : decode cX11_count 147 = .ok (.aload_n 0, 1) := by decide +kernel
theorem dX11_count_148 : decode cX11_count 148 = .ok (.getfield 114, 3) := by decide +kernel
theorem dX11_count_151 : decode cX11_count 151 = .ok (.iconst 0, 1) := by decide +kernel
theorem dX11_count_152 : decode cX11_count 152 = .ok (.iaload, 1) := by decide +kernel
theorem dX11_count_153 : decode cX11_count 153 = .ok (.ireturn, 1) := by decide +kernel
theorem dX11_count_154 : decode cX11_count 154 = .ok (.aload_n 0, 1) := by decide +kernel
theorem dX11_count_155 : decode cX11_count 155 = .ok (.getfield 123, 3) := by decide +kernel
theorem dX11_count_158 : decode cX11_count 158 = .ok (.bipush 31, 2) := by decide +kernel
theorem dX11_count_160 : decode cX11_count 160 = .ok (.iaload, 1) := by decide +kernel
theorem dX11_count_161 : decode cX11_count 161 = .ok (.ireturn, 1) := by decide +kernel
theorem dX11_count_162 : decode cX11_count 162 = .ok (.aload_n 0, 1) := by decide +kernel
theorem dX11_count_163 : decode cX11_count 163 = .ok (.getfield 286, 3) := by decide +kernel
theorem dX11_count_166 : decode cX11_count 166 = .ok (.ireturn, 1) := by decide +kernel
theorem dX11_count_167 : decode cX11_count 167 = .ok (.aload_n 0, 1) := by decide +kernel
theorem dX11_count_168 : decode cX11_count 168 = .ok (.getfield 11, 3) := by decide +kernel
theorem dX11_count_171 : decode cX11_count 171 = .ok (.ireturn, 1) := by decide +kernel
theorem dX11_count_172 : decode cX11_count 172 = .ok (.iconst (-1), 1) := by decide +kernel
theorem dX11_count_173 : decode cX11_count 173 = .ok (.ireturn, 1) := by decide +kernel
theorem dJ6_bitCount_0f7a4_0 : decode cJ6_bitCount_0f7a4 0 = .ok (.iload_n 0, 1) := by decide +kernel
theorem dJ6_bitCount_0f7a4_1 : decode cJ6_bitCount_0f7a4 1 = .ok (.iload_n 0, 1) := by decide +kernel
theorem dJ6_bitCount_0f7a4_2 : decode cJ6_bitCount_0f7a4 2 = .ok (.iconst 1, 1) := by decide +kernel
theorem dJ6_bitCount_0f7a4_3 : decode cJ6_bitCount_0f7a4 3 = .ok (.iushr, 1) := by decide +kernel
theorem dJ6_bitCount_0f7a4_4 : decode cJ6_bitCount_0f7a4 4 = .ok (.ldc_w 265, 3) := by decide +kernel
theorem dJ6_bitCount_0f7a4_7 : decode cJ6_bitCount_0f7a4 7 = .ok (.iand, 1) := by decide +kernel
theorem dJ6_bitCount_0f7a4_8 : decode cJ6_bitCount_0f7a4 8 = .ok (.isub, 1) := by decide +kernel
theorem dJ6_bitCount_0f7a4_9 : decode cJ6_bitCount_0f7a4 9 = .ok (.istore_n 0, 1) := by decide +kernel
theorem dJ6_bitCount_0f7a4_10 : decode cJ6_bitCount_0f7a4 10 = .ok (.iload_n 0, 1) := by decide +kernel
theorem dJ6_bitCount_0f7a4_11 : decode cJ6_bitCount_0f7a4 11 = .ok (.ldc_w 266, 3) := by decide +kernel
theorem dJ6_bitCount_0f7a4_14 : decode cJ6_bitCount_0f7a4 14 = .ok (.iand, 1) := by decide +kernel
theorem dJ6_bitCount_0f7a4_15 : decode cJ6_bitCount_0f7a4 15 = .ok (.iload_n 0, 1) := by decide +kernel
theorem dJ6_bitCount_0f7a4_16 : decode cJ6_bitCount_0f7a4 16 = .ok (.iconst 2, 1) := by decide +kernel
theorem dJ6_bitCount_0f7a4_17 : decode cJ6_bitCount_0f7a4 17 = .ok (.iushr, 1) := by decide +kernel
theorem dJ6_bitCount_0f7a4_18 : decode cJ6_bitCount_0f7a4 18 = .ok (.ldc_w 266, 3) := by decide +kernel
theorem dJ6_bitCount_0f7a4_21 : decode cJ6_bitCount_0f7a4 21 = .ok (.iand, 1) := by decide +kernel
theorem dJ6_bitCount_0f7a4_22 : decode cJ6_bitCount_0f7a4 22 = .ok (.iadd, 1) := by decide +kernel
theorem dJ6_bitCount_0f7a4_23 : decode cJ6_bitCount_0f7a4 23 = .ok (.istore_n 0, 1) := by decide +kernel
theorem dJ6_bitCount_0f7a4_24 : decode cJ6_bitCount_0f7a4 24 = .ok (.iload_n 0, 1) := by decide +kernel
theorem dJ6_bitCount_0f7a4_25 : decode cJ6_bitCount_0f7a4 25 = .ok (.iload_n 0, 1) := by decide +kernel
theorem dJ6_bitCount_0f7a4_26 : decode cJ6_bitCount_0f7a4 26 = .ok (.iconst 4, 1) := by decide +kernel
theorem dJ6_bitCount_0f7a4_27 : decode cJ6_bitCount_0f7a4 27 = .ok (.iushr, 1) := by decide +kernel
theorem dJ6_bitCount_0f7a4_28 : decode cJ6_bitCount_0f7a4 28 = .ok (.iadd, 1) := by decide +kernel
theorem dJ6_bitCount_0f7a4_29 : decode cJ6_bitCount_0f7a4 29 = .ok (.ldc_w 267, 3) := by decide +kernel
theorem dJ6_bitCount_0f7a4_32 : decode cJ6_bitCount_0f7a4 32 = .ok (.iand, 1) := by decide +kernel
theorem dJ6_bitCount_0f7a4_33 : decode cJ6_bitCount_0f7a4 33 = .ok (.istore_n 0, 1) := by decide +kernel
theorem dJ6_bitCount_0f7a4_34 : decode cJ6_bitCount_0f7a4 34 = .ok (.iload_n 0, 1) := by decide +kernel
theorem dJ6_bitCount_0f7a4_35 : decode cJ6_bitCount_0f7a4 35 = .ok (.iload_n 0, 1) := by decide +kernel
theorem dJ6_bitCount_0f7a4_36 : decode cJ6_bitCount_0f7a4 36 = .ok (.bipush 8, 2) := by decide +kernel
theorem dJ6_bitCount_0f7a4_38 : decode cJ6_bitCount_0f7a4 38 = .ok (.iushr, 1) := by decide +kernel
theorem dJ6_bitCount_0f7a4_39 : decode cJ6_bitCount_0f7a4 39 = .ok (.iadd, 1) := by decide +kernel
theorem dJ6_bitCount_0f7a4_40 : decode cJ6_bitCount_0f7a4 40 = .ok (.istore_n 0, 1) := by decide +kernel
theorem dJ6_bitCount_0f7a4_41 : decode cJ6_bitCount_0f7a4 41 = .ok (.iload_n 0, 1) := by decide +kernel
theorem dJ6_bitCount_0f7a4_42 : decode cJ6_bitCount_0f7a4 42 = .ok (.iload_n 0, 1) := by decide +kernel
theorem dJ6_bitCount_0f7a4_43 : decode cJ6_bitCount_0f7a4 43 = .ok (.bipush 16, 2) := by decide +kernel
theorem dJ6_bitCount_0f7a4_45 : decode cJ6_bitCount_0f7a4 45 = .ok (.iushr, 1) := by decide +kernel
theorem dJ6_bitCount_0f7a4_46 : decode cJ6_bitCount_0f7a4 46 = .ok (.iadd, 1) := by decide +kernel
theorem dJ6_bitCount_0f7a4_47 : decode cJ6_bitCount_0f7a4 47 = .ok (.istore_n 0, 1) := by decide +kernel
theorem dJ6_bitCount_0f7a4_48 : decode cJ6_bitCount_0f7a4 48 = .ok (.iload_n 0, 1) := by decide +kernel
theorem dJ6_bitCount_0f7a4_49 : decode cJ6_bitCount_0f7a4 49 = .ok (.bipush 63, 2) := by decide +kernel
theorem dJ6_bitCount_0f7a4_51 : decode cJ6_bitCount_0f7a4 51 = .ok (.iand, 1) := by decide +kernel
theorem dJ6_bitCount_0f7a4_52 : decode cJ6_bitCount_0f7a4 52 = .ok (.ireturn, 1) := by decide +kernel
theorem dL_rests_0 : decode cL_rests 0 = .ok (.aload 5, 2) := by decide +kernel
theorem dL_rests_2 : decode cL_rests 2 = .ok (.iconst 0, 1) := by decide +kernel
theorem dL_rests_3 : decode cL_rests 3 = .ok (.aload_n 0, 1) := by decide +kernel
theorem dL_rests_4 : decode cL_rests 4 = .ok (.iload_n 1, 1) := by decide +kernel
theorem dL_rests_5 : decode cL_rests 5 = .ok (.iload_n 2, 1) := by decide +kernel
theorem dL_rests_6 : decode cL_rests 6 = .ok (.iload_n 3, 1) := by decide +kernel
theorem dL_rests_7 : decode cL_rests 7 = .ok (.iload 4, 2) := by decide +kernel
theorem dL_rests_9 : decode cL_rests 9 = .ok (.invokevirtual 7, 3) := by decide +kernel
theorem dL_rests_12 : decode cL_rests 12 = .ok (.i2l, 1) := by decide +kernel
theorem dL_rests_13 : decode cL_rests 13 = .ok (.lastore, 1) := by decide +kernel
theorem dL_rests_14 : decode cL_rests 14 = .ok (.goto 7, 3) := by decide +kernel
theorem dL_rests_17 : decode cL_rests 17 = .ok (.astore 6, 2) := by decide +kernel
theorem dL_rests_19 : decode cL_rests 19 = .ok (.iconst 1, 1) := by decide +kernel
theorem dL_rests_20 : decode cL_rests 20 = .ok (.ireturn, 1) := by decide +kernel
theorem dL_rests_21 : decode cL_rests 21 = .ok (.iconst 0, 1) := by decide +kernel
theorem dL_rests_22 : decode cL_rests 22 = .ok (.ireturn, 1) := by decide +kernel
theorem dL_law_0 : decode cL_law 0 = .ok (.new 8, 3) := by decide +kernel
theorem dL_law_3 : decode cL_law 3 = .ok (.dup, 1) := by decide +kernel
theorem dL_law_4 : decode cL_law 4 = .ok (.invokespecial 15, 3) := by decide +kernel
theorem dL_law_7 : decode cL_law 7 = .ok (.astore_n 1, 1) := by decide +kernel
theorem dL_law_8 : decode cL_law 8 = .ok (.new 16, 3) := by decide +kernel
theorem dL_law_11 : decode cL_law 11 = .ok (.dup, 1) := by decide +kernel
theorem dL_law_12 : decode cL_law 12 = .ok (.invokespecial 18, 3) := by decide +kernel
theorem dL_law_15 : decode cL_law 15 = .ok (.astore_n 2, 1) := by decide +kernel
theorem dL_law_16 : decode cL_law 16 = .ok (.iconst 1, 1) := by decide +kernel
theorem dL_law_17 : decode cL_law 17 = .ok (.newarray .long, 2) := by decide +kernel
theorem dL_law_19 : decode cL_law 19 = .ok (.astore_n 3, 1) := by decide +kernel
theorem dL_law_20 : decode cL_law 20 = .ok (.iconst 0, 1) := by decide +kernel
theorem dL_law_21 : decode cL_law 21 = .ok (.istore 4, 2) := by decide +kernel
theorem dL_law_23 : decode cL_law 23 = .ok (.iload 4, 2) := by decide +kernel
theorem dL_law_25 : decode cL_law 25 = .ok (.aload_n 0, 1) := by decide +kernel
theorem dL_law_26 : decode cL_law 26 = .ok (.arraylength, 1) := by decide +kernel
theorem dL_law_27 : decode cL_law 27 = .ok (.bipush 7, 2) := by decide +kernel
theorem dL_law_29 : decode cL_law 29 = .ok (.isub, 1) := by decide +kernel
theorem dL_law_30 : decode cL_law 30 = .ok (.if_icmp .gt 1612, 3) := by decide +kernel
theorem dL_law_33 : decode cL_law 33 = .ok (.aload_n 0, 1) := by decide +kernel
theorem dL_law_34 : decode cL_law 34 = .ok (.iload 4, 2) := by decide +kernel
theorem dL_law_36 : decode cL_law 36 = .ok (.iaload, 1) := by decide +kernel
theorem dL_law_37 : decode cL_law 37 = .ok (.bipush 63, 2) := by decide +kernel
theorem dL_law_39 : decode cL_law 39 = .ok (.iand, 1) := by decide +kernel
theorem dL_law_40 : decode cL_law 40 = .ok (.tableswitch 1596 0 46 #[204, 351, 364, 377, 414, 451, 488, 525, 562, 599, 636, 673, 722, 747, 760, 773, 798, 811, 848, 873, 898, 911, 936, 961, 974, 987, 1024, 1049, 1062, 1075, 1088, 1125, 1150, 1163, 1200, 1213, 1226, 1239, 1252, 1265, 1278, 1303, 1328, 1377, 1469, 1518, 1571], 204) := by decide +kernel
theorem dL_law_244 : decode cL_law 244 = .ok (.aload_n 1, 1) := by decide +kernel
theorem dL_law_245 : decode cL_law 245 = .ok (.aload_n 0, 1) := by decide +kernel
theorem dL_law_246 : decode cL_law 246 = .ok (.iload 4, 2) := by decide +kernel
theorem dL_law_248 : decode cL_law 248 = .ok (.iconst 1, 1) := by decide +kernel
theorem dL_law_249 : decode cL_law 249 = .ok (.iadd, 1) := by decide +kernel
theorem dL_law_250 : decode cL_law 250 = .ok (.iaload, 1) := by decide +kernel
theorem dL_law_251 : decode cL_law 251 = .ok (.i2l, 1) := by decide +kernel
theorem dL_law_252 : decode cL_law 252 = .ok (.bipush 32, 2) := by decide +kernel
theorem dL_law_254 : decode cL_law 254 = .ok (.lshl, 1) := by decide +kernel
theorem dL_law_255 : decode cL_law 255 = .ok (.aload_n 0, 1) := by decide +kernel
theorem dL_law_256 : decode cL_law 256 = .ok (.iload 4, 2) := by decide +kernel
theorem dL_law_258 : decode cL_law 258 = .ok (.iconst 2, 1) := by decide +kernel
theorem dL_law_259 : decode cL_law 259 = .ok (.iadd, 1) := by decide +kernel
theorem dL_law_260 : decode cL_law 260 = .ok (.iaload, 1) := by decide +kernel
theorem dL_law_261 : decode cL_law 261 = .ok (.i2l, 1) := by decide +kernel
theorem dL_law_262 : decode cL_law 262 = .ok (.ldc2_w 19, 3) := by decide +kernel
theorem dL_law_265 : decode cL_law 265 = .ok (.land, 1) := by decide +kernel
theorem dL_law_266 : decode cL_law 266 = .ok (.lor, 1) := by decide +kernel
theorem dL_law_267 : decode cL_law 267 = .ok (.aload_n 0, 1) := by decide +kernel
theorem dL_law_268 : decode cL_law 268 = .ok (.iload 4, 2) := by decide +kernel
theorem dL_law_270 : decode cL_law 270 = .ok (.iconst 3, 1) := by decide +kernel
theorem dL_law_271 : decode cL_law 271 = .ok (.iadd, 1) := by decide +kernel
theorem dL_law_272 : decode cL_law 272 = .ok (.iaload, 1) := by decide +kernel
theorem dL_law_273 : decode cL_law 273 = .ok (.i2l, 1) := by decide +kernel
theorem dL_law_274 : decode cL_law 274 = .ok (.bipush 32, 2) := by decide +kernel
theorem dL_law_276 : decode cL_law 276 = .ok (.lshl, 1) := by decide +kernel
