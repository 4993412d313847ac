/-! what each instruction of the reference, of the law and of the JDK methods reached is -/
theorem dX12_init_0 : decode cX12_init 0 = .ok (.aload_n 0, 1) := by decide +kernel
theorem dX12_init_1 : decode cX12_init 1 = .ok (.invokespecial 3, 3) := by decide +kernel
theorem dX12_init_4 : decode cX12_init 4 = .ok (.aload_n 0, 1) := by decide +kernel
theorem dX12_init_5 : decode cX12_init 5 = .ok (.bipush 8, 2) := by decide +kernel
theorem dX12_init_7 : decode cX12_init 7 = .ok (.newarray .int, 2) := by decide +kernel
theorem dX12_init_9 : decode cX12_init 9 = .ok (.putfield 9, 3) := by decide +kernel
theorem dX12_init_12 : decode cX12_init 12 = .ok (.aload_n 0, 1) := by decide +kernel
theorem dX12_init_13 : decode cX12_init 13 = .ok (.bipush 8, 2) := by decide +kernel
theorem dX12_init_15 : decode cX12_init 15 = .ok (.newarray .int, 2) := by decide +kernel
theorem dX12_init_17 : decode cX12_init 17 = .ok (.putfield 15, 3) := by decide +kernel
theorem dX12_init_20 : decode cX12_init 20 = .ok (.aload_n 0, 1) := by decide +kernel
theorem dX12_init_21 : decode cX12_init 21 = .ok (.bipush 8, 2) := by decide +kernel
theorem dX12_init_23 : decode cX12_init 23 = .ok (.newarray .int, 2) := by decide +kernel
theorem dX12_init_25 : decode cX12_init 25 = .ok (.putfield 18, 3) := by decide +kernel
theorem dX12_init_28 : decode cX12_init 28 = .ok (.aload_n 0, 1) := by decide +kernel
theorem dX12_init_29 : decode cX12_init 29 = .ok (.bipush 8, 2) := by decide +kernel
theorem dX12_init_31 : decode cX12_init 31 = .ok (.newarray .int, 2) := by decide +kernel
theorem dX12_init_33 : decode cX12_init 33 = .ok (.putfield 21, 3) := by decide +kernel
theorem dX12_init_36 : decode cX12_init 36 = .ok (.aload_n 0, 1) := by decide +kernel
theorem dX12_init_37 : decode cX12_init 37 = .ok (.bipush 8, 2) := by decide +kernel
theorem dX12_init_39 : decode cX12_init 39 = .ok (.newarray .int, 2) := by decide +kernel
theorem dX12_init_41 : decode cX12_init 41 = .ok (.putfield 24, 3) := by decide +kernel
theorem dX12_init_44 : decode cX12_init 44 = .ok (.aload_n 0, 1) := by decide +kernel
theorem dX12_init_45 : decode cX12_init 45 = .ok (.bipush 8, 2) := by decide +kernel
theorem dX12_init_47 : decode cX12_init 47 = .ok (.newarray .int, 2) := by decide +kernel
theorem dX12_init_49 : decode cX12_init 49 = .ok (.putfield 27, 3) := by decide +kernel
theorem dX12_init_52 : decode cX12_init 52 = .ok (.aload_n 0, 1) := by decide +kernel
theorem dX12_init_53 : decode cX12_init 53 = .ok (.iconst 3, 1) := by decide +kernel
theorem dX12_init_54 : decode cX12_init 54 = .ok (.newarray .int, 2) := by decide +kernel
theorem dX12_init_56 : decode cX12_init 56 = .ok (.putfield 30, 3) := by decide +kernel
theorem dX12_init_59 : decode cX12_init 59 = .ok (.aload_n 0, 1) := by decide +kernel
theorem dX12_init_60 : decode cX12_init 60 = .ok (.bipush 8, 2) := by decide +kernel
theorem dX12_init_62 : decode cX12_init 62 = .ok (.newarray .int, 2) := by decide +kernel
theorem dX12_init_64 : decode cX12_init 64 = .ok (.putfield 33, 3) := by decide +kernel
theorem dX12_init_67 : decode cX12_init 67 = .ok (.aload_n 0, 1) := by decide +kernel
theorem dX12_init_68 : decode cX12_init 68 = .ok (.bipush 8, 2) := by decide +kernel
theorem dX12_init_70 : decode cX12_init 70 = .ok (.newarray .int, 2) := by decide +kernel
theorem dX12_init_72 : decode cX12_init 72 = .ok (.putfield 36, 3) := by decide +kernel
theorem dX12_init_75 : decode cX12_init 75 = .ok (.aload_n 0, 1) := by decide +kernel
theorem dX12_init_76 : decode cX12_init 76 = .ok (.bipush 120, 2) := by decide +kernel
theorem dX12_init_78 : decode cX12_init 78 = .ok (.newarray .int, 2) := by decide +kernel
theorem dX12_init_80 : decode cX12_init 80 = .ok (.putfield 39, 3) := by decide +kernel
theorem dX12_init_83 : decode cX12_init 83 = .ok (.aload_n 0, 1) := by decide +kernel
theorem dX12_init_84 : decode cX12_init 84 = .ok (.bipush 60, 2) := by decide +kernel
theorem dX12_init_86 : decode cX12_init 86 = .ok (.newarray .int, 2) := by decide +kernel
theorem dX12_init_88 : decode cX12_init 88 = .ok (.putfield 42, 3) := by decide +kernel
theorem dX12_init_91 : decode cX12_init 91 = .ok (.aload_n 0, 1) := by decide +kernel
theorem dX12_init_92 : decode cX12_init 92 = .ok (.bipush 60, 2) := by decide +kernel
theorem dX12_init_94 : decode cX12_init 94 = .ok (.newarray .int, 2) := by decide +kernel
theorem dX12_init_96 : decode cX12_init 96 = .ok (.putfield 45, 3) := by decide +kernel
theorem dX12_init_99 : decode cX12_init 99 = .ok (.aload_n 0, 1) := by decide +kernel
theorem dX12_init_100 : decode cX12_init 100 = .ok (.bipush 60, 2) := by decide +kernel
theorem dX12_init_102 : decode cX12_init 102 = .ok (.newarray .int, 2) := by decide +kernel
theorem dX12_init_104 : decode cX12_init 104 = .ok (.putfield 48, 3) := by decide +kernel
theorem dX12_init_107 : decode cX12_init 107 = .ok (.aload_n 0, 1) := by decide +kernel
theorem dX12_init_108 : decode cX12_init 108 = .ok (.sipush 200, 3) := by decide +kernel
theorem dX12_init_111 : decode cX12_init 111 = .ok (.newarray .int, 2) := by decide +kernel
theorem dX12_init_113 : decode cX12_init 113 = .ok (.putfield 51, 3) := by decide +kernel
theorem dX12_init_116 : decode cX12_init 116 = .ok (.aload_n 0, 1) := by decide +kernel
theorem dX12_init_117 : decode cX12_init 117 = .ok (.bipush 61, 2) := by decide +kernel
theorem dX12_init_119 : decode cX12_init 119 = .ok (.newarray .int, 2) := by decide +kernel
theorem dX12_init_121 : decode cX12_init 121 = .ok (.putfield 54, 3) := by decide +kernel
theorem dX12_init_124 : decode cX12_init 124 = .ok (.aload_n 0, 1) := by decide +kernel
theorem dX12_init_125 : decode cX12_init 125 = .ok (.bipush 61, 2) := by decide +kernel
theorem dX12_init_127 : decode cX12_init 127 = .ok (.newarray .int, 2) := by decide +kernel
theorem dX12_init_129 : decode cX12_init 129 = .ok (.putfield 57, 3) := by decide +kernel
theorem dX12_init_132 : decode cX12_init 132 = .ok (.aload_n 0, 1) := by decide +kernel
theorem dX12_init_133 : decode cX12_init 133 = .ok (.bipush 61, 2) := by decide +kernel
theorem dX12_init_135 : decode cX12_init 135 = .ok (.newarray .int, 2) := by decide +kernel
theorem dX12_init_137 : decode cX12_init 137 = .ok (.putfield 60, 3) := by decide +kernel
theorem dX12_init_140 : decode cX12_init 140 = .ok (.aload_n 0, 1) := by decide +kernel
theorem dX12_init_141 : decode cX12_init 141 = .ok (.sipush 200, 3) := by decide +kernel
theorem dX12_init_144 : decode cX12_init 144 = .ok (.newarray .int, 2) := by decide +kernel
theorem dX12_init_146 : decode cX12_init 146 = .ok (.putfield 63, 3) := by decide +kernel
theorem dX12_init_149 : decode cX12_init 149 = .ok (.aload_n 0, 1) := by decide +kernel
theorem dX12_init_150 : decode cX12_init 150 = .ok (.sipush 200, 3) := by decide +kernel
theorem dX12_init_153 : decode cX12_init 153 = .ok (.newarray .int, 2) := by decide +kernel
theorem dX12_init_155 : decode cX12_init 155 = .ok (.putfield 66, 3) := by decide +kernel
theorem dX12_init_158 : decode cX12_init 158 = .ok (.aload_n 0, 1) := by decide +kernel
theorem dX12_init_159 : decode cX12_init 159 = .ok (.bipush 6, 2) := by decide +kernel
theorem dX12_init_161 : decode cX12_init 161 = .ok (.newarray .int, 2) := by decide +kernel
theorem dX12_init_163 : decode cX12_init 163 = .ok (.putfield 69, 3) := by decide +kernel
theorem dX12_init_166 : decode cX12_init 166 = .ok (.aload_n 0, 1) := by decide +kernel
theorem dX12_init_167 : decode cX12_init 167 = .ok (.iconst 5, 1) := by decide +kernel
theorem dX12_init_168 : decode cX12_init 168 = .ok (.newarray .int, 2) := by decide +kernel
theorem dX12_init_170 : decode cX12_init 170 = .ok (.putfield 72, 3) := by decide +kernel
theorem dX12_init_173 : decode cX12_init 173 = .ok (.aload_n 0, 1) := by decide +kernel
theorem dX12_init_174 : decode cX12_init 174 = .ok (.bipush 8, 2) := by decide +kernel
theorem dX12_init_176 : decode cX12_init 176 = .ok (.newarray .int, 2) := by decide +kernel
theorem dX12_init_178 : decode cX12_init 178 = .ok (.putfield 75, 3) := by decide +kernel
theorem dX12_init_181 : decode cX12_init 181 = .ok (.aload_n 0, 1) := by decide +kernel
theorem dX12_init_182 : decode cX12_init 182 = .ok (.bipush 8, 2) := by decide +kernel
theorem dX12_init_184 : decode cX12_init 184 = .ok (.newarray .int, 2) := by decide +kernel
theorem dX12_init_186 : decode cX12_init 186 = .ok (.putfield 78, 3) := by decide +kernel
theorem dX12_init_189 : decode cX12_init 189 = .ok (.aload_n 0, 1) := by decide +kernel
theorem dX12_init_190 : decode cX12_init 190 = .ok (.iconst 5, 1) := by decide +kernel
theorem dX12_init_191 : decode cX12_init 191 = .ok (.newarray .int, 2) := by decide +kernel
theorem dX12_init_193 : decode cX12_init 193 = .ok (.putfield 81, 3) := by decide +kernel
theorem dX12_init_196 : decode cX12_init 196 = .ok (.aload_n 0, 1) := by decide +kernel
theorem dX12_init_197 : decode cX12_init 197 = .ok (.sipush 160, 3) := by decide +kernel
theorem dX12_init_200 : decode cX12_init 200 = .ok (.newarray .int, 2) := by decide +kernel
theorem dX12_init_202 : decode cX12_init 202 = .ok (.putfield 84, 3) := by decide +kernel
theorem dX12_init_205 : decode cX12_init 205 = .ok (.aload_n 0, 1) := by decide +kernel
theorem dX12_init_206 : decode cX12_init 206 = .ok (.bipush 50, 2) := by decide +kernel
theorem dX12_init_208 : decode cX12_init 208 = .ok (.newarray .int, 2) := by decide +kernel
theorem dX12_init_210 : decode cX12_init 210 = .ok (.putfield 87, 3) := by decide +kernel
theorem dX12_init_213 : decode cX12_init 213 = .ok (.aload_n 0, 1) := by decide +kernel
theorem dX12_init_214 : decode cX12_init 214 = .ok (.bipush 24, 2) := by decide +kernel
theorem dX12_init_216 : decode cX12_init 216 = .ok (.newarray .int, 2) := by decide +kernel
theorem dX12_init_218 : decode cX12_init 218 = .ok (.putfield 90, 3) := by decide +kernel
theorem dX12_init_221 : decode cX12_init 221 = .ok (.aload_n 0, 1) := by decide +kernel
theorem dX12_init_222 : decode cX12_init 222 = .ok (.bipush 6, 2) := by decide +kernel
theorem dX12_init_224 : decode cX12_init 224 = .ok (.newarray .int, 2) := by decide +kernel
theorem dX12_init_226 : decode cX12_init 226 = .ok (.putfield 93, 3) := by decide +kernel
theorem dX12_init_229 : decode cX12_init 229 = .ok (.aload_n 0, 1) := by decide +kernel
theorem dX12_init_230 : decode cX12_init 230 = .ok (.bipush 6, 2) := by decide +kernel
theorem dX12_init_232 : decode cX12_init 232 = .ok (.newarray .int, 2) := by decide +kernel
theorem dX12_init_234 : decode cX12_init 234 = .ok (.putfield 96, 3) := by decide +kernel
theorem dX12_init_237 : decode cX12_init 237 = .ok (.aload_n 0, 1) := by decide +kernel
theorem dX12_init_238 : decode cX12_init 238 = .ok (.sipush 360, 3) := by decide +kernel
theorem dX12_init_241 : decode cX12_init 241 = .ok (.newarray .long, 2) := by decide +kernel
theorem dX12_init_243 : decode cX12_init 243 = .ok (.putfield 99, 3) := by decide +kernel
theorem dX12_init_246 : decode cX12_init 246 = .ok (.aload_n 0, 1) := by decide +kernel
theorem dX12_init_247 : decode cX12_init 247 = .ok (.bipush 60, 2) := by decide +kernel
theorem dX12_init_249 : decode cX12_init 249 = .ok (.newarray .int, 2) := by decide +kernel
theorem dX12_init_251 : decode cX12_init 251 = .ok (.putfield 103, 3) := by decide +kernel
theorem dX12_init_254 : decode cX12_init 254 = .ok (.aload_n 0, 1) := by decide +kernel
theorem dX12_init_255 : decode cX12_init 255 = .ok (.sipush 488, 3) := by decide +kernel
theorem dX12_init_258 : decode cX12_init 258 = .ok (.newarray .int, 2) := by decide +kernel
theorem dX12_init_260 : decode cX12_init 260 = .ok (.putfield 106, 3) := by decide +kernel
theorem dX12_init_263 : decode cX12_init 263 = .ok (.aload_n 0, 1) := by decide +kernel
theorem dX12_init_264 : decode cX12_init 264 = .ok (.bipush 80, 2) := by decide +kernel
theorem dX12_init_266 : decode cX12_init 266 = .ok (.newarray .int, 2) := by decide +kernel
theorem dX12_init_268 : decode cX12_init 268 = .ok (.putfield 109, 3) := by decide +kernel
theorem dX12_init_271 : decode cX12_init 271 = .ok (.aload_n 0, 1) := by decide +kernel
theorem dX12_init_272 : decode cX12_init 272 = .ok (.bipush 10, 2) := by decide +kernel
theorem dX12_init_274 : decode cX12_init 274 = .ok (.newarray .int, 2) := by decide +kernel
theorem dX12_init_276 : decode cX12_init 276 = .ok (.putfield 112, 3) := by decide +kernel
theorem dX12_init_279 : decode cX12_init 279 = .ok (.aload_n 0, 1) := by decide +kernel
theorem dX12_init_280 : decode cX12_init 280 = .ok (.bipush 6, 2) := by decide +kernel
theorem dX12_init_282 : decode cX12_init 282 = .ok (.newarray .int, 2) := by decide +kernel
theorem dX12_init_284 : decode cX12_init 284 = .ok (.putfield 115, 3) := by decide +kernel
theorem dX12_init_287 : decode cX12_init 287 = .ok (.aload_n 0, 1) := by decide +kernel
theorem dX12_init_288 : decode cX12_init 288 = .ok (.bipush 6, 2) := by decide +kernel
theorem dX12_init_290 : decode cX12_init 290 = .ok (.newarray .int, 2) := by decide +kernel
theorem dX12_init_292 : decode cX12_init 292 = .ok (.putfield 118, 3) := by decide +kernel
theorem dX12_init_295 : decode cX12_init 295 = .ok (.aload_n 0, 1) := by decide +kernel
theorem dX12_init_296 : decode cX12_init 296 = .ok (.getfield 30, 3) := by decide +kernel
theorem dX12_init_299 : decode cX12_init 299 = .ok (.iconst 1, 1) := by decide +kernel
theorem dX12_init_300 : decode cX12_init 300 = .ok (.bipush 25, 2) := by decide +kernel
theorem dX12_init_302 : decode cX12_init 302 = .ok (.iastore, 1) := by decide +kernel
theorem dX12_init_303 : decode cX12_init 303 = .ok (.aload_n 0, 1) := by decide +kernel
theorem dX12_init_304 : decode cX12_init 304 = .ok (.getfield 30, 3) := by decide +kernel
theorem dX12_init_307 : decode cX12_init 307 = .ok (.iconst 2, 1) := by decide +kernel
theorem dX12_init_308 : decode cX12_init 308 = .ok (.iconst 1, 1) := by decide +kernel
theorem dX12_init_309 : decode cX12_init 309 = .ok (.iastore, 1) := by decide +kernel
theorem dX12_init_310 : decode cX12_init 310 = .ok (.aload_n 0, 1) := by decide +kernel
theorem dX12_init_311 : decode cX12_init 311 = .ok (.bipush (-2), 2) := by decide +kernel
theorem dX12_init_313 : decode cX12_init 313 = .ok (.putfield 121, 3) := by decide +kernel
theorem dX12_init_316 : decode cX12_init 316 = .ok (.iconst 0, 1) := by decide +kernel
theorem dX12_init_317 : decode cX12_init 317 = .ok (.istore_n 1, 1) := by decide +kernel
theorem dX12_init_318 : decode cX12_init 318 = .ok (.iload_n 1, 1) := by decide +kernel
theorem dX12_init_319 : decode cX12_init 319 = .ok (.bipush 6, 2) := by decide +kernel
theorem dX12_init_321 : decode cX12_init 321 = .ok (.if_icmp .ge 16, 3) := by decide +kernel
theorem dX12_init_324 : decode cX12_init 324 = .ok (.aload_n 0, 1) := by decide +kernel
theorem dX12_init_325 : decode cX12_init 325 = .ok (.getfield 93, 3) := by decide +kernel
theorem dX12_init_328 : decode cX12_init 328 = .ok (.iload_n 1, 1) := by decide +kernel
theorem dX12_init_329 : decode cX12_init 329 = .ok (.iconst (-1), 1) := by decide +kernel
theorem dX12_init_330 : decode cX12_init 330 = .ok (.iastore, 1) := by decide +kernel
theorem dX12_init_331 : decode cX12_init 331 = .ok (.iinc 1 1, 3) := by decide +kernel
theorem dX12_init_334 : decode cX12_init 334 = .ok (.goto (-16), 3) := by decide +kernel
theorem dX12_init_337 : decode cX12_init 337 = .ok (.return_, 1) := by decide +kernel
theorem dX12_within_0 : decode cX12_within 0 = .ok (.iload_n 0, 1) := by decide +kernel
theorem dX12_within_1 : decode cX12_within 1 = .ok (.iload_n 1, 1) := by decide +kernel
theorem dX12_within_2 : decode cX12_within 2 = .ok (.if_icmp .lt 12, 3) := by decide +kernel
theorem dX12_within_5 : decode cX12_within 5 = .ok (.iload_n 0, 1) := by decide +kernel
theorem dX12_within_6 : decode cX12_within 6 = .ok (.iload_n 2, 1) := by decide +kernel
theorem dX12_within_7 : decode cX12_within 7 = .ok (.if_icmp .gt 7, 3) := by decide +kernel
theorem dX12_within_10 : decode cX12_within 10 = .ok (.iconst 1, 1) := by decide +kernel
theorem dX12_within_11 : decode cX12_within 11 = .ok (.goto 4, 3) := by decide +kernel
theorem dX12_within_14 : decode cX12_within 14 = .ok (.iconst 0, 1) := by decide +kernel
theorem dX12_within_15 : decode cX12_within 15 = .ok (.ireturn, 1) := by decide +kernel
theorem dX12_isOne_0 : decode cX12_isOne 0 = .ok (.iload_n 1, 1) := by decide +kernel
theorem dX12_isOne_1 : decode cX12_isOne 1 = .ok (.iconst 0, 1) := by decide +kernel
theorem dX12_isOne_2 : decode cX12_isOne 2 = .ok (.aload_n 0, 1) := by decide +kernel
theorem dX12_isOne_3 : decode cX12_isOne 3 = .ok (.getfield 125, 3) := by decide +kernel
theorem dX12_isOne_6 : decode cX12_isOne 6 = .ok (.iconst 1, 1) := by decide +kernel
theorem dX12_isOne_7 : decode cX12_isOne 7 = .ok (.isub, 1) := by decide +kernel
theorem dX12_isOne_8 : decode cX12_isOne 8 = .ok (.invokestatic 128, 3) := by decide +kernel
theorem dX12_isOne_11 : decode cX12_isOne 11 = .ok (.ireturn, 1) := by decide +kernel
theorem dX12_areTwo_0 : decode cX12_areTwo 0 = .ok (.iload_n 1, 1) := by decide +kernel
theorem dX12_areTwo_1 : decode cX12_areTwo 1 = .ok (.ifCond .lt 40, 3) := by decide +kernel
theorem dX12_areTwo_4 : decode cX12_areTwo 4 = .ok (.aload_n 0, 1) := by decide +kernel
theorem dX12_areTwo_5 : decode cX12_areTwo 5 = .ok (.iload_n 1, 1) := by decide +kernel
theorem dX12_areTwo_6 : decode cX12_areTwo 6 = .ok (.bipush 10, 2) := by decide +kernel
theorem dX12_areTwo_8 : decode cX12_areTwo 8 = .ok (.idiv, 1) := by decide +kernel
theorem dX12_areTwo_9 : decode cX12_areTwo 9 = .ok (.invokevirtual 132, 3) := by decide +kernel
theorem dX12_areTwo_12 : decode cX12_areTwo 12 = .ok (.ifCond .eq 29, 3) := by decide +kernel
theorem dX12_areTwo_15 : decode cX12_areTwo 15 = .ok (.aload_n 0, 1) := by decide +kernel
theorem dX12_areTwo_16 : decode cX12_areTwo 16 = .ok (.iload_n 1, 1) := by decide +kernel
theorem dX12_areTwo_17 : decode cX12_areTwo 17 = .ok (.bipush 10, 2) := by decide +kernel
theorem dX12_areTwo_19 : decode cX12_areTwo 19 = .ok (.irem, 1) := by decide +kernel
theorem dX12_areTwo_20 : decode cX12_areTwo 20 = .ok (.invokevirtual 132, 3) := by decide +kernel
theorem dX12_areTwo_23 : decode cX12_areTwo 23 = .ok (.ifCond .eq 18, 3) := by decide +kernel
theorem dX12_areTwo_26 : decode cX12_areTwo 26 = .ok (.iload_n 1, 1) := by decide +kernel
theorem dX12_areTwo_27 : decode cX12_areTwo 27 = .ok (.bipush 10, 2) := by decide +kernel
theorem dX12_areTwo_29 : decode cX12_areTwo 29 = .ok (.idiv, 1) := by decide +kernel
theorem dX12_areTwo_30 : decode cX12_areTwo 30 = .ok (.iload_n 1, 1) := by decide +kernel
theorem dX12_areTwo_31 : decode cX12_areTwo 31 = .ok (.bipush 10, 2) := by decide +kernel
theorem dX12_areTwo_33 : decode cX12_areTwo 33 = .ok (.irem, 1) := by decide +kernel
theorem dX12_areTwo_34 : decode cX12_areTwo 34 = .ok (.if_icmp .eq 7, 3) := by decide +kernel
theorem dX12_areTwo_37 : decode cX12_areTwo 37 = .ok (.iconst 1, 1) := by decide +kernel
theorem dX12_areTwo_38 : decode cX12_areTwo 38 = .ok (.goto 4, 3) := by decide +kernel
theorem dX12_areTwo_41 : decode cX12_areTwo 41 = .ok (.iconst 0, 1) := by decide +kernel
theorem dX12_areTwo_42 : decode cX12_areTwo 42 = .ok (.ireturn, 1) := by decide +kernel
theorem dX12_isShelf_0 : decode cX12_isShelf 0 = .ok (.iload_n 0, 1) := by decide +kernel
theorem dX12_isShelf_1 : decode cX12_isShelf 1 = .ok (.iconst 0, 1) := by decide +kernel
theorem dX12_isShelf_2 : decode cX12_isShelf 2 = .ok (.iconst 5, 1) := by decide +kernel
theorem dX12_isShelf_3 : decode cX12_isShelf 3 = .ok (.invokestatic 128, 3) := by decide +kernel
theorem dX12_isShelf_6 : decode cX12_isShelf 6 = .ok (.ireturn, 1) := by decide +kernel
theorem dX12_newSwimmer_0 : decode cX12_newSwimmer 0 = .ok (.aload_n 0, 1) := by decide +kernel
theorem dX12_newSwimmer_1 : decode cX12_newSwimmer 1 = .ok (.getfield 9, 3) := by decide +kernel
theorem dX12_newSwimmer_4 : decode cX12_newSwimmer 4 = .ok (.aload_n 0, 1) := by decide +kernel
theorem dX12_newSwimmer_5 : decode cX12_newSwimmer 5 = .ok (.getfield 125, 3) := by decide +kernel
theorem dX12_newSwimmer_8 : decode cX12_newSwimmer 8 = .ok (.iload_n 1, 1) := by decide +kernel
theorem dX12_newSwimmer_9 : decode cX12_newSwimmer 9 = .ok (.iastore, 1) := by decide +kernel
theorem dX12_newSwimmer_10 : decode cX12_newSwimmer 10 = .ok (.aload_n 0, 1) := by decide +kernel
theorem dX12_newSwimmer_11 : decode cX12_newSwimmer 11 = .ok (.getfield 15, 3) := by decide +kernel
theorem dX12_newSwimmer_14 : decode cX12_newSwimmer 14 = .ok (.aload_n 0, 1) := by decide +kernel
theorem dX12_newSwimmer_15 : decode cX12_newSwimmer 15 = .ok (.getfield 125, 3) := by decide +kernel
theorem dX12_newSwimmer_18 : decode cX12_newSwimmer 18 = .ok (.iload_n 2, 1) := by decide +kernel
theorem dX12_newSwimmer_19 : decode cX12_newSwimmer 19 = .ok (.iastore, 1) := by decide +kernel
theorem dX12_newSwimmer_20 : decode cX12_newSwimmer 20 = .ok (.aload_n 0, 1) := by decide +kernel
theorem dX12_newSwimmer_21 : decode cX12_newSwimmer 21 = .ok (.getfield 18, 3) := by decide +kernel
theorem dX12_newSwimmer_24 : decode cX12_newSwimmer 24 = .ok (.aload_n 0, 1) := by decide +kernel
theorem dX12_newSwimmer_25 : decode cX12_newSwimmer 25 = .ok (.getfield 125, 3) := by decide +kernel
theorem dX12_newSwimmer_28 : decode cX12_newSwimmer 28 = .ok (.iload_n 3, 1) := by decide +kernel
theorem dX12_newSwimmer_29 : decode cX12_newSwimmer 29 = .ok (.iastore, 1) := by decide +kernel
theorem dX12_newSwimmer_30 : decode cX12_newSwimmer 30 = .ok (.aload_n 0, 1) := by decide +kernel
theorem dX12_newSwimmer_31 : decode cX12_newSwimmer 31 = .ok (.getfield 21, 3) := by decide +kernel
theorem dX12_newSwimmer_34 : decode cX12_newSwimmer 34 = .ok (.aload_n 0, 1) := by decide +kernel
theorem dX12_newSwimmer_35 : decode cX12_newSwimmer 35 = .ok (.getfield 125, 3) := by decide +kernel
theorem dX12_newSwimmer_38 : decode cX12_newSwimmer 38 = .ok (.bipush 12, 2) := by decide +kernel
theorem dX12_newSwimmer_40 : decode cX12_newSwimmer 40 = .ok (.iastore, 1) := by decide +kernel
theorem dX12_newSwimmer_41 : decode cX12_newSwimmer 41 = .ok (.aload_n 0, 1) := by decide +kernel
theorem dX12_newSwimmer_42 : decode cX12_newSwimmer 42 = .ok (.getfield 24, 3) := by decide +kernel
theorem dX12_newSwimmer_45 : decode cX12_newSwimmer 45 = .ok (.aload_n 0, 1) := by decide +kernel
theorem dX12_newSwimmer_46 : decode cX12_newSwimmer 46 = .ok (.getfield 125, 3) := by decide +kernel
theorem dX12_newSwimmer_49 : decode cX12_newSwimmer 49 = .ok (.iload 4, 2) := by decide +kernel
theorem dX12_newSwimmer_51 : decode cX12_newSwimmer 51 = .ok (.iastore, 1) := by decide +kernel
theorem dX12_newSwimmer_52 : decode cX12_newSwimmer 52 = .ok (.aload_n 0, 1) := by decide +kernel
theorem dX12_newSwimmer_53 : decode cX12_newSwimmer 53 = .ok (.getfield 27, 3) := by decide +kernel
theorem dX12_newSwimmer_56 : decode cX12_newSwimmer 56 = .ok (.aload_n 0, 1) := by decide +kernel
theorem dX12_newSwimmer_57 : decode cX12_newSwimmer 57 = .ok (.getfield 125, 3) := by decide +kernel
theorem dX12_newSwimmer_60 : decode cX12_newSwimmer 60 = .ok (.iconst 0, 1) := by decide +kernel
theorem dX12_newSwimmer_61 : decode cX12_newSwimmer 61 = .ok (.iastore, 1) := by decide +kernel
theorem dX12_newSwimmer_62 : decode cX12_newSwimmer 62 = .ok (.aload_n 0, 1) := by decide +kernel
theorem dX12_newSwimmer_63 : decode cX12_newSwimmer 63 = .ok (.getfield 33, 3) := by decide +kernel
theorem dX12_newSwimmer_66 : decode cX12_newSwimmer 66 = .ok (.aload_n 0, 1) := by decide +kernel
theorem dX12_newSwimmer_67 : decode cX12_newSwimmer 67 = .ok (.getfield 125, 3) := by decide +kernel
theorem dX12_newSwimmer_70 : decode cX12_newSwimmer 70 = .ok (.iconst 0, 1) := by decide +kernel
theorem dX12_newSwimmer_71 : decode cX12_newSwimmer 71 = .ok (.iastore, 1) := by decide +kernel
theorem dX12_newSwimmer_72 : decode cX12_newSwimmer 72 = .ok (.aload_n 0, 1) := by decide +kernel
theorem dX12_newSwimmer_73 : decode cX12_newSwimmer 73 = .ok (.getfield 36, 3) := by decide +kernel
theorem dX12_newSwimmer_76 : decode cX12_newSwimmer 76 = .ok (.aload_n 0, 1) := by decide +kernel
theorem dX12_newSwimmer_77 : decode cX12_newSwimmer 77 = .ok (.getfield 125, 3) := by decide +kernel
theorem dX12_newSwimmer_80 : decode cX12_newSwimmer 80 = .ok (.iconst 0, 1) := by decide +kernel
theorem dX12_newSwimmer_81 : decode cX12_newSwimmer 81 = .ok (.iastore, 1) := by decide +kernel
theorem dX12_newSwimmer_82 : decode cX12_newSwimmer 82 = .ok (.aload_n 0, 1) := by decide +kernel
theorem dX12_newSwimmer_83 : decode cX12_newSwimmer 83 = .ok (.dup, 1) := by decide +kernel
theorem dX12_newSwimmer_84 : decode cX12_newSwimmer 84 = .ok (.getfield 125, 3) := by decide +kernel
theorem dX12_newSwimmer_87 : decode cX12_newSwimmer 87 = .ok (.dup_x1, 1) := by decide +kernel
theorem dX12_newSwimmer_88 : decode cX12_newSwimmer 88 = .ok (.iconst 1, 1) := by decide +kernel
theorem dX12_newSwimmer_89 : decode cX12_newSwimmer 89 = .ok (.iadd, 1) := by decide +kernel
theorem dX12_newSwimmer_90 : decode cX12_newSwimmer 90 = .ok (.putfield 125, 3) := by decide +kernel
theorem dX12_newSwimmer_93 : decode cX12_newSwimmer 93 = .ok (.ireturn, 1) := by decide +kernel
theorem dX12_swimmer_0 : decode cX12_swimmer 0 = .ok (.iload_n 1, 1) := by decide +kernel
theorem dX12_swimmer_1 : decode cX12_swimmer 1 = .ok (.ifCond .lt 31, 3) := by decide +kernel
theorem dX12_swimmer_4 : decode cX12_swimmer 4 = .ok (.iload_n 1, 1) := by decide +kernel
theorem dX12_swimmer_5 : decode cX12_swimmer 5 = .ok (.bipush 100, 2) := by decide +kernel
theorem dX12_swimmer_7 : decode cX12_swimmer 7 = .ok (.idiv, 1) := by decide +kernel
theorem dX12_swimmer_8 : decode cX12_swimmer 8 = .ok (.bipush 15, 2) := by decide +kernel
theorem dX12_swimmer_10 : decode cX12_swimmer 10 = .ok (.if_icmp .gt 22, 3) := by decide +kernel
theorem dX12_swimmer_13 : decode cX12_swimmer 13 = .ok (.iload_n 1, 1) := by decide +kernel
theorem dX12_swimmer_14 : decode cX12_swimmer 14 = .ok (.bipush 100, 2) := by decide +kernel
theorem dX12_swimmer_16 : decode cX12_swimmer 16 = .ok (.irem, 1) := by decide +kernel
theorem dX12_swimmer_17 : decode cX12_swimmer 17 = .ok (.bipush 15, 2) := by decide +kernel
theorem dX12_swimmer_19 : decode cX12_swimmer 19 = .ok (.if_icmp .gt 13, 3) := by decide +kernel
theorem dX12_swimmer_22 : decode cX12_swimmer 22 = .ok (.iload_n 2, 1) := by decide +kernel
theorem dX12_swimmer_23 : decode cX12_swimmer 23 = .ok (.iconst 1, 1) := by decide +kernel
theorem dX12_swimmer_24 : decode cX12_swimmer 24 = .ok (.bipush 9, 2) := by decide +kernel
theorem dX12_swimmer_26 : decode cX12_swimmer 26 = .ok (.invokestatic 128, 3) := by decide +kernel
theorem dX12_swimmer_29 : decode cX12_swimmer 29 = .ok (.ifCond .ne 5, 3) := by decide +kernel
theorem dX12_swimmer_32 : decode cX12_swimmer 32 = .ok (.iconst (-1), 1) := by decide +kernel
theorem dX12_swimmer_33 : decode cX12_swimmer 33 = .ok (.ireturn, 1) := by decide +kernel
theorem dX12_swimmer_34 : decode cX12_swimmer 34 = .ok (.aload_n 0, 1) := by decide +kernel
theorem dX12_swimmer_35 : decode cX12_swimmer 35 = .ok (.getfield 125, 3) := by decide +kernel
theorem dX12_swimmer_38 : decode cX12_swimmer 38 = .ok (.bipush 8, 2) := by decide +kernel
theorem dX12_swimmer_40 : decode cX12_swimmer 40 = .ok (.if_icmp .ne 8, 3) := by decide +kernel
theorem dX12_swimmer_43 : decode cX12_swimmer 43 = .ok (.bipush (-3), 2) := by decide +kernel
theorem dX12_swimmer_45 : decode cX12_swimmer 45 = .ok (.goto 17, 3) := by decide +kernel
theorem dX12_swimmer_48 : decode cX12_swimmer 48 = .ok (.aload_n 0, 1) := by decide +kernel
theorem dX12_swimmer_49 : decode cX12_swimmer 49 = .ok (.iload_n 1, 1) := by decide +kernel
theorem dX12_swimmer_50 : decode cX12_swimmer 50 = .ok (.bipush 100, 2) := by decide +kernel
theorem dX12_swimmer_52 : decode cX12_swimmer 52 = .ok (.irem, 1) := by decide +kernel
theorem dX12_swimmer_53 : decode cX12_swimmer 53 = .ok (.iload_n 1, 1) := by decide +kernel
theorem dX12_swimmer_54 : decode cX12_swimmer 54 = .ok (.bipush 100, 2) := by decide +kernel
theorem dX12_swimmer_56 : decode cX12_swimmer 56 = .ok (.idiv, 1) := by decide +kernel
theorem dX12_swimmer_57 : decode cX12_swimmer 57 = .ok (.iload_n 2, 1) := by decide +kernel
theorem dX12_swimmer_58 : decode cX12_swimmer 58 = .ok (.iconst 0, 1) := by decide +kernel
theorem dX12_swimmer_59 : decode cX12_swimmer 59 = .ok (.invokevirtual 136, 3) := by decide +kernel
theorem dX12_swimmer_62 : decode cX12_swimmer 62 = .ok (.ireturn, 1) := by decide +kernel
theorem dX12_swimmers_0 : decode cX12_swimmers 0 = .ok (.iload_n 1, 1) := by decide +kernel
theorem dX12_swimmers_1 : decode cX12_swimmers 1 = .ok (.invokestatic 140, 3) := by decide +kernel
theorem dX12_swimmers_4 : decode cX12_swimmers 4 = .ok (.ifCond .eq 13, 3) := by decide +kernel
theorem dX12_swimmers_7 : decode cX12_swimmers 7 = .ok (.iload_n 3, 1) := by decide +kernel
theorem dX12_swimmers_8 : decode cX12_swimmers 8 = .ok (.iconst 1, 1) := by decide +kernel
theorem dX12_swimmers_9 : decode cX12_swimmers 9 = .ok (.bipush 8, 2) := by decide +kernel
theorem dX12_swimmers_11 : decode cX12_swimmers 11 = .ok (.invokestatic 128, 3) := by decide +kernel
theorem dX12_swimmers_14 : decode cX12_swimmers 14 = .ok (.ifCond .ne 5, 3) := by decide +kernel
theorem dX12_swimmers_17 : decode cX12_swimmers 17 = .ok (.iconst (-1), 1) := by decide +kernel
theorem dX12_swimmers_18 : decode cX12_swimmers 18 = .ok (.ireturn, 1) := by decide +kernel
theorem dX12_swimmers_19 : decode cX12_swimmers 19 = .ok (.aload_n 0, 1) := by decide +kernel
theorem dX12_swimmers_20 : decode cX12_swimmers 20 = .ok (.getfield 93, 3) := by decide +kernel
theorem dX12_swimmers_23 : decode cX12_swimmers 23 = .ok (.iload_n 1, 1) := by decide +kernel
theorem dX12_swimmers_24 : decode cX12_swimmers 24 = .ok (.iaload, 1) := by decide +kernel
theorem dX12_swimmers_25 : decode cX12_swimmers 25 = .ok (.iconst (-1), 1) := by decide +kernel
theorem dX12_swimmers_26 : decode cX12_swimmers 26 = .ok (.if_icmp .ne 5, 3) := by decide +kernel
theorem dX12_swimmers_29 : decode cX12_swimmers 29 = .ok (.iconst 0, 1) := by decide +kernel
theorem dX12_swimmers_30 : decode cX12_swimmers 30 = .ok (.ireturn, 1) := by decide +kernel
theorem dX12_swimmers_31 : decode cX12_swimmers 31 = .ok (.aload_n 0, 1) := by decide +kernel
theorem dX12_swimmers_32 : decode cX12_swimmers 32 = .ok (.getfield 93, 3) := by decide +kernel
theorem dX12_swimmers_35 : decode cX12_swimmers 35 = .ok (.iload_n 1, 1) := by decide +kernel
theorem dX12_swimmers_36 : decode cX12_swimmers 36 = .ok (.iaload, 1) := by decide +kernel
theorem dX12_swimmers_37 : decode cX12_swimmers 37 = .ok (.ifCond .eq 6, 3) := by decide +kernel
theorem dX12_swimmers_40 : decode cX12_swimmers 40 = .ok (.bipush (-12), 2) := by decide +kernel
theorem dX12_swimmers_42 : decode cX12_swimmers 42 = .ok (.ireturn, 1) := by decide +kernel
theorem dX12_swimmers_43 : decode cX12_swimmers 43 = .ok (.iconst 0, 1) := by decide +kernel
theorem dX12_swimmers_44 : decode cX12_swimmers 44 = .ok (.istore 4, 2) := by decide +kernel
theorem dX12_swimmers_46 : decode cX12_swimmers 46 = .ok (.iconst 0, 1) := by decide +kernel
theorem dX12_swimmers_47 : decode cX12_swimmers 47 = .ok (.istore 5, 2) := by decide +kernel
theorem dX12_swimmers_49 : decode cX12_swimmers 49 = .ok (.iload 5, 2) := by decide +kernel
theorem dX12_swimmers_51 : decode cX12_swimmers 51 = .ok (.iload_n 3, 1) := by decide +kernel
theorem dX12_swimmers_52 : decode cX12_swimmers 52 = .ok (.if_icmp .ge 191, 3) := by decide +kernel
theorem dX12_swimmers_55 : decode cX12_swimmers 55 = .ok (.iload_n 2, 1) := by decide +kernel
theorem dX12_swimmers_56 : decode cX12_swimmers 56 = .ok (.i2l, 1) := by decide +kernel
theorem dX12_swimmers_57 : decode cX12_swimmers 57 = .ok (.ldc2_w 143, 3) := by decide +kernel
theorem dX12_swimmers_60 : decode cX12_swimmers 60 = .ok (.iload 5, 2) := by decide +kernel
theorem dX12_swimmers_62 : decode cX12_swimmers 62 = .ok (.i2l, 1) := by decide +kernel
theorem dX12_swimmers_63 : decode cX12_swimmers 63 = .ok (.lmul, 1) := by decide +kernel
theorem dX12_swimmers_64 : decode cX12_swimmers 64 = .ok (.ladd, 1) := by decide +kernel
theorem dX12_swimmers_65 : decode cX12_swimmers 65 = .ok (.lstore 6, 2) := by decide +kernel
theorem dX12_swimmers_67 : decode cX12_swimmers 67 = .ok (.lload 6, 2) := by decide +kernel
theorem dX12_swimmers_69 : decode cX12_swimmers 69 = .ok (.lconst 0, 1) := by decide +kernel
theorem dX12_swimmers_70 : decode cX12_swimmers 70 = .ok (.lcmp, 1) := by decide +kernel
theorem dX12_swimmers_71 : decode cX12_swimmers 71 = .ok (.ifCond .lt 29, 3) := by decide +kernel
theorem dX12_swimmers_74 : decode cX12_swimmers 74 = .ok (.lload 6, 2) := by decide +kernel
theorem dX12_swimmers_76 : decode cX12_swimmers 76 = .ok (.ldc2_w 143, 3) := by decide +kernel
theorem dX12_swimmers_79 : decode cX12_swimmers 79 = .ok (.ladd, 1) := by decide +kernel
theorem dX12_swimmers_80 : decode cX12_swimmers 80 = .ok (.aload_n 0, 1) := by decide +kernel
theorem dX12_swimmers_81 : decode cX12_swimmers 81 = .ok (.getfield 96, 3) := by decide +kernel
theorem dX12_swimmers_84 : decode cX12_swimmers 84 = .ok (.iload_n 1, 1) := by decide +kernel
theorem dX12_swimmers_85 : decode cX12_swimmers 85 = .ok (.iaload, 1) := by decide +kernel
theorem dX12_swimmers_86 : decode cX12_swimmers 86 = .ok (.i2l, 1) := by decide +kernel
theorem dX12_swimmers_87 : decode cX12_swimmers 87 = .ok (.lcmp, 1) := by decide +kernel
theorem dX12_swimmers_88 : decode cX12_swimmers 88 = .ok (.ifCond .gt 12, 3) := by decide +kernel
theorem dX12_swimmers_91 : decode cX12_swimmers 91 = .ok (.aload_n 0, 1) := by decide +kernel
theorem dX12_swimmers_92 : decode cX12_swimmers 92 = .ok (.getfield 125, 3) := by decide +kernel
theorem dX12_swimmers_95 : decode cX12_swimmers 95 = .ok (.bipush 8, 2) := by decide +kernel
theorem dX12_swimmers_97 : decode cX12_swimmers 97 = .ok (.if_icmp .ne 6, 3) := by decide +kernel
theorem dX12_swimmers_100 : decode cX12_swimmers 100 = .ok (.iload 4, 2) := by decide +kernel
theorem dX12_swimmers_102 : decode cX12_swimmers 102 = .ok (.ireturn, 1) := by decide +kernel
theorem dX12_swimmers_103 : decode cX12_swimmers 103 = .ok (.bipush 60, 2) := by decide +kernel
theorem dX12_swimmers_105 : decode cX12_swimmers 105 = .ok (.iload_n 1, 1) := by decide +kernel
theorem dX12_swimmers_106 : decode cX12_swimmers 106 = .ok (.imul, 1) := by decide +kernel
theorem dX12_swimmers_107 : decode cX12_swimmers 107 = .ok (.lload 6, 2) := by decide +kernel
theorem dX12_swimmers_109 : decode cX12_swimmers 109 = .ok (.l2i, 1) := by decide +kernel
theorem dX12_swimmers_110 : decode cX12_swimmers 110 = .ok (.iadd, 1) := by decide +kernel
theorem dX12_swimmers_111 : decode cX12_swimmers 111 = .ok (.istore 8, 2) := by decide +kernel
theorem dX12_swimmers_113 : decode cX12_swimmers 113 = .ok (.aload_n 0, 1) := by decide +kernel
theorem dX12_swimmers_114 : decode cX12_swimmers 114 = .ok (.getfield 99, 3) := by decide +kernel
theorem dX12_swimmers_117 : decode cX12_swimmers 117 = .ok (.iload 8, 2) := by decide +kernel
theorem dX12_swimmers_119 : decode cX12_swimmers 119 = .ok (.laload, 1) := by decide +kernel
theorem dX12_swimmers_120 : decode cX12_swimmers 120 = .ok (.l2i, 1) := by decide +kernel
theorem dX12_swimmers_121 : decode cX12_swimmers 121 = .ok (.iconst 0, 1) := by decide +kernel
theorem dX12_swimmers_122 : decode cX12_swimmers 122 = .ok (.bipush 15, 2) := by decide +kernel
theorem dX12_swimmers_124 : decode cX12_swimmers 124 = .ok (.invokestatic 128, 3) := by decide +kernel
theorem dX12_swimmers_127 : decode cX12_swimmers 127 = .ok (.ifCond .eq 61, 3) := by decide +kernel
theorem dX12_swimmers_130 : decode cX12_swimmers 130 = .ok (.aload_n 0, 1) := by decide +kernel
theorem dX12_swimmers_131 : decode cX12_swimmers 131 = .ok (.getfield 99, 3) := by decide +kernel
theorem dX12_swimmers_134 : decode cX12_swimmers 134 = .ok (.iload 8, 2) := by decide +kernel
theorem dX12_swimmers_136 : decode cX12_swimmers 136 = .ok (.iconst 1, 1) := by decide +kernel
theorem dX12_swimmers_137 : decode cX12_swimmers 137 = .ok (.iadd, 1) := by decide +kernel
theorem dX12_swimmers_138 : decode cX12_swimmers 138 = .ok (.laload, 1) := by decide +kernel
theorem dX12_swimmers_139 : decode cX12_swimmers 139 = .ok (.l2i, 1) := by decide +kernel
theorem dX12_swimmers_140 : decode cX12_swimmers 140 = .ok (.iconst 0, 1) := by decide +kernel
theorem dX12_swimmers_141 : decode cX12_swimmers 141 = .ok (.bipush 15, 2) := by decide +kernel
theorem dX12_swimmers_143 : decode cX12_swimmers 143 = .ok (.invokestatic 128, 3) := by decide +kernel
theorem dX12_swimmers_146 : decode cX12_swimmers 146 = .ok (.ifCond .eq 42, 3) := by decide +kernel
theorem dX12_swimmers_149 : decode cX12_swimmers 149 = .ok (.aload_n 0, 1) := by decide +kernel
theorem dX12_swimmers_150 : decode cX12_swimmers 150 = .ok (.getfield 99, 3) := by decide +kernel
theorem dX12_swimmers_153 : decode cX12_swimmers 153 = .ok (.iload 8, 2) := by decide +kernel
theorem dX12_swimmers_155 : decode cX12_swimmers 155 = .ok (.iconst 2, 1) := by decide +kernel
theorem dX12_swimmers_156 : decode cX12_swimmers 156 = .ok (.iadd, 1) := by decide +kernel
theorem dX12_swimmers_157 : decode cX12_swimmers 157 = .ok (.laload, 1) := by decide +kernel
theorem dX12_swimmers_158 : decode cX12_swimmers 158 = .ok (.l2i, 1) := by decide +kernel
theorem dX12_swimmers_159 : decode cX12_swimmers 159 = .ok (.iconst 1, 1) := by decide +kernel
theorem dX12_swimmers_160 : decode cX12_swimmers 160 = .ok (.bipush 9, 2) := by decide +kernel
theorem dX12_swimmers_162 : decode cX12_swimmers 162 = .ok (.invokestatic 128, 3) := by decide +kernel
theorem dX12_swimmers_165 : decode cX12_swimmers 165 = .ok (.ifCond .eq 23, 3) := by decide +kernel
theorem dX12_swimmers_168 : decode cX12_swimmers 168 = .ok (.aload_n 0, 1) := by decide +kernel
theorem dX12_swimmers_169 : decode cX12_swimmers 169 = .ok (.getfield 99, 3) := by decide +kernel
theorem dX12_swimmers_172 : decode cX12_swimmers 172 = .ok (.iload 8, 2) := by decide +kernel
theorem dX12_swimmers_174 : decode cX12_swimmers 174 = .ok (.iconst 3, 1) := by decide +kernel
theorem dX12_swimmers_175 : decode cX12_swimmers 175 = .ok (.iadd, 1) := by decide +kernel
theorem dX12_swimmers_176 : decode cX12_swimmers 176 = .ok (.laload, 1) := by decide +kernel
theorem dX12_swimmers_177 : decode cX12_swimmers 177 = .ok (.l2i, 1) := by decide +kernel
theorem dX12_swimmers_178 : decode cX12_swimmers 178 = .ok (.bipush (-9), 2) := by decide +kernel
theorem dX12_swimmers_180 : decode cX12_swimmers 180 = .ok (.bipush 9, 2) := by decide +kernel
theorem dX12_swimmers_182 : decode cX12_swimmers 182 = .ok (.invokestatic 128, 3) := by decide +kernel
theorem dX12_swimmers_185 : decode cX12_swimmers 185 = .ok (.ifCond .ne 6, 3) := by decide +kernel
theorem dX12_swimmers_188 : decode cX12_swimmers 188 = .ok (.iload 4, 2) := by decide +kernel
theorem dX12_swimmers_190 : decode cX12_swimmers 190 = .ok (.ireturn, 1) := by decide +kernel
theorem dX12_swimmers_191 : decode cX12_swimmers 191 = .ok (.aload_n 0, 1) := by decide +kernel
theorem dX12_swimmers_192 : decode cX12_swimmers 192 = .ok (.aload_n 0, 1) := by decide +kernel
theorem dX12_swimmers_193 : decode cX12_swimmers 193 = .ok (.getfield 99, 3) := by decide +kernel
theorem dX12_swimmers_196 : decode cX12_swimmers 196 = .ok (.iload 8, 2) := by decide +kernel
theorem dX12_swimmers_198 : decode cX12_swimmers 198 = .ok (.laload, 1) := by decide +kernel
theorem dX12_swimmers_199 : decode cX12_swimmers 199 = .ok (.l2i, 1) := by decide +kernel
theorem dX12_swimmers_200 : decode cX12_swimmers 200 = .ok (.aload_n 0, 1) := by decide +kernel
theorem dX12_swimmers_201 : decode cX12_swimmers 201 = .ok (.getfield 99, 3) := by decide +kernel
theorem dX12_swimmers_204 : decode cX12_swimmers 204 = .ok (.iload 8, 2) := by decide +kernel
theorem dX12_swimmers_206 : decode cX12_swimmers 206 = .ok (.iconst 1, 1) := by decide +kernel
theorem dX12_swimmers_207 : decode cX12_swimmers 207 = .ok (.iadd, 1) := by decide +kernel
theorem dX12_swimmers_208 : decode cX12_swimmers 208 = .ok (.laload, 1) := by decide +kernel
theorem dX12_swimmers_209 : decode cX12_swimmers 209 = .ok (.l2i, 1) := by decide +kernel
theorem dX12_swimmers_210 : decode cX12_swimmers 210 = .ok (.aload_n 0, 1) := by decide +kernel
theorem dX12_swimmers_211 : decode cX12_swimmers 211 = .ok (.getfield 99, 3) := by decide +kernel
theorem dX12_swimmers_214 : decode cX12_swimmers 214 = .ok (.iload 8, 2) := by decide +kernel
theorem dX12_swimmers_216 : decode cX12_swimmers 216 = .ok (.iconst 2, 1) := by decide +kernel
theorem dX12_swimmers_217 : decode cX12_swimmers 217 = .ok (.iadd, 1) := by decide +kernel
theorem dX12_swimmers_218 : decode cX12_swimmers 218 = .ok (.laload, 1) := by decide +kernel
theorem dX12_swimmers_219 : decode cX12_swimmers 219 = .ok (.l2i, 1) := by decide +kernel
theorem dX12_swimmers_220 : decode cX12_swimmers 220 = .ok (.aload_n 0, 1) := by decide +kernel
theorem dX12_swimmers_221 : decode cX12_swimmers 221 = .ok (.getfield 99, 3) := by decide +kernel
theorem dX12_swimmers_224 : decode cX12_swimmers 224 = .ok (.iload 8, 2) := by decide +kernel
theorem dX12_swimmers_226 : decode cX12_swimmers 226 = .ok (.iconst 3, 1) := by decide +kernel
theorem dX12_swimmers_227 : decode cX12_swimmers 227 = .ok (.iadd, 1) := by decide +kernel
theorem dX12_swimmers_228 : decode cX12_swimmers 228 = .ok (.laload, 1) := by decide +kernel
theorem dX12_swimmers_229 : decode cX12_swimmers 229 = .ok (.l2i, 1) := by decide +kernel
theorem dX12_swimmers_230 : decode cX12_swimmers 230 = .ok (.invokevirtual 136, 3) := by decide +kernel
theorem dX12_swimmers_233 : decode cX12_swimmers 233 = .ok (.pop, 1) := by decide +kernel
theorem dX12_swimmers_234 : decode cX12_swimmers 234 = .ok (.iinc 4 1, 3) := by decide +kernel
theorem dX12_swimmers_237 : decode cX12_swimmers 237 = .ok (.iinc 5 1, 3) := by decide +kernel
theorem dX12_swimmers_240 : decode cX12_swimmers 240 = .ok (.goto (-191), 3) := by decide +kernel
theorem dX12_swimmers_243 : decode cX12_swimmers 243 = .ok (.iload 4, 2) := by decide +kernel
theorem dX12_swimmers_245 : decode cX12_swimmers 245 = .ok (.ireturn, 1) := by decide +kernel
theorem dX12_isOf_0 : decode cX12_isOf 0 = .ok (.iload_n 2, 1) := by decide +kernel
theorem dX12_isOf_1 : decode cX12_isOf 1 = .ok (.iconst 0, 1) := by decide +kernel
theorem dX12_isOf_2 : decode cX12_isOf 2 = .ok (.iconst 5, 1) := by decide +kernel
theorem dX12_isOf_3 : decode cX12_isOf 3 = .ok (.invokestatic 128, 3) := by decide +kernel
theorem dX12_isOf_6 : decode cX12_isOf 6 = .ok (.ifCond .eq 11, 3) := by decide +kernel
theorem dX12_isOf_9 : decode cX12_isOf 9 = .ok (.aload_n 0, 1) := by decide +kernel
theorem dX12_isOf_10 : decode cX12_isOf 10 = .ok (.iload_n 1, 1) := by decide +kernel
theorem dX12_isOf_11 : decode cX12_isOf 11 = .ok (.invokevirtual 132, 3) := by decide +kernel
theorem dX12_isOf_14 : decode cX12_isOf 14 = .ok (.goto 23, 3) := by decide +kernel
theorem dX12_isOf_17 : decode cX12_isOf 17 = .ok (.iload_n 2, 1) := by decide +kernel
theorem dX12_isOf_18 : decode cX12_isOf 18 = .ok (.bipush 6, 2) := by decide +kernel
theorem dX12_isOf_20 : decode cX12_isOf 20 = .ok (.bipush 8, 2) := by decide +kernel
theorem dX12_isOf_22 : decode cX12_isOf 22 = .ok (.invokestatic 128, 3) := by decide +kernel
theorem dX12_isOf_25 : decode cX12_isOf 25 = .ok (.ifCond .eq 11, 3) := by decide +kernel
theorem dX12_isOf_28 : decode cX12_isOf 28 = .ok (.iload_n 1, 1) := by decide +kernel
theorem dX12_isOf_29 : decode cX12_isOf 29 = .ok (.ifCond .ne 7, 3) := by decide +kernel
theorem dX12_isOf_32 : decode cX12_isOf 32 = .ok (.iconst 1, 1) := by decide +kernel
theorem dX12_isOf_33 : decode cX12_isOf 33 = .ok (.goto 4, 3) := by decide +kernel
theorem dX12_isOf_36 : decode cX12_isOf 36 = .ok (.iconst 0, 1) := by decide +kernel
theorem dX12_isOf_37 : decode cX12_isOf 37 = .ok (.ireturn, 1) := by decide +kernel
theorem dX12_isFit_0 : decode cX12_isFit 0 = .ok (.iload_n 0, 1) := by decide +kernel
theorem dX12_isFit_1 : decode cX12_isFit 1 = .ok (.tableswitch 100 0 8 #[51, 51, 59, 67, 75, 84, 92, 100, 59], 51) := by decide +kernel
theorem dX12_isFit_52 : decode cX12_isFit 52 = .ok (.iload_n 1, 1) := by decide +kernel
theorem dX12_isFit_53 : decode cX12_isFit 53 = .ok (.iconst 0, 1) := by decide +kernel
theorem dX12_isFit_54 : decode cX12_isFit 54 = .ok (.bipush 15, 2) := by decide +kernel
theorem dX12_isFit_56 : decode cX12_isFit 56 = .ok (.invokestatic 128, 3) := by decide +kernel
theorem dX12_isFit_59 : decode cX12_isFit 59 = .ok (.ireturn, 1) := by decide +kernel
theorem dX12_isFit_60 : decode cX12_isFit 60 = .ok (.iload_n 1, 1) := by decide +kernel
theorem dX12_isFit_61 : decode cX12_isFit 61 = .ok (.iconst 1, 1) := by decide +kernel
theorem dX12_isFit_62 : decode cX12_isFit 62 = .ok (.bipush 9, 2) := by decide +kernel
theorem dX12_isFit_64 : decode cX12_isFit 64 = .ok (.invokestatic 128, 3) := by decide +kernel
theorem dX12_isFit_67 : decode cX12_isFit 67 = .ok (.ireturn, 1) := by decide +kernel
theorem dX12_isFit_68 : decode cX12_isFit 68 = .ok (.iload_n 1, 1) := by decide +kernel
theorem dX12_isFit_69 : decode cX12_isFit 69 = .ok (.iconst 1, 1) := by decide +kernel
theorem dX12_isFit_70 : decode cX12_isFit 70 = .ok (.bipush 60, 2) := by decide +kernel
theorem dX12_isFit_72 : decode cX12_isFit 72 = .ok (.invokestatic 128, 3) := by decide +kernel
theorem dX12_isFit_75 : decode cX12_isFit 75 = .ok (.ireturn, 1) := by decide +kernel
theorem dX12_isFit_76 : decode cX12_isFit 76 = .ok (.iload_n 1, 1) := by decide +kernel
theorem dX12_isFit_77 : decode cX12_isFit 77 = .ok (.bipush (-9), 2) := by decide +kernel
theorem dX12_isFit_79 : decode cX12_isFit 79 = .ok (.bipush 9, 2) := by decide +kernel
theorem dX12_isFit_81 : decode cX12_isFit 81 = .ok (.invokestatic 128, 3) := by decide +kernel
theorem dX12_isFit_84 : decode cX12_isFit 84 = .ok (.ireturn, 1) := by decide +kernel
theorem dX12_isFit_85 : decode cX12_isFit 85 = .ok (.iload_n 1, 1) := by decide +kernel
theorem dX12_isFit_86 : decode cX12_isFit 86 = .ok (.iconst 0, 1) := by decide +kernel
theorem dX12_isFit_87 : decode cX12_isFit 87 = .ok (.bipush 99, 2) := by decide +kernel
theorem dX12_isFit_89 : decode cX12_isFit 89 = .ok (.invokestatic 128, 3) := by decide +kernel
theorem dX12_isFit_92 : decode cX12_isFit 92 = .ok (.ireturn, 1) := by decide +kernel
theorem dX12_isFit_93 : decode cX12_isFit 93 = .ok (.iload_n 1, 1) := by decide +kernel
theorem dX12_isFit_94 : decode cX12_isFit 94 = .ok (.iconst 0, 1) := by decide +kernel
theorem dX12_isFit_95 : decode cX12_isFit 95 = .ok (.bipush 7, 2) := by decide +kernel
theorem dX12_isFit_97 : decode cX12_isFit 97 = .ok (.invokestatic 128, 3) := by decide +kernel
theorem dX12_isFit_100 : decode cX12_isFit 100 = .ok (.ireturn, 1) := by decide +kernel
theorem dX12_isFit_101 : decode cX12_isFit 101 = .ok (.iload_n 1, 1) := by decide +kernel
theorem dX12_isFit_102 : decode cX12_isFit 102 = .ok (.iconst 1, 1) := by decide +kernel
theorem dX12_isFit_103 : decode cX12_isFit 103 = .ok (.sipush 999, 3) := by decide +kernel
theorem dX12_isFit_106 : decode cX12_isFit 106 = .ok (.invokestatic 128, 3) := by decide +kernel
theorem dX12_isFit_109 : decode cX12_isFit 109 = .ok (.ireturn, 1) := by decide +kernel
theorem dX12_get_0 : decode cX12_get 0 = .ok (.iload_n 2, 1) := by decide +kernel
theorem dX12_get_1 : decode cX12_get 1 = .ok (.tableswitch 81 0 5 #[39, 46, 53, 60, 67, 74], 39) := by decide +kernel
theorem dX12_get_40 : decode cX12_get 40 = .ok (.aload_n 0, 1) := by decide +kernel
theorem dX12_get_41 : decode cX12_get 41 = .ok (.getfield 9, 3) := by decide +kernel
theorem dX12_get_44 : decode cX12_get 44 = .ok (.iload_n 1, 1) := by decide +kernel
theorem dX12_get_45 : decode cX12_get 45 = .ok (.iaload, 1) := by decide +kernel
theorem dX12_get_46 : decode cX12_get 46 = .ok (.ireturn, 1) := by decide +kernel
theorem dX12_get_47 : decode cX12_get 47 = .ok (.aload_n 0, 1) := by decide +kernel
theorem dX12_get_48 : decode cX12_get 48 = .ok (.getfield 15, 3) := by decide +kernel
theorem dX12_get_51 : decode cX12_get 51 = .ok (.iload_n 1, 1) := by decide +kernel
theorem dX12_get_52 : decode cX12_get 52 = .ok (.iaload, 1) := by decide +kernel
theorem dX12_get_53 : decode cX12_get 53 = .ok (.ireturn, 1) := by decide +kernel
theorem dX12_get_54 : decode cX12_get 54 = .ok (.aload_n 0, 1) := by decide +kernel
theorem dX12_get_55 : decode cX12_get 55 = .ok (.getfield 18, 3) := by decide +kernel
theorem dX12_get_58 : decode cX12_get 58 = .ok (.iload_n 1, 1) := by decide +kernel
theorem dX12_get_59 : decode cX12_get 59 = .ok (.iaload, 1) := by decide +kernel
theorem dX12_get_60 : decode cX12_get 60 = .ok (.ireturn, 1) := by decide +kernel
theorem dX12_get_61 : decode cX12_get 61 = .ok (.aload_n 0, 1) := by decide +kernel
theorem dX12_get_62 : decode cX12_get 62 = .ok (.getfield 21, 3) := by decide +kernel
theorem dX12_get_65 : decode cX12_get 65 = .ok (.iload_n 1, 1) := by decide +kernel
theorem dX12_get_66 : decode cX12_get 66 = .ok (.iaload, 1) := by decide +kernel
theorem dX12_get_67 : decode cX12_get 67 = .ok (.ireturn, 1) := by decide +kernel
theorem dX12_get_68 : decode cX12_get 68 = .ok (.aload_n 0, 1) := by decide +kernel
theorem dX12_get_69 : decode cX12_get 69 = .ok (.getfield 24, 3) := by decide +kernel
theorem dX12_get_72 : decode cX12_get 72 = .ok (.iload_n 1, 1) := by decide +kernel
theorem dX12_get_73 : decode cX12_get 73 = .ok (.iaload, 1) := by decide +kernel
theorem dX12_get_74 : decode cX12_get 74 = .ok (.ireturn, 1) := by decide +kernel
theorem dX12_get_75 : decode cX12_get 75 = .ok (.aload_n 0, 1) := by decide +kernel
theorem dX12_get_76 : decode cX12_get 76 = .ok (.getfield 27, 3) := by decide +kernel
theorem dX12_get_79 : decode cX12_get 79 = .ok (.iload_n 1, 1) := by decide +kernel
theorem dX12_get_80 : decode cX12_get 80 = .ok (.iaload, 1) := by decide +kernel
theorem dX12_get_81 : decode cX12_get 81 = .ok (.ireturn, 1) := by decide +kernel
theorem dX12_get_82 : decode cX12_get 82 = .ok (.aload_n 0, 1) := by decide +kernel
theorem dX12_get_83 : decode cX12_get 83 = .ok (.getfield 30, 3) := by decide +kernel
theorem dX12_get_86 : decode cX12_get 86 = .ok (.iload_n 2, 1) := by decide +kernel
theorem dX12_get_87 : decode cX12_get 87 = .ok (.bipush 6, 2) := by decide +kernel
theorem dX12_get_89 : decode cX12_get 89 = .ok (.isub, 1) := by decide +kernel
theorem dX12_get_90 : decode cX12_get 90 = .ok (.iaload, 1) := by decide +kernel
theorem dX12_get_91 : decode cX12_get 91 = .ok (.ireturn, 1) := by decide +kernel
theorem dX12_becomes_0 : decode cX12_becomes 0 = .ok (.iload_n 2, 1) := by decide +kernel
theorem dX12_becomes_1 : decode cX12_becomes 1 = .ok (.tableswitch 87 0 5 #[39, 47, 55, 63, 71, 79], 39) := by decide +kernel
theorem dX12_becomes_40 : decode cX12_becomes 40 = .ok (.aload_n 0, 1) := by decide +kernel
theorem dX12_becomes_41 : decode cX12_becomes 41 = .ok (.getfield 9, 3) := by decide +kernel
theorem dX12_becomes_44 : decode cX12_becomes 44 = .ok (.iload_n 1, 1) := by decide +kernel
theorem dX12_becomes_45 : decode cX12_becomes 45 = .ok (.iload_n 3, 1) := by decide +kernel
theorem dX12_becomes_46 : decode cX12_becomes 46 = .ok (.iastore, 1) := by decide +kernel
theorem dX12_becomes_47 : decode cX12_becomes 47 = .ok (.return_, 1) := by decide +kernel
theorem dX12_becomes_48 : decode cX12_becomes 48 = .ok (.aload_n 0, 1) := by decide +kernel
theorem dX12_becomes_49 : decode cX12_becomes 49 = .ok (.getfield 15, 3) := by decide +kernel
theorem dX12_becomes_52 : decode cX12_becomes 52 = .ok (.iload_n 1, 1) := by decide +kernel
theorem dX12_becomes_53 : decode cX12_becomes 53 = .ok (.iload_n 3, 1) := by decide +kernel
theorem dX12_becomes_54 : decode cX12_becomes 54 = .ok (.iastore, 1) := by decide +kernel
theorem dX12_becomes_55 : decode cX12_becomes 55 = .ok (.return_, 1) := by decide +kernel
theorem dX12_becomes_56 : decode cX12_becomes 56 = .ok (.aload_n 0, 1) := by decide +kernel
theorem dX12_becomes_57 : decode cX12_becomes 57 = .ok (.getfield 18, 3) := by decide +kernel
theorem dX12_becomes_60 : decode cX12_becomes 60 = .ok (.iload_n 1, 1) := by decide +kernel
theorem dX12_becomes_61 : decode cX12_becomes 61 = .ok (.iload_n 3, 1) := by decide +kernel
theorem dX12_becomes_62 : decode cX12_becomes 62 = .ok (.iastore, 1) := by decide +kernel
theorem dX12_becomes_63 : decode cX12_becomes 63 = .ok (.return_, 1) := by decide +kernel
theorem dX12_becomes_64 : decode cX12_becomes 64 = .ok (.aload_n 0, 1) := by decide +kernel
theorem dX12_becomes_65 : decode cX12_becomes 65 = .ok (.getfield 21, 3) := by decide +kernel
theorem dX12_becomes_68 : decode cX12_becomes 68 = .ok (.iload_n 1, 1) := by decide +kernel
theorem dX12_becomes_69 : decode cX12_becomes 69 = .ok (.iload_n 3, 1) := by decide +kernel
theorem dX12_becomes_70 : decode cX12_becomes 70 = .ok (.iastore, 1) := by decide +kernel
theorem dX12_becomes_71 : decode cX12_becomes 71 = .ok (.return_, 1) := by decide +kernel
theorem dX12_becomes_72 : decode cX12_becomes 72 = .ok (.aload_n 0, 1) := by decide +kernel
theorem dX12_becomes_73 : decode cX12_becomes 73 = .ok (.getfield 24, 3) := by decide +kernel
theorem dX12_becomes_76 : decode cX12_becomes 76 = .ok (.iload_n 1, 1) := by decide +kernel
theorem dX12_becomes_77 : decode cX12_becomes 77 = .ok (.iload_n 3, 1) := by decide +kernel
theorem dX12_becomes_78 : decode cX12_becomes 78 = .ok (.iastore, 1) := by decide +kernel
theorem dX12_becomes_79 : decode cX12_becomes 79 = .ok (.return_, 1) := by decide +kernel
theorem dX12_becomes_80 : decode cX12_becomes 80 = .ok (.aload_n 0, 1) := by decide +kernel
theorem dX12_becomes_81 : decode cX12_becomes 81 = .ok (.getfield 27, 3) := by decide +kernel
theorem dX12_becomes_84 : decode cX12_becomes 84 = .ok (.iload_n 1, 1) := by decide +kernel
theorem dX12_becomes_85 : decode cX12_becomes 85 = .ok (.iload_n 3, 1) := by decide +kernel
theorem dX12_becomes_86 : decode cX12_becomes 86 = .ok (.iastore, 1) := by decide +kernel
theorem dX12_becomes_87 : decode cX12_becomes 87 = .ok (.return_, 1) := by decide +kernel
theorem dX12_becomes_88 : decode cX12_becomes 88 = .ok (.aload_n 0, 1) := by decide +kernel
theorem dX12_becomes_89 : decode cX12_becomes 89 = .ok (.getfield 30, 3) := by decide +kernel
theorem dX12_becomes_92 : decode cX12_becomes 92 = .ok (.iload_n 2, 1) := by decide +kernel
theorem dX12_becomes_93 : decode cX12_becomes 93 = .ok (.bipush 6, 2) := by decide +kernel
theorem dX12_becomes_95 : decode cX12_becomes 95 = .ok (.isub, 1) := by decide +kernel
theorem dX12_becomes_96 : decode cX12_becomes 96 = .ok (.iload_n 3, 1) := by decide +kernel
theorem dX12_becomes_97 : decode cX12_becomes 97 = .ok (.iastore, 1) := by decide +kernel
theorem dX12_becomes_98 : decode cX12_becomes 98 = .ok (.return_, 1) := by decide +kernel
theorem dX12_mend_0 : decode cX12_mend 0 = .ok (.aload_n 0, 1) := by decide +kernel
theorem dX12_mend_1 : decode cX12_mend 1 = .ok (.iload_n 1, 1) := by decide +kernel
theorem dX12_mend_2 : decode cX12_mend 2 = .ok (.iload_n 2, 1) := by decide +kernel
theorem dX12_mend_3 : decode cX12_mend 3 = .ok (.invokevirtual 145, 3) := by decide +kernel
theorem dX12_mend_6 : decode cX12_mend 6 = .ok (.ifCond .eq 11, 3) := by decide +kernel
theorem dX12_mend_9 : decode cX12_mend 9 = .ok (.iload_n 2, 1) := by decide +kernel
theorem dX12_mend_10 : decode cX12_mend 10 = .ok (.iload_n 3, 1) := by decide +kernel
theorem dX12_mend_11 : decode cX12_mend 11 = .ok (.invokestatic 149, 3) := by decide +kernel
theorem dX12_mend_14 : decode cX12_mend 14 = .ok (.ifCond .ne 6, 3) := by decide +kernel
theorem dX12_mend_17 : decode cX12_mend 17 = .ok (.ldc 152, 2) := by decide +kernel
theorem dX12_mend_19 : decode cX12_mend 19 = .ok (.ireturn, 1) := by decide +kernel
theorem dX12_mend_20 : decode cX12_mend 20 = .ok (.aload_n 0, 1) := by decide +kernel
theorem dX12_mend_21 : decode cX12_mend 21 = .ok (.iload_n 1, 1) := by decide +kernel
theorem dX12_mend_22 : decode cX12_mend 22 = .ok (.iload_n 2, 1) := by decide +kernel
theorem dX12_mend_23 : decode cX12_mend 23 = .ok (.invokevirtual 153, 3) := by decide +kernel
theorem dX12_mend_26 : decode cX12_mend 26 = .ok (.istore 4, 2) := by decide +kernel
theorem dX12_mend_28 : decode cX12_mend 28 = .ok (.iload 4, 2) := by decide +kernel
theorem dX12_mend_30 : decode cX12_mend 30 = .ok (.iload_n 3, 1) := by decide +kernel
theorem dX12_mend_31 : decode cX12_mend 31 = .ok (.if_icmp .ne 6, 3) := by decide +kernel
theorem dX12_mend_34 : decode cX12_mend 34 = .ok (.iload 4, 2) := by decide +kernel
theorem dX12_mend_36 : decode cX12_mend 36 = .ok (.ireturn, 1) := by decide +kernel
theorem dX12_mend_37 : decode cX12_mend 37 = .ok (.aload_n 0, 1) := by decide +kernel
theorem dX12_mend_38 : decode cX12_mend 38 = .ok (.iload_n 1, 1) := by decide +kernel
theorem dX12_mend_39 : decode cX12_mend 39 = .ok (.iload_n 2, 1) := by decide +kernel
theorem dX12_mend_40 : decode cX12_mend 40 = .ok (.iload_n 3, 1) := by decide +kernel
theorem dX12_mend_41 : decode cX12_mend 41 = .ok (.invokevirtual 157, 3) := by decide +kernel
theorem dX12_mend_44 : decode cX12_mend 44 = .ok (.aload_n 0, 1) := by decide +kernel
theorem dX12_mend_45 : decode cX12_mend 45 = .ok (.getfield 161, 3) := by decide +kernel
theorem dX12_mend_48 : decode cX12_mend 48 = .ok (.bipush 40, 2) := by decide +kernel
theorem dX12_mend_50 : decode cX12_mend 50 = .ok (.if_icmp .ne 46, 3) := by decide +kernel
theorem dX12_mend_53 : decode cX12_mend 53 = .ok (.iconst 0, 1) := by decide +kernel
theorem dX12_mend_54 : decode cX12_mend 54 = .ok (.istore 5, 2) := by decide +kernel
theorem dX12_mend_56 : decode cX12_mend 56 = .ok (.iload 5, 2) := by decide +kernel
theorem dX12_mend_58 : decode cX12_mend 58 = .ok (.sipush 156, 3) := by decide +kernel
theorem dX12_mend_61 : decode cX12_mend 61 = .ok (.if_icmp .ge 25, 3) := by decide +kernel
theorem dX12_mend_64 : decode cX12_mend 64 = .ok (.aload_n 0, 1) := by decide +kernel
theorem dX12_mend_65 : decode cX12_mend 65 = .ok (.getfield 84, 3) := by decide +kernel
theorem dX12_mend_68 : decode cX12_mend 68 = .ok (.iload 5, 2) := by decide +kernel
theorem dX12_mend_70 : decode cX12_mend 70 = .ok (.aload_n 0, 1) := by decide +kernel
theorem dX12_mend_71 : decode cX12_mend 71 = .ok (.getfield 84, 3) := by decide +kernel
theorem dX12_mend_74 : decode cX12_mend 74 = .ok (.iload 5, 2) := by decide +kernel
theorem dX12_mend_76 : decode cX12_mend 76 = .ok (.iconst 4, 1) := by decide +kernel
theorem dX12_mend_77 : decode cX12_mend 77 = .ok (.iadd, 1) := by decide +kernel
theorem dX12_mend_78 : decode cX12_mend 78 = .ok (.iaload, 1) := by decide +kernel
theorem dX12_mend_79 : decode cX12_mend 79 = .ok (.iastore, 1) := by decide +kernel
theorem dX12_mend_80 : decode cX12_mend 80 = .ok (.iinc 5 1, 3) := by decide +kernel
theorem dX12_mend_83 : decode cX12_mend 83 = .ok (.goto (-27), 3) := by decide +kernel
theorem dX12_mend_86 : decode cX12_mend 86 = .ok (.aload_n 0, 1) := by decide +kernel
theorem dX12_mend_87 : decode cX12_mend 87 = .ok (.dup, 1) := by decide +kernel
theorem dX12_mend_88 : decode cX12_mend 88 = .ok (.getfield 161, 3) := by decide +kernel
theorem dX12_mend_91 : decode cX12_mend 91 = .ok (.iconst 1, 1) := by decide +kernel
theorem dX12_mend_92 : decode cX12_mend 92 = .ok (.isub, 1) := by decide +kernel
theorem dX12_mend_93 : decode cX12_mend 93 = .ok (.putfield 161, 3) := by decide +kernel
theorem dX12_mend_96 : decode cX12_mend 96 = .ok (.aload_n 0, 1) := by decide +kernel
theorem dX12_mend_97 : decode cX12_mend 97 = .ok (.getfield 84, 3) := by decide +kernel
theorem dX12_mend_100 : decode cX12_mend 100 = .ok (.iconst 4, 1) := by decide +kernel
theorem dX12_mend_101 : decode cX12_mend 101 = .ok (.aload_n 0, 1) := by decide +kernel
theorem dX12_mend_102 : decode cX12_mend 102 = .ok (.getfield 161, 3) := by decide +kernel
theorem dX12_mend_105 : decode cX12_mend 105 = .ok (.imul, 1) := by decide +kernel
theorem dX12_mend_106 : decode cX12_mend 106 = .ok (.iload_n 1, 1) := by decide +kernel
theorem dX12_mend_107 : decode cX12_mend 107 = .ok (.iastore, 1) := by decide +kernel
theorem dX12_mend_108 : decode cX12_mend 108 = .ok (.aload_n 0, 1) := by decide +kernel
theorem dX12_mend_109 : decode cX12_mend 109 = .ok (.getfield 84, 3) := by decide +kernel
theorem dX12_mend_112 : decode cX12_mend 112 = .ok (.iconst 4, 1) := by decide +kernel
theorem dX12_mend_113 : decode cX12_mend 113 = .ok (.aload_n 0, 1) := by decide +kernel
theorem dX12_mend_114 : decode cX12_mend 114 = .ok (.getfield 161, 3) := by decide +kernel
theorem dX12_mend_117 : decode cX12_mend 117 = .ok (.imul, 1) := by decide +kernel
theorem dX12_mend_118 : decode cX12_mend 118 = .ok (.iconst 1, 1) := by decide +kernel
theorem dX12_mend_119 : decode cX12_mend 119 = .ok (.iadd, 1) := by decide +kernel
theorem dX12_mend_120 : decode cX12_mend 120 = .ok (.iload_n 2, 1) := by decide +kernel
theorem dX12_mend_121 : decode cX12_mend 121 = .ok (.iastore, 1) := by decide +kernel
theorem dX12_mend_122 : decode cX12_mend 122 = .ok (.aload_n 0, 1) := by decide +kernel
theorem dX12_mend_123 : decode cX12_mend 123 = .ok (.getfield 84, 3) := by decide +kernel
theorem dX12_mend_126 : decode cX12_mend 126 = .ok (.iconst 4, 1) := by decide +kernel
theorem dX12_mend_127 : decode cX12_mend 127 = .ok (.aload_n 0, 1) := by decide +kernel
theorem dX12_mend_128 : decode cX12_mend 128 = .ok (.getfield 161, 3) := by decide +kernel
theorem dX12_mend_131 : decode cX12_mend 131 = .ok (.imul, 1) := by decide +kernel
theorem dX12_mend_132 : decode cX12_mend 132 = .ok (.iconst 2, 1) := by decide +kernel
theorem dX12_mend_133 : decode cX12_mend 133 = .ok (.iadd, 1) := by decide +kernel
theorem dX12_mend_134 : decode cX12_mend 134 = .ok (.iload 4, 2) := by decide +kernel
theorem dX12_mend_136 : decode cX12_mend 136 = .ok (.iastore, 1) := by decide +kernel
theorem dX12_mend_137 : decode cX12_mend 137 = .ok (.aload_n 0, 1) := by decide +kernel
theorem dX12_mend_138 : decode cX12_mend 138 = .ok (.getfield 84, 3) := by decide +kernel
theorem dX12_mend_141 : decode cX12_mend 141 = .ok (.iconst 4, 1) := by decide +kernel
theorem dX12_mend_142 : decode cX12_mend 142 = .ok (.aload_n 0, 1) := by decide +kernel
theorem dX12_mend_143 : decode cX12_mend 143 = .ok (.getfield 161, 3) := by decide +kernel
theorem dX12_mend_146 : decode cX12_mend 146 = .ok (.imul, 1) := by decide +kernel
theorem dX12_mend_147 : decode cX12_mend 147 = .ok (.iconst 3, 1) := by decide +kernel
theorem dX12_mend_148 : decode cX12_mend 148 = .ok (.iadd, 1) := by decide +kernel
theorem dX12_mend_149 : decode cX12_mend 149 = .ok (.iload_n 3, 1) := by decide +kernel
theorem dX12_mend_150 : decode cX12_mend 150 = .ok (.iastore, 1) := by decide +kernel
theorem dX12_mend_151 : decode cX12_mend 151 = .ok (.aload_n 0, 1) := by decide +kernel
theorem dX12_mend_152 : decode cX12_mend 152 = .ok (.dup, 1) := by decide +kernel
theorem dX12_mend_153 : decode cX12_mend 153 = .ok (.getfield 161, 3) := by decide +kernel
theorem dX12_mend_156 : decode cX12_mend 156 = .ok (.iconst 1, 1) := by decide +kernel
theorem dX12_mend_157 : decode cX12_mend 157 = .ok (.iadd, 1) := by decide +kernel
theorem dX12_mend_158 : decode cX12_mend 158 = .ok (.putfield 161, 3) := by decide +kernel
theorem dX12_mend_161 : decode cX12_mend 161 = .ok (.aload_n 0, 1) := by decide +kernel
theorem dX12_mend_162 : decode cX12_mend 162 = .ok (.aload_n 0, 1) := by decide +kernel
theorem dX12_mend_163 : decode cX12_mend 163 = .ok (.getfield 161, 3) := by decide +kernel
theorem dX12_mend_166 : decode cX12_mend 166 = .ok (.putfield 164, 3) := by decide +kernel
theorem dX12_mend_169 : decode cX12_mend 169 = .ok (.iload 4, 2) := by decide +kernel
theorem dX12_mend_171 : decode cX12_mend 171 = .ok (.ireturn, 1) := by decide +kernel
theorem dX12_of_0 : decode cX12_of 0 = .ok (.iload_n 2, 1) := by decide +kernel
theorem dX12_of_1 : decode cX12_of 1 = .ok (.bipush 9, 2) := by decide +kernel
theorem dX12_of_3 : decode cX12_of 3 = .ok (.bipush 10, 2) := by decide +kernel
theorem dX12_of_5 : decode cX12_of 5 = .ok (.invokestatic 128, 3) := by decide +kernel
theorem dX12_of_8 : decode cX12_of 8 = .ok (.ifCond .eq 38, 3) := by decide +kernel
theorem dX12_of_11 : decode cX12_of 11 = .ok (.aload_n 0, 1) := by decide +kernel
theorem dX12_of_12 : decode cX12_of 12 = .ok (.iload_n 1, 1) := by decide +kernel
theorem dX12_of_13 : decode cX12_of 13 = .ok (.invokevirtual 132, 3) := by decide +kernel
theorem dX12_of_16 : decode cX12_of 16 = .ok (.ifCond .eq 27, 3) := by decide +kernel
theorem dX12_of_19 : decode cX12_of 19 = .ok (.iload_n 2, 1) := by decide +kernel
theorem dX12_of_20 : decode cX12_of 20 = .ok (.bipush 9, 2) := by decide +kernel
theorem dX12_of_22 : decode cX12_of 22 = .ok (.if_icmp .ne 12, 3) := by decide +kernel
theorem dX12_of_25 : decode cX12_of 25 = .ok (.aload_n 0, 1) := by decide +kernel
theorem dX12_of_26 : decode cX12_of 26 = .ok (.getfield 33, 3) := by decide +kernel
theorem dX12_of_29 : decode cX12_of 29 = .ok (.iload_n 1, 1) := by decide +kernel
theorem dX12_of_30 : decode cX12_of 30 = .ok (.iaload, 1) := by decide +kernel
theorem dX12_of_31 : decode cX12_of 31 = .ok (.goto 14, 3) := by decide +kernel
theorem dX12_of_34 : decode cX12_of 34 = .ok (.aload_n 0, 1) := by decide +kernel
theorem dX12_of_35 : decode cX12_of 35 = .ok (.getfield 36, 3) := by decide +kernel
theorem dX12_of_38 : decode cX12_of 38 = .ok (.iload_n 1, 1) := by decide +kernel
theorem dX12_of_39 : decode cX12_of 39 = .ok (.iaload, 1) := by decide +kernel
theorem dX12_of_40 : decode cX12_of 40 = .ok (.goto 5, 3) := by decide +kernel
theorem dX12_of_43 : decode cX12_of 43 = .ok (.ldc 152, 2) := by decide +kernel
theorem dX12_of_45 : decode cX12_of 45 = .ok (.ireturn, 1) := by decide +kernel
theorem dX12_of_46 : decode cX12_of 46 = .ok (.aload_n 0, 1) := by decide +kernel
theorem dX12_of_47 : decode cX12_of 47 = .ok (.iload_n 1, 1) := by decide +kernel
theorem dX12_of_48 : decode cX12_of 48 = .ok (.iload_n 2, 1) := by decide +kernel
theorem dX12_of_49 : decode cX12_of 49 = .ok (.invokevirtual 145, 3) := by decide +kernel
theorem dX12_of_52 : decode cX12_of 52 = .ok (.ifCond .eq 12, 3) := by decide +kernel
theorem dX12_of_55 : decode cX12_of 55 = .ok (.aload_n 0, 1) := by decide +kernel
theorem dX12_of_56 : decode cX12_of 56 = .ok (.iload_n 1, 1) := by decide +kernel
theorem dX12_of_57 : decode cX12_of 57 = .ok (.iload_n 2, 1) := by decide +kernel
theorem dX12_of_58 : decode cX12_of 58 = .ok (.invokevirtual 153, 3) := by decide +kernel
theorem dX12_of_61 : decode cX12_of 61 = .ok (.goto 5, 3) := by decide +kernel
theorem dX12_of_64 : decode cX12_of 64 = .ok (.ldc 152, 2) := by decide +kernel
theorem dX12_of_66 : decode cX12_of 66 = .ok (.ireturn, 1) := by decide +kernel
theorem dX12_undo_0 : decode cX12_undo 0 = .ok (.aload_n 0, 1) := by decide +kernel
theorem dX12_undo_1 : decode cX12_undo 1 = .ok (.getfield 161, 3) := by decide +kernel
theorem dX12_undo_4 : decode cX12_undo 4 = .ok (.ifCond .ne 6, 3) := by decide +kernel
theorem dX12_undo_7 : decode cX12_undo 7 = .ok (.bipush (-5), 2) := by decide +kernel
theorem dX12_undo_9 : decode cX12_undo 9 = .ok (.ireturn, 1) := by decide +kernel
theorem dX12_undo_10 : decode cX12_undo 10 = .ok (.aload_n 0, 1) := by decide +kernel
theorem dX12_undo_11 : decode cX12_undo 11 = .ok (.dup, 1) := by decide +kernel
theorem dX12_undo_12 : decode cX12_undo 12 = .ok (.getfield 161, 3) := by decide +kernel
theorem dX12_undo_15 : decode cX12_undo 15 = .ok (.iconst 1, 1) := by decide +kernel
theorem dX12_undo_16 : decode cX12_undo 16 = .ok (.isub, 1) := by decide +kernel
theorem dX12_undo_17 : decode cX12_undo 17 = .ok (.putfield 161, 3) := by decide +kernel
theorem dX12_undo_20 : decode cX12_undo 20 = .ok (.aload_n 0, 1) := by decide +kernel
theorem dX12_undo_21 : decode cX12_undo 21 = .ok (.aload_n 0, 1) := by decide +kernel
theorem dX12_undo_22 : decode cX12_undo 22 = .ok (.getfield 84, 3) := by decide +kernel
theorem dX12_undo_25 : decode cX12_undo 25 = .ok (.iconst 4, 1) := by decide +kernel
theorem dX12_undo_26 : decode cX12_undo 26 = .ok (.aload_n 0, 1) := by decide +kernel
theorem dX12_undo_27 : decode cX12_undo 27 = .ok (.getfield 161, 3) := by decide +kernel
theorem dX12_undo_30 : decode cX12_undo 30 = .ok (.imul, 1) := by decide +kernel
theorem dX12_undo_31 : decode cX12_undo 31 = .ok (.iaload, 1) := by decide +kernel
theorem dX12_undo_32 : decode cX12_undo 32 = .ok (.aload_n 0, 1) := by decide +kernel
theorem dX12_undo_33 : decode cX12_undo 33 = .ok (.getfield 84, 3) := by decide +kernel
theorem dX12_undo_36 : decode cX12_undo 36 = .ok (.iconst 4, 1) := by decide +kernel
theorem dX12_undo_37 : decode cX12_undo 37 = .ok (.aload_n 0, 1) := by decide +kernel
theorem dX12_undo_38 : decode cX12_undo 38 = .ok (.getfield 161, 3) := by decide +kernel
theorem dX12_undo_41 : decode cX12_undo 41 = .ok (.imul, 1) := by decide +kernel
theorem dX12_undo_42 : decode cX12_undo 42 = .ok (.iconst 1, 1) := by decide +kernel
theorem dX12_undo_43 : decode cX12_undo 43 = .ok (.iadd, 1) := by decide +kernel
theorem dX12_undo_44 : decode cX12_undo 44 = .ok (.iaload, 1) := by decide +kernel
theorem dX12_undo_45 : decode cX12_undo 45 = .ok (.aload_n 0, 1) := by decide +kernel
theorem dX12_undo_46 : decode cX12_undo 46 = .ok (.getfield 84, 3) := by decide +kernel
theorem dX12_undo_49 : decode cX12_undo 49 = .ok (.iconst 4, 1) := by decide +kernel
theorem dX12_undo_50 : decode cX12_undo 50 = .ok (.aload_n 0, 1) := by decide +kernel
theorem dX12_undo_51 : decode cX12_undo 51 = .ok (.getfield 161, 3) := by decide +kernel
theorem dX12_undo_54 : decode cX12_undo 54 = .ok (.imul, 1) := by decide +kernel
theorem dX12_undo_55 : decode cX12_undo 55 = .ok (.iconst 2, 1) := by decide +kernel
theorem dX12_undo_56 : decode cX12_undo 56 = .ok (.iadd, 1) := by decide +kernel
theorem dX12_undo_57 : decode cX12_undo 57 = .ok (.iaload, 1) := by decide +kernel
theorem dX12_undo_58 : decode cX12_undo 58 = .ok (.invokevirtual 157, 3) := by decide +kernel
theorem dX12_undo_61 : decode cX12_undo 61 = .ok (.aload_n 0, 1) := by decide +kernel
theorem dX12_undo_62 : decode cX12_undo 62 = .ok (.getfield 161, 3) := by decide +kernel
theorem dX12_undo_65 : decode cX12_undo 65 = .ok (.ireturn, 1) := by decide +kernel
theorem dX12_redo_0 : decode cX12_redo 0 = .ok (.aload_n 0, 1) := by decide +kernel
theorem dX12_redo_1 : decode cX12_redo 1 = .ok (.getfield 161, 3) := by decide +kernel
theorem dX12_redo_4 : decode cX12_redo 4 = .ok (.aload_n 0, 1) := by decide +kernel
theorem dX12_redo_5 : decode cX12_redo 5 = .ok (.getfield 164, 3) := by decide +kernel
theorem dX12_redo_8 : decode cX12_redo 8 = .ok (.if_icmp .ne 6, 3) := by decide +kernel
theorem dX12_redo_11 : decode cX12_redo 11 = .ok (.bipush (-5), 2) := by decide +kernel
theorem dX12_redo_13 : decode cX12_redo 13 = .ok (.ireturn, 1) := by decide +kernel
theorem dX12_redo_14 : decode cX12_redo 14 = .ok (.aload_n 0, 1) := by decide +kernel
theorem dX12_redo_15 : decode cX12_redo 15 = .ok (.aload_n 0, 1) := by decide +kernel
theorem dX12_redo_16 : decode cX12_redo 16 = .ok (.getfield 84, 3) := by decide +kernel
theorem dX12_redo_19 : decode cX12_redo 19 = .ok (.iconst 4, 1) := by decide +kernel
theorem dX12_redo_20 : decode cX12_redo 20 = .ok (.aload_n 0, 1) := by decide +kernel
theorem dX12_redo_21 : decode cX12_redo 21 = .ok (.getfield 161, 3) := by decide +kernel
theorem dX12_redo_24 : decode cX12_redo 24 = .ok (.imul, 1) := by decide +kernel
theorem dX12_redo_25 : decode cX12_redo 25 = .ok (.iaload, 1) := by decide +kernel
theorem dX12_redo_26 : decode cX12_redo 26 = .ok (.aload_n 0, 1) := by decide +kernel
theorem dX12_redo_27 : decode cX12_redo 27 = .ok (.getfield 84, 3) := by decide +kernel
theorem dX12_redo_30 : decode cX12_redo 30 = .ok (.iconst 4, 1) := by decide +kernel
theorem dX12_redo_31 : decode cX12_redo 31 = .ok (.aload_n 0, 1) := by decide +kernel
theorem dX12_redo_32 : decode cX12_redo 32 = .ok (.getfield 161, 3) := by decide +kernel
theorem dX12_redo_35 : decode cX12_redo 35 = .ok (.imul, 1) := by decide +kernel
theorem dX12_redo_36 : decode cX12_redo 36 = .ok (.iconst 1, 1) := by decide +kernel
theorem dX12_redo_37 : decode cX12_redo 37 = .ok (.iadd, 1) := by decide +kernel
theorem dX12_redo_38 : decode cX12_redo 38 = .ok (.iaload, 1) := by decide +kernel
theorem dX12_redo_39 : decode cX12_redo 39 = .ok (.aload_n 0, 1) := by decide +kernel
theorem dX12_redo_40 : decode cX12_redo 40 = .ok (.getfield 84, 3) := by decide +kernel
theorem dX12_redo_43 : decode cX12_redo 43 = .ok (.iconst 4, 1) := by decide +kernel
theorem dX12_redo_44 : decode cX12_redo 44 = .ok (.aload_n 0, 1) := by decide +kernel
theorem dX12_redo_45 : decode cX12_redo 45 = .ok (.getfield 161, 3) := by decide +kernel
theorem dX12_redo_48 : decode cX12_redo 48 = .ok (.imul, 1) := by decide +kernel
theorem dX12_redo_49 : decode cX12_redo 49 = .ok (.iconst 3, 1) := by decide +kernel
theorem dX12_redo_50 : decode cX12_redo 50 = .ok (.iadd, 1) := by decide +kernel
theorem dX12_redo_51 : decode cX12_redo 51 = .ok (.iaload, 1) := by decide +kernel
theorem dX12_redo_52 : decode cX12_redo 52 = .ok (.invokevirtual 157, 3) := by decide +kernel
theorem dX12_redo_55 : decode cX12_redo 55 = .ok (.aload_n 0, 1) := by decide +kernel
theorem dX12_redo_56 : decode cX12_redo 56 = .ok (.dup, 1) := by decide +kernel
theorem dX12_redo_57 : decode cX12_redo 57 = .ok (.getfield 161, 3) := by decide +kernel
theorem dX12_redo_60 : decode cX12_redo 60 = .ok (.iconst 1, 1) := by decide +kernel
theorem dX12_redo_61 : decode cX12_redo 61 = .ok (.iadd, 1) := by decide +kernel
theorem dX12_redo_62 : decode cX12_redo 62 = .ok (.putfield 161, 3) := by decide +kernel
theorem dX12_redo_65 : decode cX12_redo 65 = .ok (.aload_n 0, 1) := by decide +kernel
theorem dX12_redo_66 : decode cX12_redo 66 = .ok (.getfield 164, 3) := by decide +kernel
theorem dX12_redo_69 : decode cX12_redo 69 = .ok (.aload_n 0, 1) := by decide +kernel
theorem dX12_redo_70 : decode cX12_redo 70 = .ok (.getfield 161, 3) := by decide +kernel
theorem dX12_redo_73 : decode cX12_redo 73 = .ok (.isub, 1) := by decide +kernel
theorem dX12_redo_74 : decode cX12_redo 74 = .ok (.ireturn, 1) := by decide +kernel
theorem dX12_feed_0 : decode cX12_feed 0 = .ok (.iload_n 1, 1) := by decide +kernel
theorem dX12_feed_1 : decode cX12_feed 1 = .ok (.iconst 0, 1) := by decide +kernel
theorem dX12_feed_2 : decode cX12_feed 2 = .ok (.sipush 255, 3) := by decide +kernel
theorem dX12_feed_5 : decode cX12_feed 5 = .ok (.invokestatic 128, 3) := by decide +kernel
theorem dX12_feed_8 : decode cX12_feed 8 = .ok (.ifCond .ne 5, 3) := by decide +kernel
theorem dX12_feed_11 : decode cX12_feed 11 = .ok (.iconst (-1), 1) := by decide +kernel
theorem dX12_feed_12 : decode cX12_feed 12 = .ok (.ireturn, 1) := by decide +kernel
theorem dX12_feed_13 : decode cX12_feed 13 = .ok (.aload_n 0, 1) := by decide +kernel
theorem dX12_feed_14 : decode cX12_feed 14 = .ok (.getfield 167, 3) := by decide +kernel
theorem dX12_feed_17 : decode cX12_feed 17 = .ok (.bipush 120, 2) := by decide +kernel
theorem dX12_feed_19 : decode cX12_feed 19 = .ok (.if_icmp .ne 6, 3) := by decide +kernel
theorem dX12_feed_22 : decode cX12_feed 22 = .ok (.bipush (-3), 2) := by decide +kernel
theorem dX12_feed_24 : decode cX12_feed 24 = .ok (.ireturn, 1) := by decide +kernel
theorem dX12_feed_25 : decode cX12_feed 25 = .ok (.aload_n 0, 1) := by decide +kernel
theorem dX12_feed_26 : decode cX12_feed 26 = .ok (.getfield 39, 3) := by decide +kernel
theorem dX12_feed_29 : decode cX12_feed 29 = .ok (.aload_n 0, 1) := by decide +kernel
theorem dX12_feed_30 : decode cX12_feed 30 = .ok (.dup, 1) := by decide +kernel
theorem dX12_feed_31 : decode cX12_feed 31 = .ok (.getfield 167, 3) := by decide +kernel
theorem dX12_feed_34 : decode cX12_feed 34 = .ok (.dup_x1, 1) := by decide +kernel
theorem dX12_feed_35 : decode cX12_feed 35 = .ok (.iconst 1, 1) := by decide +kernel
theorem dX12_feed_36 : decode cX12_feed 36 = .ok (.iadd, 1) := by decide +kernel
theorem dX12_feed_37 : decode cX12_feed 37 = .ok (.putfield 167, 3) := by decide +kernel
theorem dX12_feed_40 : decode cX12_feed 40 = .ok (.iload_n 1, 1) := by decide +kernel
theorem dX12_feed_41 : decode cX12_feed 41 = .ok (.iastore, 1) := by decide +kernel
theorem dX12_feed_42 : decode cX12_feed 42 = .ok (.aload_n 0, 1) := by decide +kernel
theorem dX12_feed_43 : decode cX12_feed 43 = .ok (.getfield 167, 3) := by decide +kernel
theorem dX12_feed_46 : decode cX12_feed 46 = .ok (.ireturn, 1) := by decide +kernel
theorem dX12_sign_0 : decode cX12_sign 0 = .ok (.aload_n 0, 1) := by decide +kernel
theorem dX12_sign_1 : decode cX12_sign 1 = .ok (.getfield 170, 3) := by decide +kernel
theorem dX12_sign_4 : decode cX12_sign 4 = .ok (.aload_n 0, 1) := by decide +kernel
theorem dX12_sign_5 : decode cX12_sign 5 = .ok (.getfield 167, 3) := by decide +kernel
theorem dX12_sign_8 : decode cX12_sign 8 = .ok (.if_icmp .ge 15, 3) := by decide +kernel
theorem dX12_sign_11 : decode cX12_sign 11 = .ok (.aload_n 0, 1) := by decide +kernel
theorem dX12_sign_12 : decode cX12_sign 12 = .ok (.getfield 39, 3) := by decide +kernel
theorem dX12_sign_15 : decode cX12_sign 15 = .ok (.aload_n 0, 1) := by decide +kernel
theorem dX12_sign_16 : decode cX12_sign 16 = .ok (.getfield 170, 3) := by decide +kernel
theorem dX12_sign_19 : decode cX12_sign 19 = .ok (.iaload, 1) := by decide +kernel
theorem dX12_sign_20 : decode cX12_sign 20 = .ok (.goto 4, 3) := by decide +kernel
theorem dX12_sign_23 : decode cX12_sign 23 = .ok (.iconst (-1), 1) := by decide +kernel
theorem dX12_sign_24 : decode cX12_sign 24 = .ok (.ireturn, 1) := by decide +kernel
theorem dX12_is_0 : decode cX12_is 0 = .ok (.aload_n 0, 1) := by decide +kernel
theorem dX12_is_1 : decode cX12_is 1 = .ok (.invokevirtual 173, 3) := by decide +kernel
theorem dX12_is_4 : decode cX12_is 4 = .ok (.iload_n 1, 1) := by decide +kernel
theorem dX12_is_5 : decode cX12_is 5 = .ok (.if_icmp .eq 5, 3) := by decide +kernel
theorem dX12_is_8 : decode cX12_is 8 = .ok (.iconst 0, 1) := by decide +kernel
theorem dX12_is_9 : decode cX12_is 9 = .ok (.ireturn, 1) := by decide +kernel
theorem dX12_is_10 : decode cX12_is 10 = .ok (.aload_n 0, 1) := by decide +kernel
theorem dX12_is_11 : decode cX12_is 11 = .ok (.dup, 1) := by decide +kernel
theorem dX12_is_12 : decode cX12_is 12 = .ok (.getfield 170, 3) := by decide +kernel
theorem dX12_is_15 : decode cX12_is 15 = .ok (.iconst 1, 1) := by decide +kernel
theorem dX12_is_16 : decode cX12_is 16 = .ok (.iadd, 1) := by decide +kernel
theorem dX12_is_17 : decode cX12_is 17 = .ok (.putfield 170, 3) := by decide +kernel
theorem dX12_is_20 : decode cX12_is 20 = .ok (.iconst 1, 1) := by decide +kernel
theorem dX12_is_21 : decode cX12_is 21 = .ok (.ireturn, 1) := by decide +kernel
theorem dX12_codes_0 : decode cX12_codes 0 = .ok (.aload_n 0, 1) := by decide +kernel
theorem dX12_codes_1 : decode cX12_codes 1 = .ok (.getfield 63, 3) := by decide +kernel
theorem dX12_codes_4 : decode cX12_codes 4 = .ok (.aload_n 0, 1) := by decide +kernel
theorem dX12_codes_5 : decode cX12_codes 5 = .ok (.dup, 1) := by decide +kernel
theorem dX12_codes_6 : decode cX12_codes 6 = .ok (.getfield 177, 3) := by decide +kernel
theorem dX12_codes_9 : decode cX12_codes 9 = .ok (.dup_x1, 1) := by decide +kernel
theorem dX12_codes_10 : decode cX12_codes 10 = .ok (.iconst 1, 1) := by decide +kernel
theorem dX12_codes_11 : decode cX12_codes 11 = .ok (.iadd, 1) := by decide +kernel
theorem dX12_codes_12 : decode cX12_codes 12 = .ok (.putfield 177, 3) := by decide +kernel
theorem dX12_codes_15 : decode cX12_codes 15 = .ok (.iload_n 1, 1) := by decide +kernel
theorem dX12_codes_16 : decode cX12_codes 16 = .ok (.iastore, 1) := by decide +kernel
theorem dX12_codes_17 : decode cX12_codes 17 = .ok (.iconst 1, 1) := by decide +kernel
theorem dX12_codes_18 : decode cX12_codes 18 = .ok (.ireturn, 1) := by decide +kernel
theorem dX12_isDigit_0 : decode cX12_isDigit 0 = .ok (.aload_n 0, 1) := by decide +kernel
theorem dX12_isDigit_1 : decode cX12_isDigit 1 = .ok (.invokevirtual 173, 3) := by decide +kernel
theorem dX12_isDigit_4 : decode cX12_isDigit 4 = .ok (.bipush 48, 2) := by decide +kernel
theorem dX12_isDigit_6 : decode cX12_isDigit 6 = .ok (.if_icmp .lt 16, 3) := by decide +kernel
theorem dX12_isDigit_9 : decode cX12_isDigit 9 = .ok (.aload_n 0, 1) := by decide +kernel
theorem dX12_isDigit_10 : decode cX12_isDigit 10 = .ok (.invokevirtual 173, 3) := by decide +kernel
theorem dX12_isDigit_13 : decode cX12_isDigit 13 = .ok (.bipush 57, 2) := by decide +kernel
theorem dX12_isDigit_15 : decode cX12_isDigit 15 = .ok (.if_icmp .gt 7, 3) := by decide +kernel
theorem dX12_isDigit_18 : decode cX12_isDigit 18 = .ok (.iconst 1, 1) := by decide +kernel
theorem dX12_isDigit_19 : decode cX12_isDigit 19 = .ok (.goto 4, 3) := by decide +kernel
theorem dX12_isDigit_22 : decode cX12_isDigit 22 = .ok (.iconst 0, 1) := by decide +kernel
theorem dX12_isDigit_23 : decode cX12_isDigit 23 = .ok (.ireturn, 1) := by decide +kernel
theorem dX12_nameOf_0 : decode cX12_nameOf 0 = .ok (.iload_n 0, 1) := by decide +kernel
theorem dX12_nameOf_1 : decode cX12_nameOf 1 = .ok (.tableswitch 95 100 116 #[87, 85, 95, 95, 95, 95, 95, 91, 95, 95, 95, 83, 95, 95, 95, 93, 89], 83) := by decide +kernel
theorem dX12_nameOf_84 : decode cX12_nameOf 84 = .ok (.iconst 0, 1) := by decide +kernel
theorem dX12_nameOf_85 : decode cX12_nameOf 85 = .ok (.ireturn, 1) := by decide +kernel
theorem dX12_nameOf_86 : decode cX12_nameOf 86 = .ok (.iconst 1, 1) := by decide +kernel
theorem dX12_nameOf_87 : decode cX12_nameOf 87 = .ok (.ireturn, 1) := by decide +kernel
theorem dX12_nameOf_88 : decode cX12_nameOf 88 = .ok (.iconst 2, 1) := by decide +kernel
theorem dX12_nameOf_89 : decode cX12_nameOf 89 = .ok (.ireturn, 1) := by decide +kernel
theorem dX12_nameOf_90 : decode cX12_nameOf 90 = .ok (.iconst 3, 1) := by decide +kernel
theorem dX12_nameOf_91 : decode cX12_nameOf 91 = .ok (.ireturn, 1) := by decide +kernel
theorem dX12_nameOf_92 : decode cX12_nameOf 92 = .ok (.iconst 4, 1) := by decide +kernel
theorem dX12_nameOf_93 : decode cX12_nameOf 93 = .ok (.ireturn, 1) := by decide +kernel
theorem dX12_nameOf_94 : decode cX12_nameOf 94 = .ok (.iconst 5, 1) := by decide +kernel
theorem dX12_nameOf_95 : decode cX12_nameOf 95 = .ok (.ireturn, 1) := by decide +kernel
theorem dX12_nameOf_96 : decode cX12_nameOf 96 = .ok (.iconst (-1), 1) := by decide +kernel
theorem dX12_nameOf_97 : decode cX12_nameOf 97 = .ok (.ireturn, 1) := by decide +kernel
theorem dX12_isO_0 : decode cX12_isO 0 = .ok (.aload_n 0, 1) := by decide +kernel
theorem dX12_isO_1 : decode cX12_isO 1 = .ok (.invokevirtual 180, 3) := by decide +kernel
theorem dX12_isO_4 : decode cX12_isO 4 = .ok (.ifCond .eq 62, 3) := by decide +kernel
theorem dX12_isO_7 : decode cX12_isO 7 = .ok (.iconst 0, 1) := by decide +kernel
theorem dX12_isO_8 : decode cX12_isO 8 = .ok (.istore_n 1, 1) := by decide +kernel
theorem dX12_isO_9 : decode cX12_isO 9 = .ok (.iconst 0, 1) := by decide +kernel
theorem dX12_isO_10 : decode cX12_isO 10 = .ok (.istore_n 2, 1) := by decide +kernel
theorem dX12_isO_11 : decode cX12_isO 11 = .ok (.iload_n 2, 1) := by decide +kernel
theorem dX12_isO_12 : decode cX12_isO 12 = .ok (.iconst 4, 1) := by decide +kernel
theorem dX12_isO_13 : decode cX12_isO 13 = .ok (.if_icmp .ge 44, 3) := by decide +kernel
theorem dX12_isO_16 : decode cX12_isO 16 = .ok (.aload_n 0, 1) := by decide +kernel
theorem dX12_isO_17 : decode cX12_isO 17 = .ok (.invokevirtual 180, 3) := by decide +kernel
theorem dX12_isO_20 : decode cX12_isO 20 = .ok (.ifCond .eq 37, 3) := by decide +kernel
theorem dX12_isO_23 : decode cX12_isO 23 = .ok (.bipush 10, 2) := by decide +kernel
theorem dX12_isO_25 : decode cX12_isO 25 = .ok (.iload_n 1, 1) := by decide +kernel
theorem dX12_isO_26 : decode cX12_isO 26 = .ok (.imul, 1) := by decide +kernel
theorem dX12_isO_27 : decode cX12_isO 27 = .ok (.aload_n 0, 1) := by decide +kernel
theorem dX12_isO_28 : decode cX12_isO 28 = .ok (.getfield 39, 3) := by decide +kernel
theorem dX12_isO_31 : decode cX12_isO 31 = .ok (.aload_n 0, 1) := by decide +kernel
theorem dX12_isO_32 : decode cX12_isO 32 = .ok (.getfield 170, 3) := by decide +kernel
theorem dX12_isO_35 : decode cX12_isO 35 = .ok (.iaload, 1) := by decide +kernel
theorem dX12_isO_36 : decode cX12_isO 36 = .ok (.iadd, 1) := by decide +kernel
theorem dX12_isO_37 : decode cX12_isO 37 = .ok (.bipush 48, 2) := by decide +kernel
theorem dX12_isO_39 : decode cX12_isO 39 = .ok (.isub, 1) := by decide +kernel
theorem dX12_isO_40 : decode cX12_isO 40 = .ok (.istore_n 1, 1) := by decide +kernel
theorem dX12_isO_41 : decode cX12_isO 41 = .ok (.aload_n 0, 1) := by decide +kernel
theorem dX12_isO_42 : decode cX12_isO 42 = .ok (.dup, 1) := by decide +kernel
theorem dX12_isO_43 : decode cX12_isO 43 = .ok (.getfield 170, 3) := by decide +kernel
theorem dX12_isO_46 : decode cX12_isO 46 = .ok (.iconst 1, 1) := by decide +kernel
theorem dX12_isO_47 : decode cX12_isO 47 = .ok (.iadd, 1) := by decide +kernel
theorem dX12_isO_48 : decode cX12_isO 48 = .ok (.putfield 170, 3) := by decide +kernel
theorem dX12_isO_51 : decode cX12_isO 51 = .ok (.iinc 2 1, 3) := by decide +kernel
theorem dX12_isO_54 : decode cX12_isO 54 = .ok (.goto (-43), 3) := by decide +kernel
theorem dX12_isO_57 : decode cX12_isO 57 = .ok (.aload_n 0, 1) := by decide +kernel
theorem dX12_isO_58 : decode cX12_isO 58 = .ok (.bipush 18, 2) := by decide +kernel
theorem dX12_isO_60 : decode cX12_isO 60 = .ok (.iload_n 1, 1) := by decide +kernel
theorem dX12_isO_61 : decode cX12_isO 61 = .ok (.iadd, 1) := by decide +kernel
theorem dX12_isO_62 : decode cX12_isO 62 = .ok (.invokevirtual 184, 3) := by decide +kernel
theorem dX12_isO_65 : decode cX12_isO 65 = .ok (.ireturn, 1) := by decide +kernel
theorem dX12_isO_66 : decode cX12_isO 66 = .ok (.aload_n 0, 1) := by decide +kernel
theorem dX12_isO_67 : decode cX12_isO 67 = .ok (.invokevirtual 173, 3) := by decide +kernel
theorem dX12_isO_70 : decode cX12_isO 70 = .ok (.invokestatic 187, 3) := by decide +kernel
theorem dX12_isO_73 : decode cX12_isO 73 = .ok (.istore_n 1, 1) := by decide +kernel
theorem dX12_isO_74 : decode cX12_isO 74 = .ok (.iload_n 1, 1) := by decide +kernel
theorem dX12_isO_75 : decode cX12_isO 75 = .ok (.ifCond .lt 19, 3) := by decide +kernel
theorem dX12_isO_78 : decode cX12_isO 78 = .ok (.aload_n 0, 1) := by decide +kernel
theorem dX12_isO_79 : decode cX12_isO 79 = .ok (.dup, 1) := by decide +kernel
theorem dX12_isO_80 : decode cX12_isO 80 = .ok (.getfield 170, 3) := by decide +kernel
theorem dX12_isO_83 : decode cX12_isO 83 = .ok (.iconst 1, 1) := by decide +kernel
theorem dX12_isO_84 : decode cX12_isO 84 = .ok (.iadd, 1) := by decide +kernel
theorem dX12_isO_85 : decode cX12_isO 85 = .ok (.putfield 170, 3) := by decide +kernel
theorem dX12_isO_88 : decode cX12_isO 88 = .ok (.aload_n 0, 1) := by decide +kernel
theorem dX12_isO_89 : decode cX12_isO 89 = .ok (.iload_n 1, 1) := by decide +kernel
theorem dX12_isO_90 : decode cX12_isO 90 = .ok (.invokevirtual 184, 3) := by decide +kernel
theorem dX12_isO_93 : decode cX12_isO 93 = .ok (.ireturn, 1) := by decide +kernel
theorem dX12_isO_94 : decode cX12_isO 94 = .ok (.aload_n 0, 1) := by decide +kernel
theorem dX12_isO_95 : decode cX12_isO 95 = .ok (.getfield 191, 3) := by decide +kernel
theorem dX12_isO_98 : decode cX12_isO 98 = .ok (.bipush 6, 2) := by decide +kernel
theorem dX12_isO_100 : decode cX12_isO 100 = .ok (.if_icmp .ne 5, 3) := by decide +kernel
theorem dX12_isO_103 : decode cX12_isO 103 = .ok (.iconst 0, 1) := by decide +kernel
theorem dX12_isO_104 : decode cX12_isO 104 = .ok (.ireturn, 1) := by decide +kernel
theorem dX12_isO_105 : decode cX12_isO 105 = .ok (.aload_n 0, 1) := by decide +kernel
theorem dX12_isO_106 : decode cX12_isO 106 = .ok (.dup, 1) := by decide +kernel
theorem dX12_isO_107 : decode cX12_isO 107 = .ok (.getfield 191, 3) := by decide +kernel
theorem dX12_isO_110 : decode cX12_isO 110 = .ok (.iconst 1, 1) := by decide +kernel
theorem dX12_isO_111 : decode cX12_isO 111 = .ok (.iadd, 1) := by decide +kernel
theorem dX12_isO_112 : decode cX12_isO 112 = .ok (.putfield 191, 3) := by decide +kernel
theorem dX12_isO_115 : decode cX12_isO 115 = .ok (.aload_n 0, 1) := by decide +kernel
theorem dX12_isO_116 : decode cX12_isO 116 = .ok (.bipush 33, 2) := by decide +kernel
theorem dX12_isO_118 : decode cX12_isO 118 = .ok (.invokevirtual 194, 3) := by decide +kernel
theorem dX12_isO_121 : decode cX12_isO 121 = .ok (.ifCond .eq 28, 3) := by decide +kernel
theorem dX12_isO_124 : decode cX12_isO 124 = .ok (.aload_n 0, 1) := by decide +kernel
theorem dX12_isO_125 : decode cX12_isO 125 = .ok (.invokevirtual 197, 3) := by decide +kernel
theorem dX12_isO_128 : decode cX12_isO 128 = .ok (.ifCond .eq 16, 3) := by decide +kernel
theorem dX12_isO_131 : decode cX12_isO 131 = .ok (.aload_n 0, 1) := by decide +kernel
theorem dX12_isO_132 : decode cX12_isO 132 = .ok (.bipush 16, 2) := by decide +kernel
theorem dX12_isO_134 : decode cX12_isO 134 = .ok (.invokevirtual 184, 3) := by decide +kernel
theorem dX12_isO_137 : decode cX12_isO 137 = .ok (.ifCond .eq 7, 3) := by decide +kernel
theorem dX12_isO_140 : decode cX12_isO 140 = .ok (.iconst 1, 1) := by decide +kernel
theorem dX12_isO_141 : decode cX12_isO 141 = .ok (.goto 4, 3) := by decide +kernel
theorem dX12_isO_144 : decode cX12_isO 144 = .ok (.iconst 0, 1) := by decide +kernel
theorem dX12_isO_145 : decode cX12_isO 145 = .ok (.istore_n 2, 1) := by decide +kernel
theorem dX12_isO_146 : decode cX12_isO 146 = .ok (.goto 68, 3) := by decide +kernel
theorem dX12_isO_149 : decode cX12_isO 149 = .ok (.aload_n 0, 1) := by decide +kernel
theorem dX12_isO_150 : decode cX12_isO 150 = .ok (.bipush 45, 2) := by decide +kernel
theorem dX12_isO_152 : decode cX12_isO 152 = .ok (.invokevirtual 194, 3) := by decide +kernel
theorem dX12_isO_155 : decode cX12_isO 155 = .ok (.ifCond .eq 28, 3) := by decide +kernel
theorem dX12_isO_158 : decode cX12_isO 158 = .ok (.aload_n 0, 1) := by decide +kernel
theorem dX12_isO_159 : decode cX12_isO 159 = .ok (.invokevirtual 197, 3) := by decide +kernel
theorem dX12_isO_162 : decode cX12_isO 162 = .ok (.ifCond .eq 16, 3) := by decide +kernel
theorem dX12_isO_165 : decode cX12_isO 165 = .ok (.aload_n 0, 1) := by decide +kernel
theorem dX12_isO_166 : decode cX12_isO 166 = .ok (.bipush 17, 2) := by decide +kernel
theorem dX12_isO_168 : decode cX12_isO 168 = .ok (.invokevirtual 184, 3) := by decide +kernel
theorem dX12_isO_171 : decode cX12_isO 171 = .ok (.ifCond .eq 7, 3) := by decide +kernel
theorem dX12_isO_174 : decode cX12_isO 174 = .ok (.iconst 1, 1) := by decide +kernel
theorem dX12_isO_175 : decode cX12_isO 175 = .ok (.goto 4, 3) := by decide +kernel
theorem dX12_isO_178 : decode cX12_isO 178 = .ok (.iconst 0, 1) := by decide +kernel
theorem dX12_isO_179 : decode cX12_isO 179 = .ok (.istore_n 2, 1) := by decide +kernel
theorem dX12_isO_180 : decode cX12_isO 180 = .ok (.goto 34, 3) := by decide +kernel
theorem dX12_isO_183 : decode cX12_isO 183 = .ok (.aload_n 0, 1) := by decide +kernel
theorem dX12_isO_184 : decode cX12_isO 184 = .ok (.bipush 40, 2) := by decide +kernel
theorem dX12_isO_186 : decode cX12_isO 186 = .ok (.invokevirtual 194, 3) := by decide +kernel
theorem dX12_isO_189 : decode cX12_isO 189 = .ok (.ifCond .eq 23, 3) := by decide +kernel
theorem dX12_isO_192 : decode cX12_isO 192 = .ok (.aload_n 0, 1) := by decide +kernel
theorem dX12_isO_193 : decode cX12_isO 193 = .ok (.invokevirtual 200, 3) := by decide +kernel
theorem dX12_isO_196 : decode cX12_isO 196 = .ok (.ifCond .eq 16, 3) := by decide +kernel
theorem dX12_isO_199 : decode cX12_isO 199 = .ok (.aload_n 0, 1) := by decide +kernel
theorem dX12_isO_200 : decode cX12_isO 200 = .ok (.bipush 41, 2) := by decide +kernel
theorem dX12_isO_202 : decode cX12_isO 202 = .ok (.invokevirtual 194, 3) := by decide +kernel
theorem dX12_isO_205 : decode cX12_isO 205 = .ok (.ifCond .eq 7, 3) := by decide +kernel
theorem dX12_isO_208 : decode cX12_isO 208 = .ok (.iconst 1, 1) := by decide +kernel
theorem dX12_isO_209 : decode cX12_isO 209 = .ok (.goto 4, 3) := by decide +kernel
theorem dX12_isO_212 : decode cX12_isO 212 = .ok (.iconst 0, 1) := by decide +kernel
theorem dX12_isO_213 : decode cX12_isO 213 = .ok (.istore_n 2, 1) := by decide +kernel
theorem dX12_isO_214 : decode cX12_isO 214 = .ok (.aload_n 0, 1) := by decide +kernel
theorem dX12_isO_215 : decode cX12_isO 215 = .ok (.dup, 1) := by decide +kernel
theorem dX12_isO_216 : decode cX12_isO 216 = .ok (.getfield 191, 3) := by decide +kernel
theorem dX12_isO_219 : decode cX12_isO 219 = .ok (.iconst 1, 1) := by decide +kernel
theorem dX12_isO_220 : decode cX12_isO 220 = .ok (.isub, 1) := by decide +kernel
theorem dX12_isO_221 : decode cX12_isO 221 = .ok (.putfield 191, 3) := by decide +kernel
theorem dX12_isO_224 : decode cX12_isO 224 = .ok (.iload_n 2, 1) := by decide +kernel
theorem dX12_isO_225 : decode cX12_isO 225 = .ok (.ireturn, 1) := by decide +kernel
theorem dX12_isP_0 : decode cX12_isP 0 = .ok (.aload_n 0, 1) := by decide +kernel
theorem dX12_isP_1 : decode cX12_isP 1 = .ok (.invokevirtual 197, 3) := by decide +kernel
theorem dX12_isP_4 : decode cX12_isP 4 = .ok (.ifCond .ne 5, 3) := by decide +kernel
theorem dX12_isP_7 : decode cX12_isP 7 = .ok (.iconst 0, 1) := by decide +kernel
theorem dX12_isP_8 : decode cX12_isP 8 = .ok (.ireturn, 1) := by decide +kernel
theorem dX12_isP_9 : decode cX12_isP 9 = .ok (.aload_n 0, 1) := by decide +kernel
theorem dX12_isP_10 : decode cX12_isP 10 = .ok (.invokevirtual 173, 3) := by decide +kernel
theorem dX12_isP_13 : decode cX12_isP 13 = .ok (.bipush 42, 2) := by decide +kernel
theorem dX12_isP_15 : decode cX12_isP 15 = .ok (.if_icmp .ne 8, 3) := by decide +kernel
theorem dX12_isP_18 : decode cX12_isP 18 = .ok (.bipush 13, 2) := by decide +kernel
theorem dX12_isP_20 : decode cX12_isP 20 = .ok (.goto 32, 3) := by decide +kernel
theorem dX12_isP_23 : decode cX12_isP 23 = .ok (.aload_n 0, 1) := by decide +kernel
theorem dX12_isP_24 : decode cX12_isP 24 = .ok (.invokevirtual 173, 3) := by decide +kernel
theorem dX12_isP_27 : decode cX12_isP 27 = .ok (.bipush 47, 2) := by decide +kernel
theorem dX12_isP_29 : decode cX12_isP 29 = .ok (.if_icmp .ne 8, 3) := by decide +kernel
theorem dX12_isP_32 : decode cX12_isP 32 = .ok (.bipush 14, 2) := by decide +kernel
theorem dX12_isP_34 : decode cX12_isP 34 = .ok (.goto 18, 3) := by decide +kernel
theorem dX12_isP_37 : decode cX12_isP 37 = .ok (.aload_n 0, 1) := by decide +kernel
theorem dX12_isP_38 : decode cX12_isP 38 = .ok (.invokevirtual 173, 3) := by decide +kernel
theorem dX12_isP_41 : decode cX12_isP 41 = .ok (.bipush 37, 2) := by decide +kernel
theorem dX12_isP_43 : decode cX12_isP 43 = .ok (.if_icmp .ne 8, 3) := by decide +kernel
theorem dX12_isP_46 : decode cX12_isP 46 = .ok (.bipush 15, 2) := by decide +kernel
theorem dX12_isP_48 : decode cX12_isP 48 = .ok (.goto 4, 3) := by decide +kernel
theorem dX12_isP_51 : decode cX12_isP 51 = .ok (.iconst (-1), 1) := by decide +kernel
theorem dX12_isP_52 : decode cX12_isP 52 = .ok (.istore_n 1, 1) := by decide +kernel
theorem dX12_isP_53 : decode cX12_isP 53 = .ok (.iload_n 1, 1) := by decide +kernel
theorem dX12_isP_54 : decode cX12_isP 54 = .ok (.ifCond .ge 5, 3) := by decide +kernel
theorem dX12_isP_57 : decode cX12_isP 57 = .ok (.iconst 1, 1) := by decide +kernel
theorem dX12_isP_58 : decode cX12_isP 58 = .ok (.ireturn, 1) := by decide +kernel
theorem dX12_isP_59 : decode cX12_isP 59 = .ok (.aload_n 0, 1) := by decide +kernel
theorem dX12_isP_60 : decode cX12_isP 60 = .ok (.dup, 1) := by decide +kernel
theorem dX12_isP_61 : decode cX12_isP 61 = .ok (.getfield 170, 3) := by decide +kernel
theorem dX12_isP_64 : decode cX12_isP 64 = .ok (.iconst 1, 1) := by decide +kernel
theorem dX12_isP_65 : decode cX12_isP 65 = .ok (.iadd, 1) := by decide +kernel
theorem dX12_isP_66 : decode cX12_isP 66 = .ok (.putfield 170, 3) := by decide +kernel
theorem dX12_isP_69 : decode cX12_isP 69 = .ok (.aload_n 0, 1) := by decide +kernel
theorem dX12_isP_70 : decode cX12_isP 70 = .ok (.invokevirtual 197, 3) := by decide +kernel
theorem dX12_isP_73 : decode cX12_isP 73 = .ok (.ifCond .ne 5, 3) := by decide +kernel
theorem dX12_isP_76 : decode cX12_isP 76 = .ok (.iconst 0, 1) := by decide +kernel
theorem dX12_isP_77 : decode cX12_isP 77 = .ok (.ireturn, 1) := by decide +kernel
theorem dX12_isP_78 : decode cX12_isP 78 = .ok (.aload_n 0, 1) := by decide +kernel
theorem dX12_isP_79 : decode cX12_isP 79 = .ok (.iload_n 1, 1) := by decide +kernel
theorem dX12_isP_80 : decode cX12_isP 80 = .ok (.invokevirtual 184, 3) := by decide +kernel
theorem dX12_isP_83 : decode cX12_isP 83 = .ok (.pop, 1) := by decide +kernel
theorem dX12_isP_84 : decode cX12_isP 84 = .ok (.goto (-75), 3) := by decide +kernel
theorem dX12_isS_0 : decode cX12_isS 0 = .ok (.aload_n 0, 1) := by decide +kernel
theorem dX12_isS_1 : decode cX12_isS 1 = .ok (.invokevirtual 203, 3) := by decide +kernel
theorem dX12_isS_4 : decode cX12_isS 4 = .ok (.ifCond .ne 5, 3) := by decide +kernel
theorem dX12_isS_7 : decode cX12_isS 7 = .ok (.iconst 0, 1) := by decide +kernel
theorem dX12_isS_8 : decode cX12_isS 8 = .ok (.ireturn, 1) := by decide +kernel
theorem dX12_isS_9 : decode cX12_isS 9 = .ok (.aload_n 0, 1) := by decide +kernel
theorem dX12_isS_10 : decode cX12_isS 10 = .ok (.invokevirtual 173, 3) := by decide +kernel
theorem dX12_isS_13 : decode cX12_isS 13 = .ok (.bipush 43, 2) := by decide +kernel
theorem dX12_isS_15 : decode cX12_isS 15 = .ok (.if_icmp .ne 8, 3) := by decide +kernel
theorem dX12_isS_18 : decode cX12_isS 18 = .ok (.bipush 11, 2) := by decide +kernel
theorem dX12_isS_20 : decode cX12_isS 20 = .ok (.goto 18, 3) := by decide +kernel
theorem dX12_isS_23 : decode cX12_isS 23 = .ok (.aload_n 0, 1) := by decide +kernel
theorem dX12_isS_24 : decode cX12_isS 24 = .ok (.invokevirtual 173, 3) := by decide +kernel
theorem dX12_isS_27 : decode cX12_isS 27 = .ok (.bipush 45, 2) := by decide +kernel
theorem dX12_isS_29 : decode cX12_isS 29 = .ok (.if_icmp .ne 8, 3) := by decide +kernel
theorem dX12_isS_32 : decode cX12_isS 32 = .ok (.bipush 12, 2) := by decide +kernel
theorem dX12_isS_34 : decode cX12_isS 34 = .ok (.goto 4, 3) := by decide +kernel
theorem dX12_isS_37 : decode cX12_isS 37 = .ok (.iconst (-1), 1) := by decide +kernel
theorem dX12_isS_38 : decode cX12_isS 38 = .ok (.istore_n 1, 1) := by decide +kernel
theorem dX12_isS_39 : decode cX12_isS 39 = .ok (.iload_n 1, 1) := by decide +kernel
theorem dX12_isS_40 : decode cX12_isS 40 = .ok (.ifCond .ge 5, 3) := by decide +kernel
theorem dX12_isS_43 : decode cX12_isS 43 = .ok (.iconst 1, 1) := by decide +kernel
theorem dX12_isS_44 : decode cX12_isS 44 = .ok (.ireturn, 1) := by decide +kernel
theorem dX12_isS_45 : decode cX12_isS 45 = .ok (.aload_n 0, 1) := by decide +kernel
theorem dX12_isS_46 : decode cX12_isS 46 = .ok (.dup, 1) := by decide +kernel
theorem dX12_isS_47 : decode cX12_isS 47 = .ok (.getfield 170, 3) := by decide +kernel
theorem dX12_isS_50 : decode cX12_isS 50 = .ok (.iconst 1, 1) := by decide +kernel
theorem dX12_isS_51 : decode cX12_isS 51 = .ok (.iadd, 1) := by decide +kernel
theorem dX12_isS_52 : decode cX12_isS 52 = .ok (.putfield 170, 3) := by decide +kernel
theorem dX12_isS_55 : decode cX12_isS 55 = .ok (.aload_n 0, 1) := by decide +kernel
theorem dX12_isS_56 : decode cX12_isS 56 = .ok (.invokevirtual 203, 3) := by decide +kernel
theorem dX12_isS_59 : decode cX12_isS 59 = .ok (.ifCond .ne 5, 3) := by decide +kernel
theorem dX12_isS_62 : decode cX12_isS 62 = .ok (.iconst 0, 1) := by decide +kernel
theorem dX12_isS_63 : decode cX12_isS 63 = .ok (.ireturn, 1) := by decide +kernel
theorem dX12_isS_64 : decode cX12_isS 64 = .ok (.aload_n 0, 1) := by decide +kernel
theorem dX12_isS_65 : decode cX12_isS 65 = .ok (.iload_n 1, 1) := by decide +kernel
theorem dX12_isS_66 : decode cX12_isS 66 = .ok (.invokevirtual 184, 3) := by decide +kernel
theorem dX12_isS_69 : decode cX12_isS 69 = .ok (.pop, 1) := by decide +kernel
theorem dX12_isS_70 : decode cX12_isS 70 = .ok (.goto (-61), 3) := by decide +kernel
theorem dX12_isB_0 : decode cX12_isB 0 = .ok (.aload_n 0, 1) := by decide +kernel
theorem dX12_isB_1 : decode cX12_isB 1 = .ok (.invokevirtual 206, 3) := by decide +kernel
theorem dX12_isB_4 : decode cX12_isB 4 = .ok (.ifCond .ne 5, 3) := by decide +kernel
theorem dX12_isB_7 : decode cX12_isB 7 = .ok (.iconst 0, 1) := by decide +kernel
theorem dX12_isB_8 : decode cX12_isB 8 = .ok (.ireturn, 1) := by decide +kernel
theorem dX12_isB_9 : decode cX12_isB 9 = .ok (.aload_n 0, 1) := by decide +kernel
theorem dX12_isB_10 : decode cX12_isB 10 = .ok (.invokevirtual 173, 3) := by decide +kernel
theorem dX12_isB_13 : decode cX12_isB 13 = .ok (.bipush 60, 2) := by decide +kernel
theorem dX12_isB_15 : decode cX12_isB 15 = .ok (.if_icmp .ne 8, 3) := by decide +kernel
theorem dX12_isB_18 : decode cX12_isB 18 = .ok (.bipush 8, 2) := by decide +kernel
theorem dX12_isB_20 : decode cX12_isB 20 = .ok (.goto 32, 3) := by decide +kernel
theorem dX12_isB_23 : decode cX12_isB 23 = .ok (.aload_n 0, 1) := by decide +kernel
theorem dX12_isB_24 : decode cX12_isB 24 = .ok (.invokevirtual 173, 3) := by decide +kernel
theorem dX12_isB_27 : decode cX12_isB 27 = .ok (.bipush 61, 2) := by decide +kernel
theorem dX12_isB_29 : decode cX12_isB 29 = .ok (.if_icmp .ne 8, 3) := by decide +kernel
theorem dX12_isB_32 : decode cX12_isB 32 = .ok (.bipush 9, 2) := by decide +kernel
theorem dX12_isB_34 : decode cX12_isB 34 = .ok (.goto 18, 3) := by decide +kernel
theorem dX12_isB_37 : decode cX12_isB 37 = .ok (.aload_n 0, 1) := by decide +kernel
theorem dX12_isB_38 : decode cX12_isB 38 = .ok (.invokevirtual 173, 3) := by decide +kernel
theorem dX12_isB_41 : decode cX12_isB 41 = .ok (.bipush 62, 2) := by decide +kernel
theorem dX12_isB_43 : decode cX12_isB 43 = .ok (.if_icmp .ne 8, 3) := by decide +kernel
theorem dX12_isB_46 : decode cX12_isB 46 = .ok (.bipush 10, 2) := by decide +kernel
theorem dX12_isB_48 : decode cX12_isB 48 = .ok (.goto 4, 3) := by decide +kernel
theorem dX12_isB_51 : decode cX12_isB 51 = .ok (.iconst (-1), 1) := by decide +kernel
theorem dX12_isB_52 : decode cX12_isB 52 = .ok (.istore_n 1, 1) := by decide +kernel
theorem dX12_isB_53 : decode cX12_isB 53 = .ok (.iload_n 1, 1) := by decide +kernel
theorem dX12_isB_54 : decode cX12_isB 54 = .ok (.ifCond .ge 5, 3) := by decide +kernel
theorem dX12_isB_57 : decode cX12_isB 57 = .ok (.iconst 1, 1) := by decide +kernel
theorem dX12_isB_58 : decode cX12_isB 58 = .ok (.ireturn, 1) := by decide +kernel
theorem dX12_isB_59 : decode cX12_isB 59 = .ok (.aload_n 0, 1) := by decide +kernel
theorem dX12_isB_60 : decode cX12_isB 60 = .ok (.dup, 1) := by decide +kernel
theorem dX12_isB_61 : decode cX12_isB 61 = .ok (.getfield 170, 3) := by decide +kernel
theorem dX12_isB_64 : decode cX12_isB 64 = .ok (.iconst 1, 1) := by decide +kernel
theorem dX12_isB_65 : decode cX12_isB 65 = .ok (.iadd, 1) := by decide +kernel
theorem dX12_isB_66 : decode cX12_isB 66 = .ok (.putfield 170, 3) := by decide +kernel
theorem dX12_isB_69 : decode cX12_isB 69 = .ok (.aload_n 0, 1) := by decide +kernel
theorem dX12_isB_70 : decode cX12_isB 70 = .ok (.invokevirtual 206, 3) := by decide +kernel
theorem dX12_isB_73 : decode cX12_isB 73 = .ok (.ifCond .eq 15, 3) := by decide +kernel
theorem dX12_isB_76 : decode cX12_isB 76 = .ok (.aload_n 0, 1) := by decide +kernel
theorem dX12_isB_77 : decode cX12_isB 77 = .ok (.iload_n 1, 1) := by decide +kernel
theorem dX12_isB_78 : decode cX12_isB 78 = .ok (.invokevirtual 184, 3) := by decide +kernel
theorem dX12_isB_81 : decode cX12_isB 81 = .ok (.ifCond .eq 7, 3) := by decide +kernel
theorem dX12_isB_84 : decode cX12_isB 84 = .ok (.iconst 1, 1) := by decide +kernel
theorem dX12_isB_85 : decode cX12_isB 85 = .ok (.goto 4, 3) := by decide +kernel
theorem dX12_isB_88 : decode cX12_isB 88 = .ok (.iconst 0, 1) := by decide +kernel
theorem dX12_isB_89 : decode cX12_isB 89 = .ok (.ireturn, 1) := by decide +kernel
theorem dX12_isA_0 : decode cX12_isA 0 = .ok (.aload_n 0, 1) := by decide +kernel
theorem dX12_isA_1 : decode cX12_isA 1 = .ok (.invokevirtual 209, 3) := by decide +kernel
theorem dX12_isA_4 : decode cX12_isA 4 = .ok (.ifCond .ne 5, 3) := by decide +kernel
theorem dX12_isA_7 : decode cX12_isA 7 = .ok (.iconst 0, 1) := by decide +kernel
theorem dX12_isA_8 : decode cX12_isA 8 = .ok (.ireturn, 1) := by decide +kernel
theorem dX12_isA_9 : decode cX12_isA 9 = .ok (.aload_n 0, 1) := by decide +kernel
theorem dX12_isA_10 : decode cX12_isA 10 = .ok (.bipush 38, 2) := by decide +kernel
theorem dX12_isA_12 : decode cX12_isA 12 = .ok (.invokevirtual 194, 3) := by decide +kernel
theorem dX12_isA_15 : decode cX12_isA 15 = .ok (.ifCond .eq 22, 3) := by decide +kernel
theorem dX12_isA_18 : decode cX12_isA 18 = .ok (.aload_n 0, 1) := by decide +kernel
theorem dX12_isA_19 : decode cX12_isA 19 = .ok (.invokevirtual 209, 3) := by decide +kernel
theorem dX12_isA_22 : decode cX12_isA 22 = .ok (.ifCond .ne 5, 3) := by decide +kernel
theorem dX12_isA_25 : decode cX12_isA 25 = .ok (.iconst 0, 1) := by decide +kernel
theorem dX12_isA_26 : decode cX12_isA 26 = .ok (.ireturn, 1) := by decide +kernel
theorem dX12_isA_27 : decode cX12_isA 27 = .ok (.aload_n 0, 1) := by decide +kernel
theorem dX12_isA_28 : decode cX12_isA 28 = .ok (.bipush 7, 2) := by decide +kernel
theorem dX12_isA_30 : decode cX12_isA 30 = .ok (.invokevirtual 184, 3) := by decide +kernel
theorem dX12_isA_33 : decode cX12_isA 33 = .ok (.pop, 1) := by decide +kernel
theorem dX12_isA_34 : decode cX12_isA 34 = .ok (.goto (-25), 3) := by decide +kernel
theorem dX12_isA_37 : decode cX12_isA 37 = .ok (.iconst 1, 1) := by decide +kernel
theorem dX12_isA_38 : decode cX12_isA 38 = .ok (.ireturn, 1) := by decide +kernel
theorem dX12_isE_0 : decode cX12_isE 0 = .ok (.aload_n 0, 1) := by decide +kernel
theorem dX12_isE_1 : decode cX12_isE 1 = .ok (.invokevirtual 212, 3) := by decide +kernel
theorem dX12_isE_4 : decode cX12_isE 4 = .ok (.ifCond .ne 5, 3) := by decide +kernel
theorem dX12_isE_7 : decode cX12_isE 7 = .ok (.iconst 0, 1) := by decide +kernel
theorem dX12_isE_8 : decode cX12_isE 8 = .ok (.ireturn, 1) := by decide +kernel
theorem dX12_isE_9 : decode cX12_isE 9 = .ok (.aload_n 0, 1) := by decide +kernel
theorem dX12_isE_10 : decode cX12_isE 10 = .ok (.bipush 124, 2) := by decide +kernel
theorem dX12_isE_12 : decode cX12_isE 12 = .ok (.invokevirtual 194, 3) := by decide +kernel
theorem dX12_isE_15 : decode cX12_isE 15 = .ok (.ifCond .eq 22, 3) := by decide +kernel
theorem dX12_isE_18 : decode cX12_isE 18 = .ok (.aload_n 0, 1) := by decide +kernel
theorem dX12_isE_19 : decode cX12_isE 19 = .ok (.invokevirtual 212, 3) := by decide +kernel
theorem dX12_isE_22 : decode cX12_isE 22 = .ok (.ifCond .ne 5, 3) := by decide +kernel
theorem dX12_isE_25 : decode cX12_isE 25 = .ok (.iconst 0, 1) := by decide +kernel
theorem dX12_isE_26 : decode cX12_isE 26 = .ok (.ireturn, 1) := by decide +kernel
theorem dX12_isE_27 : decode cX12_isE 27 = .ok (.aload_n 0, 1) := by decide +kernel
theorem dX12_isE_28 : decode cX12_isE 28 = .ok (.bipush 6, 2) := by decide +kernel
theorem dX12_isE_30 : decode cX12_isE 30 = .ok (.invokevirtual 184, 3) := by decide +kernel
theorem dX12_isE_33 : decode cX12_isE 33 = .ok (.pop, 1) := by decide +kernel
theorem dX12_isE_34 : decode cX12_isE 34 = .ok (.goto (-25), 3) := by decide +kernel
theorem dX12_isE_37 : decode cX12_isE 37 = .ok (.iconst 1, 1) := by decide +kernel
theorem dX12_isE_38 : decode cX12_isE 38 = .ok (.ireturn, 1) := by decide +kernel
theorem dX12_isLine_0 : decode cX12_isLine 0 = .ok (.aload_n 0, 1) := by decide +kernel
theorem dX12_isLine_1 : decode cX12_isLine 1 = .ok (.getfield 54, 3) := by decide +kernel
theorem dX12_isLine_4 : decode cX12_isLine 4 = .ok (.aload_n 0, 1) := by decide +kernel
theorem dX12_isLine_5 : decode cX12_isLine 5 = .ok (.getfield 215, 3) := by decide +kernel
theorem dX12_isLine_8 : decode cX12_isLine 8 = .ok (.aload_n 0, 1) := by decide +kernel
theorem dX12_isLine_9 : decode cX12_isLine 9 = .ok (.getfield 177, 3) := by decide +kernel
theorem dX12_isLine_12 : decode cX12_isLine 12 = .ok (.iastore, 1) := by decide +kernel
theorem dX12_isLine_13 : decode cX12_isLine 13 = .ok (.aload_n 0, 1) := by decide +kernel
theorem dX12_isLine_14 : decode cX12_isLine 14 = .ok (.invokevirtual 200, 3) := by decide +kernel
theorem dX12_isLine_17 : decode cX12_isLine 17 = .ok (.ifCond .ne 5, 3) := by decide +kernel
theorem dX12_isLine_20 : decode cX12_isLine 20 = .ok (.iconst 0, 1) := by decide +kernel
theorem dX12_isLine_21 : decode cX12_isLine 21 = .ok (.ireturn, 1) := by decide +kernel
theorem dX12_isLine_22 : decode cX12_isLine 22 = .ok (.aload_n 0, 1) := by decide +kernel
theorem dX12_isLine_23 : decode cX12_isLine 23 = .ok (.getfield 57, 3) := by decide +kernel
theorem dX12_isLine_26 : decode cX12_isLine 26 = .ok (.aload_n 0, 1) := by decide +kernel
theorem dX12_isLine_27 : decode cX12_isLine 27 = .ok (.getfield 215, 3) := by decide +kernel
theorem dX12_isLine_30 : decode cX12_isLine 30 = .ok (.aload_n 0, 1) := by decide +kernel
theorem dX12_isLine_31 : decode cX12_isLine 31 = .ok (.getfield 54, 3) := by decide +kernel
theorem dX12_isLine_34 : decode cX12_isLine 34 = .ok (.aload_n 0, 1) := by decide +kernel
theorem dX12_isLine_35 : decode cX12_isLine 35 = .ok (.getfield 215, 3) := by decide +kernel
theorem dX12_isLine_38 : decode cX12_isLine 38 = .ok (.iaload, 1) := by decide +kernel
theorem dX12_isLine_39 : decode cX12_isLine 39 = .ok (.iastore, 1) := by decide +kernel
theorem dX12_isLine_40 : decode cX12_isLine 40 = .ok (.aload_n 0, 1) := by decide +kernel
theorem dX12_isLine_41 : decode cX12_isLine 41 = .ok (.bipush 63, 2) := by decide +kernel
theorem dX12_isLine_43 : decode cX12_isLine 43 = .ok (.invokevirtual 194, 3) := by decide +kernel
theorem dX12_isLine_46 : decode cX12_isLine 46 = .ok (.ifCond .eq 25, 3) := by decide +kernel
theorem dX12_isLine_49 : decode cX12_isLine 49 = .ok (.aload_n 0, 1) := by decide +kernel
theorem dX12_isLine_50 : decode cX12_isLine 50 = .ok (.getfield 57, 3) := by decide +kernel
theorem dX12_isLine_53 : decode cX12_isLine 53 = .ok (.aload_n 0, 1) := by decide +kernel
theorem dX12_isLine_54 : decode cX12_isLine 54 = .ok (.getfield 215, 3) := by decide +kernel
theorem dX12_isLine_57 : decode cX12_isLine 57 = .ok (.aload_n 0, 1) := by decide +kernel
theorem dX12_isLine_58 : decode cX12_isLine 58 = .ok (.getfield 177, 3) := by decide +kernel
theorem dX12_isLine_61 : decode cX12_isLine 61 = .ok (.iastore, 1) := by decide +kernel
theorem dX12_isLine_62 : decode cX12_isLine 62 = .ok (.aload_n 0, 1) := by decide +kernel
theorem dX12_isLine_63 : decode cX12_isLine 63 = .ok (.invokevirtual 200, 3) := by decide +kernel
theorem dX12_isLine_66 : decode cX12_isLine 66 = .ok (.ifCond .ne 5, 3) := by decide +kernel
theorem dX12_isLine_69 : decode cX12_isLine 69 = .ok (.iconst 0, 1) := by decide +kernel
theorem dX12_isLine_70 : decode cX12_isLine 70 = .ok (.ireturn, 1) := by decide +kernel
theorem dX12_isLine_71 : decode cX12_isLine 71 = .ok (.aload_n 0, 1) := by decide +kernel
theorem dX12_isLine_72 : decode cX12_isLine 72 = .ok (.getfield 60, 3) := by decide +kernel
theorem dX12_isLine_75 : decode cX12_isLine 75 = .ok (.aload_n 0, 1) := by decide +kernel
theorem dX12_isLine_76 : decode cX12_isLine 76 = .ok (.dup, 1) := by decide +kernel
theorem dX12_isLine_77 : decode cX12_isLine 77 = .ok (.getfield 215, 3) := by decide +kernel
theorem dX12_isLine_80 : decode cX12_isLine 80 = .ok (.dup_x1, 1) := by decide +kernel
theorem dX12_isLine_81 : decode cX12_isLine 81 = .ok (.iconst 1, 1) := by decide +kernel
theorem dX12_isLine_82 : decode cX12_isLine 82 = .ok (.iadd, 1) := by decide +kernel
theorem dX12_isLine_83 : decode cX12_isLine 83 = .ok (.putfield 215, 3) := by decide +kernel
theorem dX12_isLine_86 : decode cX12_isLine 86 = .ok (.aload_n 0, 1) := by decide +kernel
theorem dX12_isLine_87 : decode cX12_isLine 87 = .ok (.getfield 177, 3) := by decide +kernel
theorem dX12_isLine_90 : decode cX12_isLine 90 = .ok (.iastore, 1) := by decide +kernel
theorem dX12_isLine_91 : decode cX12_isLine 91 = .ok (.iconst 1, 1) := by decide +kernel
theorem dX12_isLine_92 : decode cX12_isLine 92 = .ok (.ireturn, 1) := by decide +kernel
theorem dX12_law_0 : decode cX12_law 0 = .ok (.aload_n 0, 1) := by decide +kernel
theorem dX12_law_1 : decode cX12_law 1 = .ok (.iconst 0, 1) := by decide +kernel
theorem dX12_law_2 : decode cX12_law 2 = .ok (.putfield 170, 3) := by decide +kernel
theorem dX12_law_5 : decode cX12_law 5 = .ok (.aload_n 0, 1) := by decide +kernel
theorem dX12_law_6 : decode cX12_law 6 = .ok (.iconst 0, 1) := by decide +kernel
theorem dX12_law_7 : decode cX12_law 7 = .ok (.putfield 191, 3) := by decide +kernel
theorem dX12_law_10 : decode cX12_law 10 = .ok (.aload_n 0, 1) := by decide +kernel
theorem dX12_law_11 : decode cX12_law 11 = .ok (.iconst 0, 1) := by decide +kernel
theorem dX12_law_12 : decode cX12_law 12 = .ok (.putfield 177, 3) := by decide +kernel
theorem dX12_law_15 : decode cX12_law 15 = .ok (.aload_n 0, 1) := by decide +kernel
theorem dX12_law_16 : decode cX12_law 16 = .ok (.iconst 0, 1) := by decide +kernel
theorem dX12_law_17 : decode cX12_law 17 = .ok (.putfield 215, 3) := by decide +kernel
theorem dX12_law_20 : decode cX12_law 20 = .ok (.aload_n 0, 1) := by decide +kernel
theorem dX12_law_21 : decode cX12_law 21 = .ok (.invokevirtual 218, 3) := by decide +kernel
theorem dX12_law_24 : decode cX12_law 24 = .ok (.istore_n 1, 1) := by decide +kernel
theorem dX12_law_25 : decode cX12_law 25 = .ok (.iload_n 1, 1) := by decide +kernel
theorem dX12_law_26 : decode cX12_law 26 = .ok (.ifCond .eq 20, 3) := by decide +kernel
theorem dX12_law_29 : decode cX12_law 29 = .ok (.aload_n 0, 1) := by decide +kernel
theorem dX12_law_30 : decode cX12_law 30 = .ok (.bipush 59, 2) := by decide +kernel
theorem dX12_law_32 : decode cX12_law 32 = .ok (.invokevirtual 194, 3) := by decide +kernel
theorem dX12_law_35 : decode cX12_law 35 = .ok (.ifCond .eq 11, 3) := by decide +kernel
theorem dX12_law_38 : decode cX12_law 38 = .ok (.aload_n 0, 1) := by decide +kernel
theorem dX12_law_39 : decode cX12_law 39 = .ok (.invokevirtual 218, 3) := by decide +kernel
theorem dX12_law_42 : decode cX12_law 42 = .ok (.istore_n 1, 1) := by decide +kernel
theorem dX12_law_43 : decode cX12_law 43 = .ok (.goto (-18), 3) := by decide +kernel
theorem dX12_law_46 : decode cX12_law 46 = .ok (.iload_n 1, 1) := by decide +kernel
theorem dX12_law_47 : decode cX12_law 47 = .ok (.ifCond .eq 18, 3) := by decide +kernel
theorem dX12_law_50 : decode cX12_law 50 = .ok (.aload_n 0, 1) := by decide +kernel
theorem dX12_law_51 : decode cX12_law 51 = .ok (.getfield 170, 3) := by decide +kernel
theorem dX12_law_54 : decode cX12_law 54 = .ok (.aload_n 0, 1) := by decide +kernel
theorem dX12_law_55 : decode cX12_law 55 = .ok (.getfield 167, 3) := by decide +kernel
theorem dX12_law_58 : decode cX12_law 58 = .ok (.if_icmp .ne 7, 3) := by decide +kernel
theorem dX12_law_61 : decode cX12_law 61 = .ok (.iconst 1, 1) := by decide +kernel
theorem dX12_law_62 : decode cX12_law 62 = .ok (.goto 4, 3) := by decide +kernel
theorem dX12_law_65 : decode cX12_law 65 = .ok (.iconst 0, 1) := by decide +kernel
theorem dX12_law_66 : decode cX12_law 66 = .ok (.istore_n 2, 1) := by decide +kernel
theorem dX12_law_67 : decode cX12_law 67 = .ok (.aload_n 0, 1) := by decide +kernel
theorem dX12_law_68 : decode cX12_law 68 = .ok (.iconst 0, 1) := by decide +kernel
theorem dX12_law_69 : decode cX12_law 69 = .ok (.putfield 167, 3) := by decide +kernel
theorem dX12_law_72 : decode cX12_law 72 = .ok (.iload_n 2, 1) := by decide +kernel
theorem dX12_law_73 : decode cX12_law 73 = .ok (.ifCond .ne 11, 3) := by decide +kernel
theorem dX12_law_76 : decode cX12_law 76 = .ok (.bipush (-100), 2) := by decide +kernel
theorem dX12_law_78 : decode cX12_law 78 = .ok (.aload_n 0, 1) := by decide +kernel
theorem dX12_law_79 : decode cX12_law 79 = .ok (.getfield 170, 3) := by decide +kernel
theorem dX12_law_82 : decode cX12_law 82 = .ok (.isub, 1) := by decide +kernel
theorem dX12_law_83 : decode cX12_law 83 = .ok (.ireturn, 1) := by decide +kernel
theorem dX12_law_84 : decode cX12_law 84 = .ok (.aload_n 0, 1) := by decide +kernel
theorem dX12_law_85 : decode cX12_law 85 = .ok (.iconst 1, 1) := by decide +kernel
theorem dX12_law_86 : decode cX12_law 86 = .ok (.putfield 221, 3) := by decide +kernel
theorem dX12_law_89 : decode cX12_law 89 = .ok (.aload_n 0, 1) := by decide +kernel
theorem dX12_law_90 : decode cX12_law 90 = .ok (.aload_n 0, 1) := by decide +kernel
theorem dX12_law_91 : decode cX12_law 91 = .ok (.getfield 215, 3) := by decide +kernel
theorem dX12_law_94 : decode cX12_law 94 = .ok (.putfield 225, 3) := by decide +kernel
theorem dX12_law_97 : decode cX12_law 97 = .ok (.iconst 0, 1) := by decide +kernel
theorem dX12_law_98 : decode cX12_law 98 = .ok (.istore_n 3, 1) := by decide +kernel
theorem dX12_law_99 : decode cX12_law 99 = .ok (.iload_n 3, 1) := by decide +kernel
theorem dX12_law_100 : decode cX12_law 100 = .ok (.aload_n 0, 1) := by decide +kernel
theorem dX12_law_101 : decode cX12_law 101 = .ok (.getfield 225, 3) := by decide +kernel
theorem dX12_law_104 : decode cX12_law 104 = .ok (.if_icmp .ge 45, 3) := by decide +kernel
theorem dX12_law_107 : decode cX12_law 107 = .ok (.aload_n 0, 1) := by decide +kernel
theorem dX12_law_108 : decode cX12_law 108 = .ok (.getfield 42, 3) := by decide +kernel
theorem dX12_law_111 : decode cX12_law 111 = .ok (.iload_n 3, 1) := by decide +kernel
theorem dX12_law_112 : decode cX12_law 112 = .ok (.aload_n 0, 1) := by decide +kernel
theorem dX12_law_113 : decode cX12_law 113 = .ok (.getfield 54, 3) := by decide +kernel
theorem dX12_law_116 : decode cX12_law 116 = .ok (.iload_n 3, 1) := by decide +kernel
theorem dX12_law_117 : decode cX12_law 117 = .ok (.iaload, 1) := by decide +kernel
theorem dX12_law_118 : decode cX12_law 118 = .ok (.iastore, 1) := by decide +kernel
theorem dX12_law_119 : decode cX12_law 119 = .ok (.aload_n 0, 1) := by decide +kernel
theorem dX12_law_120 : decode cX12_law 120 = .ok (.getfield 45, 3) := by decide +kernel
theorem dX12_law_123 : decode cX12_law 123 = .ok (.iload_n 3, 1) := by decide +kernel
theorem dX12_law_124 : decode cX12_law 124 = .ok (.aload_n 0, 1) := by decide +kernel
theorem dX12_law_125 : decode cX12_law 125 = .ok (.getfield 57, 3) := by decide +kernel
theorem dX12_law_128 : decode cX12_law 128 = .ok (.iload_n 3, 1) := by decide +kernel
theorem dX12_law_129 : decode cX12_law 129 = .ok (.iaload, 1) := by decide +kernel
theorem dX12_law_130 : decode cX12_law 130 = .ok (.iastore, 1) := by decide +kernel
theorem dX12_law_131 : decode cX12_law 131 = .ok (.aload_n 0, 1) := by decide +kernel
theorem dX12_law_132 : decode cX12_law 132 = .ok (.getfield 48, 3) := by decide +kernel
theorem dX12_law_135 : decode cX12_law 135 = .ok (.iload_n 3, 1) := by decide +kernel
theorem dX12_law_136 : decode cX12_law 136 = .ok (.aload_n 0, 1) := by decide +kernel
theorem dX12_law_137 : decode cX12_law 137 = .ok (.getfield 60, 3) := by decide +kernel
theorem dX12_law_140 : decode cX12_law 140 = .ok (.iload_n 3, 1) := by decide +kernel
theorem dX12_law_141 : decode cX12_law 141 = .ok (.iaload, 1) := by decide +kernel
theorem dX12_law_142 : decode cX12_law 142 = .ok (.iastore, 1) := by decide +kernel
theorem dX12_law_143 : decode cX12_law 143 = .ok (.iinc 3 1, 3) := by decide +kernel
theorem dX12_law_146 : decode cX12_law 146 = .ok (.goto (-47), 3) := by decide +kernel
theorem dX12_law_149 : decode cX12_law 149 = .ok (.iconst 0, 1) := by decide +kernel
theorem dX12_law_150 : decode cX12_law 150 = .ok (.istore_n 3, 1) := by decide +kernel
theorem dX12_law_151 : decode cX12_law 151 = .ok (.iload_n 3, 1) := by decide +kernel
theorem dX12_law_152 : decode cX12_law 152 = .ok (.aload_n 0, 1) := by decide +kernel
theorem dX12_law_153 : decode cX12_law 153 = .ok (.getfield 177, 3) := by decide +kernel
theorem dX12_law_156 : decode cX12_law 156 = .ok (.if_icmp .ge 21, 3) := by decide +kernel
theorem dX12_law_159 : decode cX12_law 159 = .ok (.aload_n 0, 1) := by decide +kernel
theorem dX12_law_160 : decode cX12_law 160 = .ok (.getfield 51, 3) := by decide +kernel
theorem dX12_law_163 : decode cX12_law 163 = .ok (.iload_n 3, 1) := by decide +kernel
theorem dX12_law_164 : decode cX12_law 164 = .ok (.aload_n 0, 1) := by decide +kernel
theorem dX12_law_165 : decode cX12_law 165 = .ok (.getfield 63, 3) := by decide +kernel
theorem dX12_law_168 : decode cX12_law 168 = .ok (.iload_n 3, 1) := by decide +kernel
theorem dX12_law_169 : decode cX12_law 169 = .ok (.iaload, 1) := by decide +kernel
theorem dX12_law_170 : decode cX12_law 170 = .ok (.iastore, 1) := by decide +kernel
theorem dX12_law_171 : decode cX12_law 171 = .ok (.iinc 3 1, 3) := by decide +kernel
theorem dX12_law_174 : decode cX12_law 174 = .ok (.goto (-23), 3) := by decide +kernel
theorem dX12_law_177 : decode cX12_law 177 = .ok (.iconst 1, 1) := by decide +kernel
theorem dX12_law_178 : decode cX12_law 178 = .ok (.ireturn, 1) := by decide +kernel
theorem dX12_both_0 : decode cX12_both 0 = .ok (.iload_n 0, 1) := by decide +kernel
theorem dX12_both_1 : decode cX12_both 1 = .ok (.tableswitch 136 6 14 #[51, 65, 79, 90, 101, 112, 116, 120, 124], 51) := by decide +kernel
theorem dX12_both_52 : decode cX12_both 52 = .ok (.iload_n 1, 1) := by decide +kernel
theorem dX12_both_53 : decode cX12_both 53 = .ok (.ifCond .ne 7, 3) := by decide +kernel
theorem dX12_both_56 : decode cX12_both 56 = .ok (.iload_n 2, 1) := by decide +kernel
theorem dX12_both_57 : decode cX12_both 57 = .ok (.ifCond .eq 7, 3) := by decide +kernel
theorem dX12_both_60 : decode cX12_both 60 = .ok (.iconst 1, 1) := by decide +kernel
theorem dX12_both_61 : decode cX12_both 61 = .ok (.goto 4, 3) := by decide +kernel
theorem dX12_both_64 : decode cX12_both 64 = .ok (.iconst 0, 1) := by decide +kernel
theorem dX12_both_65 : decode cX12_both 65 = .ok (.ireturn, 1) := by decide +kernel
theorem dX12_both_66 : decode cX12_both 66 = .ok (.iload_n 1, 1) := by decide +kernel
theorem dX12_both_67 : decode cX12_both 67 = .ok (.ifCond .eq 11, 3) := by decide +kernel
theorem dX12_both_70 : decode cX12_both 70 = .ok (.iload_n 2, 1) := by decide +kernel
theorem dX12_both_71 : decode cX12_both 71 = .ok (.ifCond .eq 7, 3) := by decide +kernel
theorem dX12_both_74 : decode cX12_both 74 = .ok (.iconst 1, 1) := by decide +kernel
theorem dX12_both_75 : decode cX12_both 75 = .ok (.goto 4, 3) := by decide +kernel
theorem dX12_both_78 : decode cX12_both 78 = .ok (.iconst 0, 1) := by decide +kernel
theorem dX12_both_79 : decode cX12_both 79 = .ok (.ireturn, 1) := by decide +kernel
theorem dX12_both_80 : decode cX12_both 80 = .ok (.iload_n 1, 1) := by decide +kernel
theorem dX12_both_81 : decode cX12_both 81 = .ok (.iload_n 2, 1) := by decide +kernel
theorem dX12_both_82 : decode cX12_both 82 = .ok (.if_icmp .ge 7, 3) := by decide +kernel
theorem dX12_both_85 : decode cX12_both 85 = .ok (.iconst 1, 1) := by decide +kernel
theorem dX12_both_86 : decode cX12_both 86 = .ok (.goto 4, 3) := by decide +kernel
theorem dX12_both_89 : decode cX12_both 89 = .ok (.iconst 0, 1) := by decide +kernel
theorem dX12_both_90 : decode cX12_both 90 = .ok (.ireturn, 1) := by decide +kernel
theorem dX12_both_91 : decode cX12_both 91 = .ok (.iload_n 1, 1) := by decide +kernel
theorem dX12_both_92 : decode cX12_both 92 = .ok (.iload_n 2, 1) := by decide +kernel
theorem dX12_both_93 : decode cX12_both 93 = .ok (.if_icmp .ne 7, 3) := by decide +kernel
theorem dX12_both_96 : decode cX12_both 96 = .ok (.iconst 1, 1) := by decide +kernel
theorem dX12_both_97 : decode cX12_both 97 = .ok (.goto 4, 3) := by decide +kernel
theorem dX12_both_100 : decode cX12_both 100 = .ok (.iconst 0, 1) := by decide +kernel
theorem dX12_both_101 : decode cX12_both 101 = .ok (.ireturn, 1) := by decide +kernel
theorem dX12_both_102 : decode cX12_both 102 = .ok (.iload_n 1, 1) := by decide +kernel
theorem dX12_both_103 : decode cX12_both 103 = .ok (.iload_n 2, 1) := by decide +kernel
theorem dX12_both_104 : decode cX12_both 104 = .ok (.if_icmp .le 7, 3) := by decide +kernel
theorem dX12_both_107 : decode cX12_both 107 = .ok (.iconst 1, 1) := by decide +kernel
theorem dX12_both_108 : decode cX12_both 108 = .ok (.goto 4, 3) := by decide +kernel
theorem dX12_both_111 : decode cX12_both 111 = .ok (.iconst 0, 1) := by decide +kernel
theorem dX12_both_112 : decode cX12_both 112 = .ok (.ireturn, 1) := by decide +kernel
theorem dX12_both_113 : decode cX12_both 113 = .ok (.iload_n 1, 1) := by decide +kernel
theorem dX12_both_114 : decode cX12_both 114 = .ok (.iload_n 2, 1) := by decide +kernel
theorem dX12_both_115 : decode cX12_both 115 = .ok (.iadd, 1) := by decide +kernel
theorem dX12_both_116 : decode cX12_both 116 = .ok (.ireturn, 1) := by decide +kernel
theorem dX12_both_117 : decode cX12_both 117 = .ok (.iload_n 1, 1) := by decide +kernel
theorem dX12_both_118 : decode cX12_both 118 = .ok (.iload_n 2, 1) := by decide +kernel
theorem dX12_both_119 : decode cX12_both 119 = .ok (.isub, 1) := by decide +kernel
theorem dX12_both_120 : decode cX12_both 120 = .ok (.ireturn, 1) := by decide +kernel
theorem dX12_both_121 : decode cX12_both 121 = .ok (.iload_n 1, 1) := by decide +kernel
theorem dX12_both_122 : decode cX12_both 122 = .ok (.iload_n 2, 1) := by decide +kernel
theorem dX12_both_123 : decode cX12_both 123 = .ok (.imul, 1) := by decide +kernel
theorem dX12_both_124 : decode cX12_both 124 = .ok (.ireturn, 1) := by decide +kernel
theorem dX12_both_125 : decode cX12_both 125 = .ok (.iload_n 2, 1) := by decide +kernel
theorem dX12_both_126 : decode cX12_both 126 = .ok (.ifCond .ne 7, 3) := by decide +kernel
theorem dX12_both_129 : decode cX12_both 129 = .ok (.iconst 0, 1) := by decide +kernel
theorem dX12_both_130 : decode cX12_both 130 = .ok (.goto 6, 3) := by decide +kernel
theorem dX12_both_133 : decode cX12_both 133 = .ok (.iload_n 1, 1) := by decide +kernel
theorem dX12_both_134 : decode cX12_both 134 = .ok (.iload_n 2, 1) := by decide +kernel
theorem dX12_both_135 : decode cX12_both 135 = .ok (.idiv, 1) := by decide +kernel
theorem dX12_both_136 : decode cX12_both 136 = .ok (.ireturn, 1) := by decide +kernel
theorem dX12_both_137 : decode cX12_both 137 = .ok (.iload_n 2, 1) := by decide +kernel
theorem dX12_both_138 : decode cX12_both 138 = .ok (.ifCond .ne 7, 3) := by decide +kernel
theorem dX12_both_141 : decode cX12_both 141 = .ok (.iconst 0, 1) := by decide +kernel
theorem dX12_both_142 : decode cX12_both 142 = .ok (.goto 6, 3) := by decide +kernel
theorem dX12_both_145 : decode cX12_both 145 = .ok (.iload_n 1, 1) := by decide +kernel
theorem dX12_both_146 : decode cX12_both 146 = .ok (.iload_n 2, 1) := by decide +kernel
theorem dX12_both_147 : decode cX12_both 147 = .ok (.irem, 1) := by decide +kernel
theorem dX12_both_148 : decode cX12_both 148 = .ok (.ireturn, 1) := by decide +kernel
theorem dX12_worked_0 : decode cX12_worked 0 = .ok (.iconst 0, 1) := by decide +kernel
theorem dX12_worked_1 : decode cX12_worked 1 = .ok (.istore_n 3, 1) := by decide +kernel
theorem dX12_worked_2 : decode cX12_worked 2 = .ok (.iload_n 1, 1) := by decide +kernel
theorem dX12_worked_3 : decode cX12_worked 3 = .ok (.istore 4, 2) := by decide +kernel
theorem dX12_worked_5 : decode cX12_worked 5 = .ok (.iload 4, 2) := by decide +kernel
theorem dX12_worked_7 : decode cX12_worked 7 = .ok (.iload_n 2, 1) := by decide +kernel
theorem dX12_worked_8 : decode cX12_worked 8 = .ok (.if_icmp .ge 155, 3) := by decide +kernel
theorem dX12_worked_11 : decode cX12_worked 11 = .ok (.aload_n 0, 1) := by decide +kernel
theorem dX12_worked_12 : decode cX12_worked 12 = .ok (.getfield 51, 3) := by decide +kernel
theorem dX12_worked_15 : decode cX12_worked 15 = .ok (.iload 4, 2) := by decide +kernel
theorem dX12_worked_17 : decode cX12_worked 17 = .ok (.iaload, 1) := by decide +kernel
theorem dX12_worked_18 : decode cX12_worked 18 = .ok (.istore 5, 2) := by decide +kernel
theorem dX12_worked_20 : decode cX12_worked 20 = .ok (.iload 5, 2) := by decide +kernel
theorem dX12_worked_22 : decode cX12_worked 22 = .ok (.bipush 18, 2) := by decide +kernel
theorem dX12_worked_24 : decode cX12_worked 24 = .ok (.if_icmp .ge 9, 3) := by decide +kernel
theorem dX12_worked_27 : decode cX12_worked 27 = .ok (.iload 5, 2) := by decide +kernel
theorem dX12_worked_29 : decode cX12_worked 29 = .ok (.iconst 5, 1) := by decide +kernel
theorem dX12_worked_30 : decode cX12_worked 30 = .ok (.if_icmp .gt 37, 3) := by decide +kernel
theorem dX12_worked_33 : decode cX12_worked 33 = .ok (.aload_n 0, 1) := by decide +kernel
theorem dX12_worked_34 : decode cX12_worked 34 = .ok (.getfield 66, 3) := by decide +kernel
theorem dX12_worked_37 : decode cX12_worked 37 = .ok (.iload_n 3, 1) := by decide +kernel
theorem dX12_worked_38 : decode cX12_worked 38 = .ok (.iinc 3 1, 3) := by decide +kernel
theorem dX12_worked_41 : decode cX12_worked 41 = .ok (.iload 5, 2) := by decide +kernel
theorem dX12_worked_43 : decode cX12_worked 43 = .ok (.bipush 18, 2) := by decide +kernel
theorem dX12_worked_45 : decode cX12_worked 45 = .ok (.if_icmp .lt 11, 3) := by decide +kernel
theorem dX12_worked_48 : decode cX12_worked 48 = .ok (.iload 5, 2) := by decide +kernel
theorem dX12_worked_50 : decode cX12_worked 50 = .ok (.bipush 18, 2) := by decide +kernel
theorem dX12_worked_52 : decode cX12_worked 52 = .ok (.isub, 1) := by decide +kernel
theorem dX12_worked_53 : decode cX12_worked 53 = .ok (.goto 10, 3) := by decide +kernel
theorem dX12_worked_56 : decode cX12_worked 56 = .ok (.aload_n 0, 1) := by decide +kernel
theorem dX12_worked_57 : decode cX12_worked 57 = .ok (.getfield 69, 3) := by decide +kernel
theorem dX12_worked_60 : decode cX12_worked 60 = .ok (.iload 5, 2) := by decide +kernel
theorem dX12_worked_62 : decode cX12_worked 62 = .ok (.iaload, 1) := by decide +kernel
theorem dX12_worked_63 : decode cX12_worked 63 = .ok (.iastore, 1) := by decide +kernel
theorem dX12_worked_64 : decode cX12_worked 64 = .ok (.goto 93, 3) := by decide +kernel
theorem dX12_worked_67 : decode cX12_worked 67 = .ok (.iload 5, 2) := by decide +kernel
theorem dX12_worked_69 : decode cX12_worked 69 = .ok (.bipush 16, 2) := by decide +kernel
theorem dX12_worked_71 : decode cX12_worked 71 = .ok (.if_icmp .eq 10, 3) := by decide +kernel
theorem dX12_worked_74 : decode cX12_worked 74 = .ok (.iload 5, 2) := by decide +kernel
theorem dX12_worked_76 : decode cX12_worked 76 = .ok (.bipush 17, 2) := by decide +kernel
theorem dX12_worked_78 : decode cX12_worked 78 = .ok (.if_icmp .ne 49, 3) := by decide +kernel
theorem dX12_worked_81 : decode cX12_worked 81 = .ok (.aload_n 0, 1) := by decide +kernel
theorem dX12_worked_82 : decode cX12_worked 82 = .ok (.getfield 66, 3) := by decide +kernel
theorem dX12_worked_85 : decode cX12_worked 85 = .ok (.iload_n 3, 1) := by decide +kernel
theorem dX12_worked_86 : decode cX12_worked 86 = .ok (.iconst 1, 1) := by decide +kernel
theorem dX12_worked_87 : decode cX12_worked 87 = .ok (.isub, 1) := by decide +kernel
theorem dX12_worked_88 : decode cX12_worked 88 = .ok (.iload 5, 2) := by decide +kernel
theorem dX12_worked_90 : decode cX12_worked 90 = .ok (.bipush 17, 2) := by decide +kernel
theorem dX12_worked_92 : decode cX12_worked 92 = .ok (.if_icmp .ne 15, 3) := by decide +kernel
theorem dX12_worked_95 : decode cX12_worked 95 = .ok (.aload_n 0, 1) := by decide +kernel
theorem dX12_worked_96 : decode cX12_worked 96 = .ok (.getfield 66, 3) := by decide +kernel
theorem dX12_worked_99 : decode cX12_worked 99 = .ok (.iload_n 3, 1) := by decide +kernel
theorem dX12_worked_100 : decode cX12_worked 100 = .ok (.iconst 1, 1) := by decide +kernel
theorem dX12_worked_101 : decode cX12_worked 101 = .ok (.isub, 1) := by decide +kernel
theorem dX12_worked_102 : decode cX12_worked 102 = .ok (.iaload, 1) := by decide +kernel
theorem dX12_worked_103 : decode cX12_worked 103 = .ok (.ineg, 1) := by decide +kernel
theorem dX12_worked_104 : decode cX12_worked 104 = .ok (.goto 19, 3) := by decide +kernel
theorem dX12_worked_107 : decode cX12_worked 107 = .ok (.aload_n 0, 1) := by decide +kernel
theorem dX12_worked_108 : decode cX12_worked 108 = .ok (.getfield 66, 3) := by decide +kernel
theorem dX12_worked_111 : decode cX12_worked 111 = .ok (.iload_n 3, 1) := by decide +kernel
theorem dX12_worked_112 : decode cX12_worked 112 = .ok (.iconst 1, 1) := by decide +kernel
theorem dX12_worked_113 : decode cX12_worked 113 = .ok (.isub, 1) := by decide +kernel
theorem dX12_worked_114 : decode cX12_worked 114 = .ok (.iaload, 1) := by decide +kernel
theorem dX12_worked_115 : decode cX12_worked 115 = .ok (.ifCond .ne 7, 3) := by decide +kernel
theorem dX12_worked_118 : decode cX12_worked 118 = .ok (.iconst 1, 1) := by decide +kernel
theorem dX12_worked_119 : decode cX12_worked 119 = .ok (.goto 4, 3) := by decide +kernel
theorem dX12_worked_122 : decode cX12_worked 122 = .ok (.iconst 0, 1) := by decide +kernel
theorem dX12_worked_123 : decode cX12_worked 123 = .ok (.iastore, 1) := by decide +kernel
theorem dX12_worked_124 : decode cX12_worked 124 = .ok (.goto 33, 3) := by decide +kernel
theorem dX12_worked_127 : decode cX12_worked 127 = .ok (.iinc 3 (-1), 3) := by decide +kernel
theorem dX12_worked_130 : decode cX12_worked 130 = .ok (.aload_n 0, 1) := by decide +kernel
theorem dX12_worked_131 : decode cX12_worked 131 = .ok (.getfield 66, 3) := by decide +kernel
theorem dX12_worked_134 : decode cX12_worked 134 = .ok (.iload_n 3, 1) := by decide +kernel
theorem dX12_worked_135 : decode cX12_worked 135 = .ok (.iconst 1, 1) := by decide +kernel
theorem dX12_worked_136 : decode cX12_worked 136 = .ok (.isub, 1) := by decide +kernel
theorem dX12_worked_137 : decode cX12_worked 137 = .ok (.iload 5, 2) := by decide +kernel
theorem dX12_worked_139 : decode cX12_worked 139 = .ok (.aload_n 0, 1) := by decide +kernel
theorem dX12_worked_140 : decode cX12_worked 140 = .ok (.getfield 66, 3) := by decide +kernel
theorem dX12_worked_143 : decode cX12_worked 143 = .ok (.iload_n 3, 1) := by decide +kernel
theorem dX12_worked_144 : decode cX12_worked 144 = .ok (.iconst 1, 1) := by decide +kernel
theorem dX12_worked_145 : decode cX12_worked 145 = .ok (.isub, 1) := by decide +kernel
theorem dX12_worked_146 : decode cX12_worked 146 = .ok (.iaload, 1) := by decide +kernel
theorem dX12_worked_147 : decode cX12_worked 147 = .ok (.aload_n 0, 1) := by decide +kernel
theorem dX12_worked_148 : decode cX12_worked 148 = .ok (.getfield 66, 3) := by decide +kernel
theorem dX12_worked_151 : decode cX12_worked 151 = .ok (.iload_n 3, 1) := by decide +kernel
theorem dX12_worked_152 : decode cX12_worked 152 = .ok (.iaload, 1) := by decide +kernel
theorem dX12_worked_153 : decode cX12_worked 153 = .ok (.invokestatic 228, 3) := by decide +kernel
theorem dX12_worked_156 : decode cX12_worked 156 = .ok (.iastore, 1) := by decide +kernel
theorem dX12_worked_157 : decode cX12_worked 157 = .ok (.iinc 4 1, 3) := by decide +kernel
theorem dX12_worked_160 : decode cX12_worked 160 = .ok (.goto (-155), 3) := by decide +kernel
theorem dX12_worked_163 : decode cX12_worked 163 = .ok (.aload_n 0, 1) := by decide +kernel
theorem dX12_worked_164 : decode cX12_worked 164 = .ok (.getfield 66, 3) := by decide +kernel
theorem dX12_worked_167 : decode cX12_worked 167 = .ok (.iconst 0, 1) := by decide +kernel
theorem dX12_worked_168 : decode cX12_worked 168 = .ok (.iaload, 1) := by decide +kernel
theorem dX12_worked_169 : decode cX12_worked 169 = .ok (.ireturn, 1) := by decide +kernel
theorem dX12_loss_0 : decode cX12_loss 0 = .ok (.aload_n 0, 1) := by decide +kernel
theorem dX12_loss_1 : decode cX12_loss 1 = .ok (.getfield 221, 3) := by decide +kernel
theorem dX12_loss_4 : decode cX12_loss 4 = .ok (.ifCond .ne 29, 3) := by decide +kernel
theorem dX12_loss_7 : decode cX12_loss 7 = .ok (.bipush 99, 2) := by decide +kernel
theorem dX12_loss_9 : decode cX12_loss 9 = .ok (.iload_n 3, 1) := by decide +kernel
theorem dX12_loss_10 : decode cX12_loss 10 = .ok (.aload_n 0, 1) := by decide +kernel
theorem dX12_loss_11 : decode cX12_loss 11 = .ok (.getfield 30, 3) := by decide +kernel
theorem dX12_loss_14 : decode cX12_loss 14 = .ok (.iconst 1, 1) := by decide +kernel
theorem dX12_loss_15 : decode cX12_loss 15 = .ok (.iaload, 1) := by decide +kernel
theorem dX12_loss_16 : decode cX12_loss 16 = .ok (.idiv, 1) := by decide +kernel
theorem dX12_loss_17 : decode cX12_loss 17 = .ok (.iload 4, 2) := by decide +kernel
theorem dX12_loss_19 : decode cX12_loss 19 = .ok (.iconst 2, 1) := by decide +kernel
theorem dX12_loss_20 : decode cX12_loss 20 = .ok (.if_icmp .ne 7, 3) := by decide +kernel
theorem dX12_loss_23 : decode cX12_loss 23 = .ok (.iconst 2, 1) := by decide +kernel
theorem dX12_loss_24 : decode cX12_loss 24 = .ok (.goto 4, 3) := by decide +kernel
theorem dX12_loss_27 : decode cX12_loss 27 = .ok (.iconst 1, 1) := by decide +kernel
theorem dX12_loss_28 : decode cX12_loss 28 = .ok (.imul, 1) := by decide +kernel
theorem dX12_loss_29 : decode cX12_loss 29 = .ok (.invokestatic 232, 3) := by decide +kernel
theorem dX12_loss_32 : decode cX12_loss 32 = .ok (.ireturn, 1) := by decide +kernel
theorem dX12_loss_33 : decode cX12_loss 33 = .ok (.aload_n 0, 1) := by decide +kernel
theorem dX12_loss_34 : decode cX12_loss 34 = .ok (.getfield 69, 3) := by decide +kernel
theorem dX12_loss_37 : decode cX12_loss 37 = .ok (.iconst 0, 1) := by decide +kernel
theorem dX12_loss_38 : decode cX12_loss 38 = .ok (.iload_n 3, 1) := by decide +kernel
theorem dX12_loss_39 : decode cX12_loss 39 = .ok (.iastore, 1) := by decide +kernel
theorem dX12_loss_40 : decode cX12_loss 40 = .ok (.aload_n 0, 1) := by decide +kernel
theorem dX12_loss_41 : decode cX12_loss 41 = .ok (.getfield 69, 3) := by decide +kernel
theorem dX12_loss_44 : decode cX12_loss 44 = .ok (.iconst 1, 1) := by decide +kernel
theorem dX12_loss_45 : decode cX12_loss 45 = .ok (.iload 4, 2) := by decide +kernel
theorem dX12_loss_47 : decode cX12_loss 47 = .ok (.iastore, 1) := by decide +kernel
theorem dX12_loss_48 : decode cX12_loss 48 = .ok (.aload_n 0, 1) := by decide +kernel
theorem dX12_loss_49 : decode cX12_loss 49 = .ok (.getfield 69, 3) := by decide +kernel
theorem dX12_loss_52 : decode cX12_loss 52 = .ok (.iconst 2, 1) := by decide +kernel
theorem dX12_loss_53 : decode cX12_loss 53 = .ok (.aload_n 0, 1) := by decide +kernel
theorem dX12_loss_54 : decode cX12_loss 54 = .ok (.getfield 9, 3) := by decide +kernel
theorem dX12_loss_57 : decode cX12_loss 57 = .ok (.iload_n 1, 1) := by decide +kernel
theorem dX12_loss_58 : decode cX12_loss 58 = .ok (.iaload, 1) := by decide +kernel
theorem dX12_loss_59 : decode cX12_loss 59 = .ok (.aload_n 0, 1) := by decide +kernel
theorem dX12_loss_60 : decode cX12_loss 60 = .ok (.getfield 9, 3) := by decide +kernel
theorem dX12_loss_63 : decode cX12_loss 63 = .ok (.iload_n 2, 1) := by decide +kernel
theorem dX12_loss_64 : decode cX12_loss 64 = .ok (.iaload, 1) := by decide +kernel
theorem dX12_loss_65 : decode cX12_loss 65 = .ok (.isub, 1) := by decide +kernel
theorem dX12_loss_66 : decode cX12_loss 66 = .ok (.invokestatic 237, 3) := by decide +kernel
theorem dX12_loss_69 : decode cX12_loss 69 = .ok (.aload_n 0, 1) := by decide +kernel
theorem dX12_loss_70 : decode cX12_loss 70 = .ok (.getfield 15, 3) := by decide +kernel
theorem dX12_loss_73 : decode cX12_loss 73 = .ok (.iload_n 1, 1) := by decide +kernel
theorem dX12_loss_74 : decode cX12_loss 74 = .ok (.iaload, 1) := by decide +kernel
theorem dX12_loss_75 : decode cX12_loss 75 = .ok (.aload_n 0, 1) := by decide +kernel
theorem dX12_loss_76 : decode cX12_loss 76 = .ok (.getfield 15, 3) := by decide +kernel
theorem dX12_loss_79 : decode cX12_loss 79 = .ok (.iload_n 2, 1) := by decide +kernel
theorem dX12_loss_80 : decode cX12_loss 80 = .ok (.iaload, 1) := by decide +kernel
theorem dX12_loss_81 : decode cX12_loss 81 = .ok (.isub, 1) := by decide +kernel
theorem dX12_loss_82 : decode cX12_loss 82 = .ok (.invokestatic 237, 3) := by decide +kernel
theorem dX12_loss_85 : decode cX12_loss 85 = .ok (.iadd, 1) := by decide +kernel
theorem dX12_loss_86 : decode cX12_loss 86 = .ok (.iastore, 1) := by decide +kernel
theorem dX12_loss_87 : decode cX12_loss 87 = .ok (.aload_n 0, 1) := by decide +kernel
theorem dX12_loss_88 : decode cX12_loss 88 = .ok (.getfield 69, 3) := by decide +kernel
theorem dX12_loss_91 : decode cX12_loss 91 = .ok (.iconst 3, 1) := by decide +kernel
theorem dX12_loss_92 : decode cX12_loss 92 = .ok (.aload_n 0, 1) := by decide +kernel
theorem dX12_loss_93 : decode cX12_loss 93 = .ok (.getfield 18, 3) := by decide +kernel
theorem dX12_loss_96 : decode cX12_loss 96 = .ok (.iload_n 1, 1) := by decide +kernel
theorem dX12_loss_97 : decode cX12_loss 97 = .ok (.iaload, 1) := by decide +kernel
theorem dX12_loss_98 : decode cX12_loss 98 = .ok (.aload_n 0, 1) := by decide +kernel
theorem dX12_loss_99 : decode cX12_loss 99 = .ok (.getfield 18, 3) := by decide +kernel
theorem dX12_loss_102 : decode cX12_loss 102 = .ok (.iload_n 2, 1) := by decide +kernel
theorem dX12_loss_103 : decode cX12_loss 103 = .ok (.iaload, 1) := by decide +kernel
theorem dX12_loss_104 : decode cX12_loss 104 = .ok (.isub, 1) := by decide +kernel
theorem dX12_loss_105 : decode cX12_loss 105 = .ok (.invokestatic 237, 3) := by decide +kernel
theorem dX12_loss_108 : decode cX12_loss 108 = .ok (.iastore, 1) := by decide +kernel
theorem dX12_loss_109 : decode cX12_loss 109 = .ok (.aload_n 0, 1) := by decide +kernel
theorem dX12_loss_110 : decode cX12_loss 110 = .ok (.getfield 69, 3) := by decide +kernel
theorem dX12_loss_113 : decode cX12_loss 113 = .ok (.iconst 4, 1) := by decide +kernel
theorem dX12_loss_114 : decode cX12_loss 114 = .ok (.iload 5, 2) := by decide +kernel
theorem dX12_loss_116 : decode cX12_loss 116 = .ok (.iastore, 1) := by decide +kernel
theorem dX12_loss_117 : decode cX12_loss 117 = .ok (.aload_n 0, 1) := by decide +kernel
theorem dX12_loss_118 : decode cX12_loss 118 = .ok (.getfield 69, 3) := by decide +kernel
theorem dX12_loss_121 : decode cX12_loss 121 = .ok (.iconst 5, 1) := by decide +kernel
theorem dX12_loss_122 : decode cX12_loss 122 = .ok (.aload_n 0, 1) := by decide +kernel
theorem dX12_loss_123 : decode cX12_loss 123 = .ok (.getfield 30, 3) := by decide +kernel
theorem dX12_loss_126 : decode cX12_loss 126 = .ok (.iconst 1, 1) := by decide +kernel
theorem dX12_loss_127 : decode cX12_loss 127 = .ok (.iaload, 1) := by decide +kernel
theorem dX12_loss_128 : decode cX12_loss 128 = .ok (.iastore, 1) := by decide +kernel
theorem dX12_loss_129 : decode cX12_loss 129 = .ok (.iconst 0, 1) := by decide +kernel
theorem dX12_loss_130 : decode cX12_loss 130 = .ok (.istore 6, 2) := by decide +kernel
theorem dX12_loss_132 : decode cX12_loss 132 = .ok (.iload 6, 2) := by decide +kernel
theorem dX12_loss_134 : decode cX12_loss 134 = .ok (.aload_n 0, 1) := by decide +kernel
theorem dX12_loss_135 : decode cX12_loss 135 = .ok (.getfield 225, 3) := by decide +kernel
theorem dX12_loss_138 : decode cX12_loss 138 = .ok (.if_icmp .ge 78, 3) := by decide +kernel
theorem dX12_loss_141 : decode cX12_loss 141 = .ok (.aload_n 0, 1) := by decide +kernel
theorem dX12_loss_142 : decode cX12_loss 142 = .ok (.getfield 45, 3) := by decide +kernel
theorem dX12_loss_145 : decode cX12_loss 145 = .ok (.iload 6, 2) := by decide +kernel
theorem dX12_loss_147 : decode cX12_loss 147 = .ok (.iaload, 1) := by decide +kernel
theorem dX12_loss_148 : decode cX12_loss 148 = .ok (.aload_n 0, 1) := by decide +kernel
theorem dX12_loss_149 : decode cX12_loss 149 = .ok (.getfield 42, 3) := by decide +kernel
theorem dX12_loss_152 : decode cX12_loss 152 = .ok (.iload 6, 2) := by decide +kernel
theorem dX12_loss_154 : decode cX12_loss 154 = .ok (.iaload, 1) := by decide +kernel
theorem dX12_loss_155 : decode cX12_loss 155 = .ok (.if_icmp .le 27, 3) := by decide +kernel
theorem dX12_loss_158 : decode cX12_loss 158 = .ok (.aload_n 0, 1) := by decide +kernel
theorem dX12_loss_159 : decode cX12_loss 159 = .ok (.aload_n 0, 1) := by decide +kernel
theorem dX12_loss_160 : decode cX12_loss 160 = .ok (.getfield 42, 3) := by decide +kernel
theorem dX12_loss_163 : decode cX12_loss 163 = .ok (.iload 6, 2) := by decide +kernel
theorem dX12_loss_165 : decode cX12_loss 165 = .ok (.iaload, 1) := by decide +kernel
theorem dX12_loss_166 : decode cX12_loss 166 = .ok (.aload_n 0, 1) := by decide +kernel
theorem dX12_loss_167 : decode cX12_loss 167 = .ok (.getfield 45, 3) := by decide +kernel
theorem dX12_loss_170 : decode cX12_loss 170 = .ok (.iload 6, 2) := by decide +kernel
theorem dX12_loss_172 : decode cX12_loss 172 = .ok (.iaload, 1) := by decide +kernel
theorem dX12_loss_173 : decode cX12_loss 173 = .ok (.invokevirtual 240, 3) := by decide +kernel
theorem dX12_loss_176 : decode cX12_loss 176 = .ok (.ifCond .ne 6, 3) := by decide +kernel
theorem dX12_loss_179 : decode cX12_loss 179 = .ok (.goto 31, 3) := by decide +kernel
theorem dX12_loss_182 : decode cX12_loss 182 = .ok (.iconst 0, 1) := by decide +kernel
theorem dX12_loss_183 : decode cX12_loss 183 = .ok (.bipush 99, 2) := by decide +kernel
theorem dX12_loss_185 : decode cX12_loss 185 = .ok (.aload_n 0, 1) := by decide +kernel
theorem dX12_loss_186 : decode cX12_loss 186 = .ok (.aload_n 0, 1) := by decide +kernel
theorem dX12_loss_187 : decode cX12_loss 187 = .ok (.getfield 45, 3) := by decide +kernel
theorem dX12_loss_190 : decode cX12_loss 190 = .ok (.iload 6, 2) := by decide +kernel
theorem dX12_loss_192 : decode cX12_loss 192 = .ok (.iaload, 1) := by decide +kernel
theorem dX12_loss_193 : decode cX12_loss 193 = .ok (.aload_n 0, 1) := by decide +kernel
theorem dX12_loss_194 : decode cX12_loss 194 = .ok (.getfield 48, 3) := by decide +kernel
theorem dX12_loss_197 : decode cX12_loss 197 = .ok (.iload 6, 2) := by decide +kernel
theorem dX12_loss_199 : decode cX12_loss 199 = .ok (.iaload, 1) := by decide +kernel
theorem dX12_loss_200 : decode cX12_loss 200 = .ok (.invokevirtual 240, 3) := by decide +kernel
theorem dX12_loss_203 : decode cX12_loss 203 = .ok (.invokestatic 232, 3) := by decide +kernel
theorem dX12_loss_206 : decode cX12_loss 206 = .ok (.invokestatic 243, 3) := by decide +kernel
theorem dX12_loss_209 : decode cX12_loss 209 = .ok (.ireturn, 1) := by decide +kernel
theorem dX12_loss_210 : decode cX12_loss 210 = .ok (.iinc 6 1, 3) := by decide +kernel
theorem dX12_loss_213 : decode cX12_loss 213 = .ok (.goto (-81), 3) := by decide +kernel
theorem dX12_loss_216 : decode cX12_loss 216 = .ok (.iconst 0, 1) := by decide +kernel
theorem dX12_loss_217 : decode cX12_loss 217 = .ok (.ireturn, 1) := by decide +kernel
theorem dX12_loses_0 : decode cX12_loses 0 = .ok (.aload_n 0, 1) := by decide +kernel
theorem dX12_loses_1 : decode cX12_loses 1 = .ok (.iload_n 1, 1) := by decide +kernel
theorem dX12_loses_2 : decode cX12_loses 2 = .ok (.invokevirtual 246, 3) := by decide +kernel
theorem dX12_loses_5 : decode cX12_loses 5 = .ok (.ifCond .eq 35, 3) := by decide +kernel
theorem dX12_loses_8 : decode cX12_loses 8 = .ok (.iload_n 2, 1) := by decide +kernel
theorem dX12_loses_9 : decode cX12_loses 9 = .ok (.iconst 0, 1) := by decide +kernel
theorem dX12_loses_10 : decode cX12_loses 10 = .ok (.sipush 9999, 3) := by decide +kernel
theorem dX12_loses_13 : decode cX12_loses 13 = .ok (.invokestatic 128, 3) := by decide +kernel
theorem dX12_loses_16 : decode cX12_loses 16 = .ok (.ifCond .eq 24, 3) := by decide +kernel
theorem dX12_loses_19 : decode cX12_loses 19 = .ok (.iload_n 3, 1) := by decide +kernel
theorem dX12_loses_20 : decode cX12_loses 20 = .ok (.ifCond .lt 20, 3) := by decide +kernel
theorem dX12_loses_23 : decode cX12_loses 23 = .ok (.iload_n 3, 1) := by decide +kernel
theorem dX12_loses_24 : decode cX12_loses 24 = .ok (.bipush 100, 2) := by decide +kernel
theorem dX12_loses_26 : decode cX12_loses 26 = .ok (.idiv, 1) := by decide +kernel
theorem dX12_loses_27 : decode cX12_loses 27 = .ok (.iconst 4, 1) := by decide +kernel
theorem dX12_loses_28 : decode cX12_loses 28 = .ok (.if_icmp .gt 12, 3) := by decide +kernel
theorem dX12_loses_31 : decode cX12_loses 31 = .ok (.iload_n 3, 1) := by decide +kernel
theorem dX12_loses_32 : decode cX12_loses 32 = .ok (.bipush 100, 2) := by decide +kernel
theorem dX12_loses_34 : decode cX12_loses 34 = .ok (.irem, 1) := by decide +kernel
theorem dX12_loses_35 : decode cX12_loses 35 = .ok (.bipush 59, 2) := by decide +kernel
theorem dX12_loses_37 : decode cX12_loses 37 = .ok (.if_icmp .le 5, 3) := by decide +kernel
theorem dX12_loses_40 : decode cX12_loses 40 = .ok (.iconst (-1), 1) := by decide +kernel
theorem dX12_loses_41 : decode cX12_loses 41 = .ok (.ireturn, 1) := by decide +kernel
theorem dX12_loses_42 : decode cX12_loses 42 = .ok (.aload_n 0, 1) := by decide +kernel
theorem dX12_loses_43 : decode cX12_loses 43 = .ok (.iload_n 1, 1) := by decide +kernel
theorem dX12_loses_44 : decode cX12_loses 44 = .ok (.bipush 10, 2) := by decide +kernel
theorem dX12_loses_46 : decode cX12_loses 46 = .ok (.idiv, 1) := by decide +kernel
theorem dX12_loses_47 : decode cX12_loses 47 = .ok (.iload_n 1, 1) := by decide +kernel
theorem dX12_loses_48 : decode cX12_loses 48 = .ok (.bipush 10, 2) := by decide +kernel
theorem dX12_loses_50 : decode cX12_loses 50 = .ok (.irem, 1) := by decide +kernel
theorem dX12_loses_51 : decode cX12_loses 51 = .ok (.iload_n 2, 1) := by decide +kernel
theorem dX12_loses_52 : decode cX12_loses 52 = .ok (.iload_n 3, 1) := by decide +kernel
theorem dX12_loses_53 : decode cX12_loses 53 = .ok (.bipush 100, 2) := by decide +kernel
theorem dX12_loses_55 : decode cX12_loses 55 = .ok (.idiv, 1) := by decide +kernel
theorem dX12_loses_56 : decode cX12_loses 56 = .ok (.iload_n 3, 1) := by decide +kernel
theorem dX12_loses_57 : decode cX12_loses 57 = .ok (.bipush 100, 2) := by decide +kernel
theorem dX12_loses_59 : decode cX12_loses 59 = .ok (.irem, 1) := by decide +kernel
theorem dX12_loses_60 : decode cX12_loses 60 = .ok (.invokevirtual 249, 3) := by decide +kernel
theorem dX12_loses_63 : decode cX12_loses 63 = .ok (.ireturn, 1) := by decide +kernel
theorem dX12_noRow_0 : decode cX12_noRow 0 = .ok (.aload_n 0, 1) := by decide +kernel
theorem dX12_noRow_1 : decode cX12_noRow 1 = .ok (.getfield 93, 3) := by decide +kernel
theorem dX12_noRow_4 : decode cX12_noRow 4 = .ok (.iload_n 1, 1) := by decide +kernel
theorem dX12_noRow_5 : decode cX12_noRow 5 = .ok (.iaload, 1) := by decide +kernel
theorem dX12_noRow_6 : decode cX12_noRow 6 = .ok (.iconst (-1), 1) := by decide +kernel
theorem dX12_noRow_7 : decode cX12_noRow 7 = .ok (.if_icmp .ne 8, 3) := by decide +kernel
theorem dX12_noRow_10 : decode cX12_noRow 10 = .ok (.bipush (-11), 2) := by decide +kernel
theorem dX12_noRow_12 : decode cX12_noRow 12 = .ok (.goto 19, 3) := by decide +kernel
theorem dX12_noRow_15 : decode cX12_noRow 15 = .ok (.aload_n 0, 1) := by decide +kernel
theorem dX12_noRow_16 : decode cX12_noRow 16 = .ok (.getfield 93, 3) := by decide +kernel
theorem dX12_noRow_19 : decode cX12_noRow 19 = .ok (.iload_n 1, 1) := by decide +kernel
theorem dX12_noRow_20 : decode cX12_noRow 20 = .ok (.iaload, 1) := by decide +kernel
theorem dX12_noRow_21 : decode cX12_noRow 21 = .ok (.iload_n 2, 1) := by decide +kernel
theorem dX12_noRow_22 : decode cX12_noRow 22 = .ok (.if_icmp .eq 8, 3) := by decide +kernel
theorem dX12_noRow_25 : decode cX12_noRow 25 = .ok (.bipush (-12), 2) := by decide +kernel
theorem dX12_noRow_27 : decode cX12_noRow 27 = .ok (.goto 4, 3) := by decide +kernel
theorem dX12_noRow_30 : decode cX12_noRow 30 = .ok (.iconst 0, 1) := by decide +kernel
theorem dX12_noRow_31 : decode cX12_noRow 31 = .ok (.ireturn, 1) := by decide +kernel
theorem dX12_reads_0 : decode cX12_reads 0 = .ok (.aload_n 0, 1) := by decide +kernel
theorem dX12_reads_1 : decode cX12_reads 1 = .ok (.iconst 0, 1) := by decide +kernel
theorem dX12_reads_2 : decode cX12_reads 2 = .ok (.putfield 253, 3) := by decide +kernel
theorem dX12_reads_5 : decode cX12_reads 5 = .ok (.aload_n 0, 1) := by decide +kernel
theorem dX12_reads_6 : decode cX12_reads 6 = .ok (.getfield 253, 3) := by decide +kernel
theorem dX12_reads_9 : decode cX12_reads 9 = .ok (.aload_n 0, 1) := by decide +kernel
theorem dX12_reads_10 : decode cX12_reads 10 = .ok (.getfield 96, 3) := by decide +kernel
theorem dX12_reads_13 : decode cX12_reads 13 = .ok (.iload_n 1, 1) := by decide +kernel
theorem dX12_reads_14 : decode cX12_reads 14 = .ok (.iaload, 1) := by decide +kernel
theorem dX12_reads_15 : decode cX12_reads 15 = .ok (.if_icmp .ge 80, 3) := by decide +kernel
theorem dX12_reads_18 : decode cX12_reads 18 = .ok (.aload_n 0, 1) := by decide +kernel
theorem dX12_reads_19 : decode cX12_reads 19 = .ok (.getfield 99, 3) := by decide +kernel
theorem dX12_reads_22 : decode cX12_reads 22 = .ok (.bipush 60, 2) := by decide +kernel
theorem dX12_reads_24 : decode cX12_reads 24 = .ok (.iload_n 1, 1) := by decide +kernel
theorem dX12_reads_25 : decode cX12_reads 25 = .ok (.imul, 1) := by decide +kernel
theorem dX12_reads_26 : decode cX12_reads 26 = .ok (.aload_n 0, 1) := by decide +kernel
theorem dX12_reads_27 : decode cX12_reads 27 = .ok (.getfield 253, 3) := by decide +kernel
theorem dX12_reads_30 : decode cX12_reads 30 = .ok (.iadd, 1) := by decide +kernel
theorem dX12_reads_31 : decode cX12_reads 31 = .ok (.laload, 1) := by decide +kernel
theorem dX12_reads_32 : decode cX12_reads 32 = .ok (.lconst 0, 1) := by decide +kernel
theorem dX12_reads_33 : decode cX12_reads 33 = .ok (.lcmp, 1) := by decide +kernel
theorem dX12_reads_34 : decode cX12_reads 34 = .ok (.ifCond .lt 61, 3) := by decide +kernel
theorem dX12_reads_37 : decode cX12_reads 37 = .ok (.aload_n 0, 1) := by decide +kernel
theorem dX12_reads_38 : decode cX12_reads 38 = .ok (.getfield 99, 3) := by decide +kernel
theorem dX12_reads_41 : decode cX12_reads 41 = .ok (.bipush 60, 2) := by decide +kernel
theorem dX12_reads_43 : decode cX12_reads 43 = .ok (.iload_n 1, 1) := by decide +kernel
theorem dX12_reads_44 : decode cX12_reads 44 = .ok (.imul, 1) := by decide +kernel
theorem dX12_reads_45 : decode cX12_reads 45 = .ok (.aload_n 0, 1) := by decide +kernel
theorem dX12_reads_46 : decode cX12_reads 46 = .ok (.getfield 253, 3) := by decide +kernel
theorem dX12_reads_49 : decode cX12_reads 49 = .ok (.iadd, 1) := by decide +kernel
theorem dX12_reads_50 : decode cX12_reads 50 = .ok (.laload, 1) := by decide +kernel
theorem dX12_reads_51 : decode cX12_reads 51 = .ok (.ldc2_w 143, 3) := by decide +kernel
theorem dX12_reads_54 : decode cX12_reads 54 = .ok (.lcmp, 1) := by decide +kernel
theorem dX12_reads_55 : decode cX12_reads 55 = .ok (.ifCond .gt 40, 3) := by decide +kernel
theorem dX12_reads_58 : decode cX12_reads 58 = .ok (.aload_n 0, 1) := by decide +kernel
theorem dX12_reads_59 : decode cX12_reads 59 = .ok (.getfield 103, 3) := by decide +kernel
theorem dX12_reads_62 : decode cX12_reads 62 = .ok (.aload_n 0, 1) := by decide +kernel
theorem dX12_reads_63 : decode cX12_reads 63 = .ok (.getfield 253, 3) := by decide +kernel
theorem dX12_reads_66 : decode cX12_reads 66 = .ok (.aload_n 0, 1) := by decide +kernel
theorem dX12_reads_67 : decode cX12_reads 67 = .ok (.getfield 99, 3) := by decide +kernel
theorem dX12_reads_70 : decode cX12_reads 70 = .ok (.bipush 60, 2) := by decide +kernel
theorem dX12_reads_72 : decode cX12_reads 72 = .ok (.iload_n 1, 1) := by decide +kernel
theorem dX12_reads_73 : decode cX12_reads 73 = .ok (.imul, 1) := by decide +kernel
theorem dX12_reads_74 : decode cX12_reads 74 = .ok (.aload_n 0, 1) := by decide +kernel
theorem dX12_reads_75 : decode cX12_reads 75 = .ok (.getfield 253, 3) := by decide +kernel
theorem dX12_reads_78 : decode cX12_reads 78 = .ok (.iadd, 1) := by decide +kernel
theorem dX12_reads_79 : decode cX12_reads 79 = .ok (.laload, 1) := by decide +kernel
theorem dX12_reads_80 : decode cX12_reads 80 = .ok (.l2i, 1) := by decide +kernel
theorem dX12_reads_81 : decode cX12_reads 81 = .ok (.iastore, 1) := by decide +kernel
theorem dX12_reads_82 : decode cX12_reads 82 = .ok (.aload_n 0, 1) := by decide +kernel
theorem dX12_reads_83 : decode cX12_reads 83 = .ok (.dup, 1) := by decide +kernel
theorem dX12_reads_84 : decode cX12_reads 84 = .ok (.getfield 253, 3) := by decide +kernel
theorem dX12_reads_87 : decode cX12_reads 87 = .ok (.iconst 1, 1) := by decide +kernel
theorem dX12_reads_88 : decode cX12_reads 88 = .ok (.iadd, 1) := by decide +kernel
theorem dX12_reads_89 : decode cX12_reads 89 = .ok (.putfield 253, 3) := by decide +kernel
theorem dX12_reads_92 : decode cX12_reads 92 = .ok (.goto (-87), 3) := by decide +kernel
theorem dX12_reads_95 : decode cX12_reads 95 = .ok (.return_, 1) := by decide +kernel
theorem dX12_drifts_0 : decode cX12_drifts 0 = .ok (.iconst 0, 1) := by decide +kernel
theorem dX12_drifts_1 : decode cX12_drifts 1 = .ok (.istore_n 2, 1) := by decide +kernel
theorem dX12_drifts_2 : decode cX12_drifts 2 = .ok (.iload_n 2, 1) := by decide +kernel
theorem dX12_drifts_3 : decode cX12_drifts 3 = .ok (.bipush 8, 2) := by decide +kernel
theorem dX12_drifts_5 : decode cX12_drifts 5 = .ok (.if_icmp .ge 16, 3) := by decide +kernel
theorem dX12_drifts_8 : decode cX12_drifts 8 = .ok (.aload_n 0, 1) := by decide +kernel
theorem dX12_drifts_9 : decode cX12_drifts 9 = .ok (.getfield 106, 3) := by decide +kernel
theorem dX12_drifts_12 : decode cX12_drifts 12 = .ok (.iload_n 2, 1) := by decide +kernel
theorem dX12_drifts_13 : decode cX12_drifts 13 = .ok (.iconst 0, 1) := by decide +kernel
theorem dX12_drifts_14 : decode cX12_drifts 14 = .ok (.iastore, 1) := by decide +kernel
theorem dX12_drifts_15 : decode cX12_drifts 15 = .ok (.iinc 2 1, 3) := by decide +kernel
theorem dX12_drifts_18 : decode cX12_drifts 18 = .ok (.goto (-16), 3) := by decide +kernel
theorem dX12_drifts_21 : decode cX12_drifts 21 = .ok (.iconst 0, 1) := by decide +kernel
theorem dX12_drifts_22 : decode cX12_drifts 22 = .ok (.istore_n 2, 1) := by decide +kernel
theorem dX12_drifts_23 : decode cX12_drifts 23 = .ok (.iload_n 2, 1) := by decide +kernel
theorem dX12_drifts_24 : decode cX12_drifts 24 = .ok (.aload_n 0, 1) := by decide +kernel
theorem dX12_drifts_25 : decode cX12_drifts 25 = .ok (.getfield 253, 3) := by decide +kernel
theorem dX12_drifts_28 : decode cX12_drifts 28 = .ok (.if_icmp .ge 214, 3) := by decide +kernel
theorem dX12_drifts_31 : decode cX12_drifts 31 = .ok (.iconst 0, 1) := by decide +kernel
theorem dX12_drifts_32 : decode cX12_drifts 32 = .ok (.istore_n 3, 1) := by decide +kernel
theorem dX12_drifts_33 : decode cX12_drifts 33 = .ok (.iload_n 3, 1) := by decide +kernel
theorem dX12_drifts_34 : decode cX12_drifts 34 = .ok (.aload_n 0, 1) := by decide +kernel
theorem dX12_drifts_35 : decode cX12_drifts 35 = .ok (.getfield 125, 3) := by decide +kernel
theorem dX12_drifts_38 : decode cX12_drifts 38 = .ok (.if_icmp .ge 85, 3) := by decide +kernel
theorem dX12_drifts_41 : decode cX12_drifts 41 = .ok (.aload_n 0, 1) := by decide +kernel
theorem dX12_drifts_42 : decode cX12_drifts 42 = .ok (.getfield 24, 3) := by decide +kernel
theorem dX12_drifts_45 : decode cX12_drifts 45 = .ok (.iload_n 3, 1) := by decide +kernel
theorem dX12_drifts_46 : decode cX12_drifts 46 = .ok (.iaload, 1) := by decide +kernel
theorem dX12_drifts_47 : decode cX12_drifts 47 = .ok (.istore 4, 2) := by decide +kernel
theorem dX12_drifts_49 : decode cX12_drifts 49 = .ok (.iload_n 1, 1) := by decide +kernel
theorem dX12_drifts_50 : decode cX12_drifts 50 = .ok (.ifCond .eq 39, 3) := by decide +kernel
theorem dX12_drifts_53 : decode cX12_drifts 53 = .ok (.aload_n 0, 1) := by decide +kernel
theorem dX12_drifts_54 : decode cX12_drifts 54 = .ok (.aload_n 0, 1) := by decide +kernel
theorem dX12_drifts_55 : decode cX12_drifts 55 = .ok (.getfield 256, 3) := by decide +kernel
theorem dX12_drifts_58 : decode cX12_drifts 58 = .ok (.ldc_w 259, 3) := by decide +kernel
theorem dX12_drifts_61 : decode cX12_drifts 61 = .ok (.imul, 1) := by decide +kernel
theorem dX12_drifts_62 : decode cX12_drifts 62 = .ok (.sipush 12345, 3) := by decide +kernel
theorem dX12_drifts_65 : decode cX12_drifts 65 = .ok (.iadd, 1) := by decide +kernel
theorem dX12_drifts_66 : decode cX12_drifts 66 = .ok (.putfield 256, 3) := by decide +kernel
theorem dX12_drifts_69 : decode cX12_drifts 69 = .ok (.aload_n 0, 1) := by decide +kernel
theorem dX12_drifts_70 : decode cX12_drifts 70 = .ok (.getfield 256, 3) := by decide +kernel
theorem dX12_drifts_73 : decode cX12_drifts 73 = .ok (.bipush 8, 2) := by decide +kernel
theorem dX12_drifts_75 : decode cX12_drifts 75 = .ok (.iushr, 1) := by decide +kernel
theorem dX12_drifts_76 : decode cX12_drifts 76 = .ok (.bipush 12, 2) := by decide +kernel
theorem dX12_drifts_78 : decode cX12_drifts 78 = .ok (.irem, 1) := by decide +kernel
theorem dX12_drifts_79 : decode cX12_drifts 79 = .ok (.aload_n 0, 1) := by decide +kernel
theorem dX12_drifts_80 : decode cX12_drifts 80 = .ok (.getfield 260, 3) := by decide +kernel
theorem dX12_drifts_83 : decode cX12_drifts 83 = .ok (.if_icmp .ge 6, 3) := by decide +kernel
theorem dX12_drifts_86 : decode cX12_drifts 86 = .ok (.iinc 4 1, 3) := by decide +kernel
theorem dX12_drifts_89 : decode cX12_drifts 89 = .ok (.aload_n 0, 1) := by decide +kernel
theorem dX12_drifts_90 : decode cX12_drifts 90 = .ok (.getfield 106, 3) := by decide +kernel
theorem dX12_drifts_93 : decode cX12_drifts 93 = .ok (.bipush 8, 2) := by decide +kernel
theorem dX12_drifts_95 : decode cX12_drifts 95 = .ok (.iload_n 2, 1) := by decide +kernel
theorem dX12_drifts_96 : decode cX12_drifts 96 = .ok (.imul, 1) := by decide +kernel
theorem dX12_drifts_97 : decode cX12_drifts 97 = .ok (.bipush 8, 2) := by decide +kernel
theorem dX12_drifts_99 : decode cX12_drifts 99 = .ok (.iadd, 1) := by decide +kernel
theorem dX12_drifts_100 : decode cX12_drifts 100 = .ok (.iload_n 3, 1) := by decide +kernel
theorem dX12_drifts_101 : decode cX12_drifts 101 = .ok (.iadd, 1) := by decide +kernel
theorem dX12_drifts_102 : decode cX12_drifts 102 = .ok (.aload_n 0, 1) := by decide +kernel
theorem dX12_drifts_103 : decode cX12_drifts 103 = .ok (.getfield 106, 3) := by decide +kernel
theorem dX12_drifts_106 : decode cX12_drifts 106 = .ok (.bipush 8, 2) := by decide +kernel
theorem dX12_drifts_108 : decode cX12_drifts 108 = .ok (.iload_n 2, 1) := by decide +kernel
theorem dX12_drifts_109 : decode cX12_drifts 109 = .ok (.imul, 1) := by decide +kernel
theorem dX12_drifts_110 : decode cX12_drifts 110 = .ok (.iload_n 3, 1) := by decide +kernel
theorem dX12_drifts_111 : decode cX12_drifts 111 = .ok (.iadd, 1) := by decide +kernel
theorem dX12_drifts_112 : decode cX12_drifts 112 = .ok (.iaload, 1) := by decide +kernel
theorem dX12_drifts_113 : decode cX12_drifts 113 = .ok (.iload 4, 2) := by decide +kernel
theorem dX12_drifts_115 : decode cX12_drifts 115 = .ok (.iadd, 1) := by decide +kernel
theorem dX12_drifts_116 : decode cX12_drifts 116 = .ok (.iastore, 1) := by decide +kernel
theorem dX12_drifts_117 : decode cX12_drifts 117 = .ok (.iinc 3 1, 3) := by decide +kernel
theorem dX12_drifts_120 : decode cX12_drifts 120 = .ok (.goto (-87), 3) := by decide +kernel
theorem dX12_drifts_123 : decode cX12_drifts 123 = .ok (.iconst 0, 1) := by decide +kernel
theorem dX12_drifts_124 : decode cX12_drifts 124 = .ok (.istore_n 3, 1) := by decide +kernel
theorem dX12_drifts_125 : decode cX12_drifts 125 = .ok (.iload_n 3, 1) := by decide +kernel
theorem dX12_drifts_126 : decode cX12_drifts 126 = .ok (.aload_n 0, 1) := by decide +kernel
theorem dX12_drifts_127 : decode cX12_drifts 127 = .ok (.getfield 125, 3) := by decide +kernel
theorem dX12_drifts_130 : decode cX12_drifts 130 = .ok (.if_icmp .ge 65, 3) := by decide +kernel
theorem dX12_drifts_133 : decode cX12_drifts 133 = .ok (.aload_n 0, 1) := by decide +kernel
theorem dX12_drifts_134 : decode cX12_drifts 134 = .ok (.getfield 103, 3) := by decide +kernel
theorem dX12_drifts_137 : decode cX12_drifts 137 = .ok (.iload_n 2, 1) := by decide +kernel
theorem dX12_drifts_138 : decode cX12_drifts 138 = .ok (.iaload, 1) := by decide +kernel
theorem dX12_drifts_139 : decode cX12_drifts 139 = .ok (.iconst 4, 1) := by decide +kernel
theorem dX12_drifts_140 : decode cX12_drifts 140 = .ok (.if_icmp .ne 55, 3) := by decide +kernel
theorem dX12_drifts_143 : decode cX12_drifts 143 = .ok (.aload_n 0, 1) := by decide +kernel
theorem dX12_drifts_144 : decode cX12_drifts 144 = .ok (.aload_n 0, 1) := by decide +kernel
theorem dX12_drifts_145 : decode cX12_drifts 145 = .ok (.getfield 30, 3) := by decide +kernel
theorem dX12_drifts_148 : decode cX12_drifts 148 = .ok (.iconst 0, 1) := by decide +kernel
theorem dX12_drifts_149 : decode cX12_drifts 149 = .ok (.iaload, 1) := by decide +kernel
theorem dX12_drifts_150 : decode cX12_drifts 150 = .ok (.invokevirtual 132, 3) := by decide +kernel
theorem dX12_drifts_153 : decode cX12_drifts 153 = .ok (.ifCond .eq 42, 3) := by decide +kernel
theorem dX12_drifts_156 : decode cX12_drifts 156 = .ok (.aload_n 0, 1) := by decide +kernel
theorem dX12_drifts_157 : decode cX12_drifts 157 = .ok (.getfield 106, 3) := by decide +kernel
theorem dX12_drifts_160 : decode cX12_drifts 160 = .ok (.bipush 8, 2) := by decide +kernel
theorem dX12_drifts_162 : decode cX12_drifts 162 = .ok (.iload_n 2, 1) := by decide +kernel
theorem dX12_drifts_163 : decode cX12_drifts 163 = .ok (.imul, 1) := by decide +kernel
theorem dX12_drifts_164 : decode cX12_drifts 164 = .ok (.bipush 8, 2) := by decide +kernel
theorem dX12_drifts_166 : decode cX12_drifts 166 = .ok (.iadd, 1) := by decide +kernel
theorem dX12_drifts_167 : decode cX12_drifts 167 = .ok (.iload_n 3, 1) := by decide +kernel
theorem dX12_drifts_168 : decode cX12_drifts 168 = .ok (.iadd, 1) := by decide +kernel
theorem dX12_drifts_169 : decode cX12_drifts 169 = .ok (.aload_n 0, 1) := by decide +kernel
theorem dX12_drifts_170 : decode cX12_drifts 170 = .ok (.getfield 106, 3) := by decide +kernel
theorem dX12_drifts_173 : decode cX12_drifts 173 = .ok (.bipush 8, 2) := by decide +kernel
theorem dX12_drifts_175 : decode cX12_drifts 175 = .ok (.iload_n 2, 1) := by decide +kernel
theorem dX12_drifts_176 : decode cX12_drifts 176 = .ok (.imul, 1) := by decide +kernel
theorem dX12_drifts_177 : decode cX12_drifts 177 = .ok (.bipush 8, 2) := by decide +kernel
theorem dX12_drifts_179 : decode cX12_drifts 179 = .ok (.iadd, 1) := by decide +kernel
theorem dX12_drifts_180 : decode cX12_drifts 180 = .ok (.aload_n 0, 1) := by decide +kernel
theorem dX12_drifts_181 : decode cX12_drifts 181 = .ok (.getfield 30, 3) := by decide +kernel
theorem dX12_drifts_184 : decode cX12_drifts 184 = .ok (.iconst 0, 1) := by decide +kernel
theorem dX12_drifts_185 : decode cX12_drifts 185 = .ok (.iaload, 1) := by decide +kernel
theorem dX12_drifts_186 : decode cX12_drifts 186 = .ok (.iadd, 1) := by decide +kernel
theorem dX12_drifts_187 : decode cX12_drifts 187 = .ok (.iaload, 1) := by decide +kernel
theorem dX12_drifts_188 : decode cX12_drifts 188 = .ok (.iastore, 1) := by decide +kernel
theorem dX12_drifts_189 : decode cX12_drifts 189 = .ok (.iinc 3 1, 3) := by decide +kernel
theorem dX12_drifts_192 : decode cX12_drifts 192 = .ok (.goto (-67), 3) := by decide +kernel
theorem dX12_drifts_195 : decode cX12_drifts 195 = .ok (.aload_n 0, 1) := by decide +kernel
theorem dX12_drifts_196 : decode cX12_drifts 196 = .ok (.getfield 121, 3) := by decide +kernel
theorem dX12_drifts_199 : decode cX12_drifts 199 = .ok (.bipush (-2), 2) := by decide +kernel
theorem dX12_drifts_201 : decode cX12_drifts 201 = .ok (.if_icmp .eq 35, 3) := by decide +kernel
theorem dX12_drifts_204 : decode cX12_drifts 204 = .ok (.aload_n 0, 1) := by decide +kernel
theorem dX12_drifts_205 : decode cX12_drifts 205 = .ok (.getfield 263, 3) := by decide +kernel
theorem dX12_drifts_208 : decode cX12_drifts 208 = .ok (.iload_n 2, 1) := by decide +kernel
theorem dX12_drifts_209 : decode cX12_drifts 209 = .ok (.if_icmp .ne 27, 3) := by decide +kernel
theorem dX12_drifts_212 : decode cX12_drifts 212 = .ok (.aload_n 0, 1) := by decide +kernel
theorem dX12_drifts_213 : decode cX12_drifts 213 = .ok (.getfield 106, 3) := by decide +kernel
theorem dX12_drifts_216 : decode cX12_drifts 216 = .ok (.bipush 8, 2) := by decide +kernel
theorem dX12_drifts_218 : decode cX12_drifts 218 = .ok (.iload_n 2, 1) := by decide +kernel
theorem dX12_drifts_219 : decode cX12_drifts 219 = .ok (.imul, 1) := by decide +kernel
theorem dX12_drifts_220 : decode cX12_drifts 220 = .ok (.bipush 8, 2) := by decide +kernel
theorem dX12_drifts_222 : decode cX12_drifts 222 = .ok (.iadd, 1) := by decide +kernel
theorem dX12_drifts_223 : decode cX12_drifts 223 = .ok (.aload_n 0, 1) := by decide +kernel
theorem dX12_drifts_224 : decode cX12_drifts 224 = .ok (.getfield 121, 3) := by decide +kernel
theorem dX12_drifts_227 : decode cX12_drifts 227 = .ok (.iadd, 1) := by decide +kernel
theorem dX12_drifts_228 : decode cX12_drifts 228 = .ok (.dup2, 1) := by decide +kernel
theorem dX12_drifts_229 : decode cX12_drifts 229 = .ok (.iaload, 1) := by decide +kernel
theorem dX12_drifts_230 : decode cX12_drifts 230 = .ok (.aload_n 0, 1) := by decide +kernel
theorem dX12_drifts_231 : decode cX12_drifts 231 = .ok (.getfield 266, 3) := by decide +kernel
theorem dX12_drifts_234 : decode cX12_drifts 234 = .ok (.iadd, 1) := by decide +kernel
theorem dX12_drifts_235 : decode cX12_drifts 235 = .ok (.iastore, 1) := by decide +kernel
theorem dX12_drifts_236 : decode cX12_drifts 236 = .ok (.iinc 2 1, 3) := by decide +kernel
theorem dX12_drifts_239 : decode cX12_drifts 239 = .ok (.goto (-216), 3) := by decide +kernel
theorem dX12_drifts_242 : decode cX12_drifts 242 = .ok (.return_, 1) := by decide +kernel
theorem dX12_offOf_0 : decode cX12_offOf 0 = .ok (.aload_n 0, 1) := by decide +kernel
theorem dX12_offOf_1 : decode cX12_offOf 1 = .ok (.getfield 106, 3) := by decide +kernel
theorem dX12_offOf_4 : decode cX12_offOf 4 = .ok (.bipush 8, 2) := by decide +kernel
theorem dX12_offOf_6 : decode cX12_offOf 6 = .ok (.iload_n 2, 1) := by decide +kernel
theorem dX12_offOf_7 : decode cX12_offOf 7 = .ok (.imul, 1) := by decide +kernel
theorem dX12_offOf_8 : decode cX12_offOf 8 = .ok (.iload_n 1, 1) := by decide +kernel
theorem dX12_offOf_9 : decode cX12_offOf 9 = .ok (.iadd, 1) := by decide +kernel
theorem dX12_offOf_10 : decode cX12_offOf 10 = .ok (.iaload, 1) := by decide +kernel
theorem dX12_offOf_11 : decode cX12_offOf 11 = .ok (.aload_n 0, 1) := by decide +kernel
theorem dX12_offOf_12 : decode cX12_offOf 12 = .ok (.getfield 27, 3) := by decide +kernel
theorem dX12_offOf_15 : decode cX12_offOf 15 = .ok (.iload_n 1, 1) := by decide +kernel
theorem dX12_offOf_16 : decode cX12_offOf 16 = .ok (.iaload, 1) := by decide +kernel
theorem dX12_offOf_17 : decode cX12_offOf 17 = .ok (.isub, 1) := by decide +kernel
theorem dX12_offOf_18 : decode cX12_offOf 18 = .ok (.ireturn, 1) := by decide +kernel
theorem dX12_apartOf_0 : decode cX12_apartOf 0 = .ok (.aload_n 0, 1) := by decide +kernel
theorem dX12_apartOf_1 : decode cX12_apartOf 1 = .ok (.iload_n 1, 1) := by decide +kernel
theorem dX12_apartOf_2 : decode cX12_apartOf 2 = .ok (.iload_n 3, 1) := by decide +kernel
theorem dX12_apartOf_3 : decode cX12_apartOf 3 = .ok (.invokevirtual 269, 3) := by decide +kernel
theorem dX12_apartOf_6 : decode cX12_apartOf 6 = .ok (.aload_n 0, 1) := by decide +kernel
theorem dX12_apartOf_7 : decode cX12_apartOf 7 = .ok (.iload_n 2, 1) := by decide +kernel
theorem dX12_apartOf_8 : decode cX12_apartOf 8 = .ok (.iload_n 3, 1) := by decide +kernel
theorem dX12_apartOf_9 : decode cX12_apartOf 9 = .ok (.invokevirtual 269, 3) := by decide +kernel
theorem dX12_apartOf_12 : decode cX12_apartOf 12 = .ok (.isub, 1) := by decide +kernel
theorem dX12_apartOf_13 : decode cX12_apartOf 13 = .ok (.invokestatic 237, 3) := by decide +kernel
theorem dX12_apartOf_16 : decode cX12_apartOf 16 = .ok (.ireturn, 1) := by decide +kernel
theorem dX12_farthest_0 : decode cX12_farthest 0 = .ok (.bipush (-2), 2) := by decide +kernel
theorem dX12_farthest_2 : decode cX12_farthest 2 = .ok (.istore_n 2, 1) := by decide +kernel
theorem dX12_farthest_3 : decode cX12_farthest 3 = .ok (.iconst (-1), 1) := by decide +kernel
theorem dX12_farthest_4 : decode cX12_farthest 4 = .ok (.istore_n 3, 1) := by decide +kernel
theorem dX12_farthest_5 : decode cX12_farthest 5 = .ok (.iconst 0, 1) := by decide +kernel
theorem dX12_farthest_6 : decode cX12_farthest 6 = .ok (.istore 4, 2) := by decide +kernel
theorem dX12_farthest_8 : decode cX12_farthest 8 = .ok (.iload 4, 2) := by decide +kernel
theorem dX12_farthest_10 : decode cX12_farthest 10 = .ok (.aload_n 0, 1) := by decide +kernel
theorem dX12_farthest_11 : decode cX12_farthest 11 = .ok (.getfield 125, 3) := by decide +kernel
theorem dX12_farthest_14 : decode cX12_farthest 14 = .ok (.if_icmp .ge 65, 3) := by decide +kernel
theorem dX12_farthest_17 : decode cX12_farthest 17 = .ok (.iload 4, 2) := by decide +kernel
theorem dX12_farthest_19 : decode cX12_farthest 19 = .ok (.iconst 1, 1) := by decide +kernel
theorem dX12_farthest_20 : decode cX12_farthest 20 = .ok (.iadd, 1) := by decide +kernel
theorem dX12_farthest_21 : decode cX12_farthest 21 = .ok (.istore 5, 2) := by decide +kernel
theorem dX12_farthest_23 : decode cX12_farthest 23 = .ok (.iload 5, 2) := by decide +kernel
theorem dX12_farthest_25 : decode cX12_farthest 25 = .ok (.aload_n 0, 1) := by decide +kernel
theorem dX12_farthest_26 : decode cX12_farthest 26 = .ok (.getfield 125, 3) := by decide +kernel
theorem dX12_farthest_29 : decode cX12_farthest 29 = .ok (.if_icmp .ge 44, 3) := by decide +kernel
theorem dX12_farthest_32 : decode cX12_farthest 32 = .ok (.aload_n 0, 1) := by decide +kernel
theorem dX12_farthest_33 : decode cX12_farthest 33 = .ok (.iload 4, 2) := by decide +kernel
theorem dX12_farthest_35 : decode cX12_farthest 35 = .ok (.iload 5, 2) := by decide +kernel
theorem dX12_farthest_37 : decode cX12_farthest 37 = .ok (.iload_n 1, 1) := by decide +kernel
theorem dX12_farthest_38 : decode cX12_farthest 38 = .ok (.invokevirtual 272, 3) := by decide +kernel
theorem dX12_farthest_41 : decode cX12_farthest 41 = .ok (.iload_n 3, 1) := by decide +kernel
theorem dX12_farthest_42 : decode cX12_farthest 42 = .ok (.if_icmp .gt 6, 3) := by decide +kernel
theorem dX12_farthest_45 : decode cX12_farthest 45 = .ok (.goto 22, 3) := by decide +kernel
theorem dX12_farthest_48 : decode cX12_farthest 48 = .ok (.aload_n 0, 1) := by decide +kernel
theorem dX12_farthest_49 : decode cX12_farthest 49 = .ok (.iload 4, 2) := by decide +kernel
theorem dX12_farthest_51 : decode cX12_farthest 51 = .ok (.iload 5, 2) := by decide +kernel
theorem dX12_farthest_53 : decode cX12_farthest 53 = .ok (.iload_n 1, 1) := by decide +kernel
theorem dX12_farthest_54 : decode cX12_farthest 54 = .ok (.invokevirtual 272, 3) := by decide +kernel
theorem dX12_farthest_57 : decode cX12_farthest 57 = .ok (.istore_n 3, 1) := by decide +kernel
theorem dX12_farthest_58 : decode cX12_farthest 58 = .ok (.bipush 10, 2) := by decide +kernel
theorem dX12_farthest_60 : decode cX12_farthest 60 = .ok (.iload 4, 2) := by decide +kernel
theorem dX12_farthest_62 : decode cX12_farthest 62 = .ok (.imul, 1) := by decide +kernel
theorem dX12_farthest_63 : decode cX12_farthest 63 = .ok (.iload 5, 2) := by decide +kernel
theorem dX12_farthest_65 : decode cX12_farthest 65 = .ok (.iadd, 1) := by decide +kernel
theorem dX12_farthest_66 : decode cX12_farthest 66 = .ok (.istore_n 2, 1) := by decide +kernel
theorem dX12_farthest_67 : decode cX12_farthest 67 = .ok (.iinc 5 1, 3) := by decide +kernel
theorem dX12_farthest_70 : decode cX12_farthest 70 = .ok (.goto (-47), 3) := by decide +kernel
theorem dX12_farthest_73 : decode cX12_farthest 73 = .ok (.iinc 4 1, 3) := by decide +kernel
theorem dX12_farthest_76 : decode cX12_farthest 76 = .ok (.goto (-68), 3) := by decide +kernel
theorem dX12_farthest_79 : decode cX12_farthest 79 = .ok (.iload_n 2, 1) := by decide +kernel
theorem dX12_farthest_80 : decode cX12_farthest 80 = .ok (.ireturn, 1) := by decide +kernel
theorem dX12_greatest_0 : decode cX12_greatest 0 = .ok (.aload_n 0, 1) := by decide +kernel
theorem dX12_greatest_1 : decode cX12_greatest 1 = .ok (.iload_n 1, 1) := by decide +kernel
theorem dX12_greatest_2 : decode cX12_greatest 2 = .ok (.invokevirtual 275, 3) := by decide +kernel
theorem dX12_greatest_5 : decode cX12_greatest 5 = .ok (.istore_n 2, 1) := by decide +kernel
theorem dX12_greatest_6 : decode cX12_greatest 6 = .ok (.iload_n 2, 1) := by decide +kernel
theorem dX12_greatest_7 : decode cX12_greatest 7 = .ok (.bipush (-2), 2) := by decide +kernel
theorem dX12_greatest_9 : decode cX12_greatest 9 = .ok (.if_icmp .ne 7, 3) := by decide +kernel
theorem dX12_greatest_12 : decode cX12_greatest 12 = .ok (.iconst 0, 1) := by decide +kernel
theorem dX12_greatest_13 : decode cX12_greatest 13 = .ok (.goto 16, 3) := by decide +kernel
theorem dX12_greatest_16 : decode cX12_greatest 16 = .ok (.aload_n 0, 1) := by decide +kernel
theorem dX12_greatest_17 : decode cX12_greatest 17 = .ok (.iload_n 2, 1) := by decide +kernel
theorem dX12_greatest_18 : decode cX12_greatest 18 = .ok (.bipush 10, 2) := by decide +kernel
theorem dX12_greatest_20 : decode cX12_greatest 20 = .ok (.idiv, 1) := by decide +kernel
theorem dX12_greatest_21 : decode cX12_greatest 21 = .ok (.iload_n 2, 1) := by decide +kernel
theorem dX12_greatest_22 : decode cX12_greatest 22 = .ok (.bipush 10, 2) := by decide +kernel
theorem dX12_greatest_24 : decode cX12_greatest 24 = .ok (.irem, 1) := by decide +kernel
theorem dX12_greatest_25 : decode cX12_greatest 25 = .ok (.iload_n 1, 1) := by decide +kernel
theorem dX12_greatest_26 : decode cX12_greatest 26 = .ok (.invokevirtual 272, 3) := by decide +kernel
theorem dX12_greatest_29 : decode cX12_greatest 29 = .ok (.ireturn, 1) := by decide +kernel
theorem dX12_marks_0 : decode cX12_marks 0 = .ok (.iconst 0, 1) := by decide +kernel
theorem dX12_marks_1 : decode cX12_marks 1 = .ok (.istore_n 1, 1) := by decide +kernel
theorem dX12_marks_2 : decode cX12_marks 2 = .ok (.iconst 0, 1) := by decide +kernel
theorem dX12_marks_3 : decode cX12_marks 3 = .ok (.istore_n 2, 1) := by decide +kernel
theorem dX12_marks_4 : decode cX12_marks 4 = .ok (.iload_n 2, 1) := by decide +kernel
theorem dX12_marks_5 : decode cX12_marks 5 = .ok (.aload_n 0, 1) := by decide +kernel
theorem dX12_marks_6 : decode cX12_marks 6 = .ok (.getfield 125, 3) := by decide +kernel
theorem dX12_marks_9 : decode cX12_marks 9 = .ok (.if_icmp .ge 110, 3) := by decide +kernel
theorem dX12_marks_12 : decode cX12_marks 12 = .ok (.iload_n 2, 1) := by decide +kernel
theorem dX12_marks_13 : decode cX12_marks 13 = .ok (.iconst 1, 1) := by decide +kernel
theorem dX12_marks_14 : decode cX12_marks 14 = .ok (.iadd, 1) := by decide +kernel
theorem dX12_marks_15 : decode cX12_marks 15 = .ok (.istore_n 3, 1) := by decide +kernel
theorem dX12_marks_16 : decode cX12_marks 16 = .ok (.iload_n 3, 1) := by decide +kernel
theorem dX12_marks_17 : decode cX12_marks 17 = .ok (.aload_n 0, 1) := by decide +kernel
theorem dX12_marks_18 : decode cX12_marks 18 = .ok (.getfield 125, 3) := by decide +kernel
theorem dX12_marks_21 : decode cX12_marks 21 = .ok (.if_icmp .ge 92, 3) := by decide +kernel
theorem dX12_marks_24 : decode cX12_marks 24 = .ok (.aload_n 0, 1) := by decide +kernel
theorem dX12_marks_25 : decode cX12_marks 25 = .ok (.getfield 109, 3) := by decide +kernel
theorem dX12_marks_28 : decode cX12_marks 28 = .ok (.bipush 10, 2) := by decide +kernel
theorem dX12_marks_30 : decode cX12_marks 30 = .ok (.iload_n 2, 1) := by decide +kernel
theorem dX12_marks_31 : decode cX12_marks 31 = .ok (.imul, 1) := by decide +kernel
theorem dX12_marks_32 : decode cX12_marks 32 = .ok (.iload_n 3, 1) := by decide +kernel
theorem dX12_marks_33 : decode cX12_marks 33 = .ok (.iadd, 1) := by decide +kernel
theorem dX12_marks_34 : decode cX12_marks 34 = .ok (.iconst 0, 1) := by decide +kernel
theorem dX12_marks_35 : decode cX12_marks 35 = .ok (.iastore, 1) := by decide +kernel
theorem dX12_marks_36 : decode cX12_marks 36 = .ok (.iconst 0, 1) := by decide +kernel
theorem dX12_marks_37 : decode cX12_marks 37 = .ok (.istore 4, 2) := by decide +kernel
theorem dX12_marks_39 : decode cX12_marks 39 = .ok (.iload 4, 2) := by decide +kernel
theorem dX12_marks_41 : decode cX12_marks 41 = .ok (.aload_n 0, 1) := by decide +kernel
theorem dX12_marks_42 : decode cX12_marks 42 = .ok (.getfield 253, 3) := by decide +kernel
theorem dX12_marks_45 : decode cX12_marks 45 = .ok (.if_icmp .ge 48, 3) := by decide +kernel
theorem dX12_marks_48 : decode cX12_marks 48 = .ok (.aload_n 0, 1) := by decide +kernel
theorem dX12_marks_49 : decode cX12_marks 49 = .ok (.getfield 109, 3) := by decide +kernel
theorem dX12_marks_52 : decode cX12_marks 52 = .ok (.bipush 10, 2) := by decide +kernel
theorem dX12_marks_54 : decode cX12_marks 54 = .ok (.iload_n 2, 1) := by decide +kernel
theorem dX12_marks_55 : decode cX12_marks 55 = .ok (.imul, 1) := by decide +kernel
theorem dX12_marks_56 : decode cX12_marks 56 = .ok (.iload_n 3, 1) := by decide +kernel
theorem dX12_marks_57 : decode cX12_marks 57 = .ok (.iadd, 1) := by decide +kernel
theorem dX12_marks_58 : decode cX12_marks 58 = .ok (.dup2, 1) := by decide +kernel
theorem dX12_marks_59 : decode cX12_marks 59 = .ok (.iaload, 1) := by decide +kernel
theorem dX12_marks_60 : decode cX12_marks 60 = .ok (.aload_n 0, 1) := by decide +kernel
theorem dX12_marks_61 : decode cX12_marks 61 = .ok (.iload_n 2, 1) := by decide +kernel
theorem dX12_marks_62 : decode cX12_marks 62 = .ok (.iload_n 3, 1) := by decide +kernel
theorem dX12_marks_63 : decode cX12_marks 63 = .ok (.aload_n 0, 1) := by decide +kernel
theorem dX12_marks_64 : decode cX12_marks 64 = .ok (.iload_n 2, 1) := by decide +kernel
theorem dX12_marks_65 : decode cX12_marks 65 = .ok (.iload_n 3, 1) := by decide +kernel
theorem dX12_marks_66 : decode cX12_marks 66 = .ok (.iload 4, 2) := by decide +kernel
theorem dX12_marks_68 : decode cX12_marks 68 = .ok (.iconst 1, 1) := by decide +kernel
theorem dX12_marks_69 : decode cX12_marks 69 = .ok (.iadd, 1) := by decide +kernel
theorem dX12_marks_70 : decode cX12_marks 70 = .ok (.invokevirtual 272, 3) := by decide +kernel
theorem dX12_marks_73 : decode cX12_marks 73 = .ok (.aload_n 0, 1) := by decide +kernel
theorem dX12_marks_74 : decode cX12_marks 74 = .ok (.getfield 103, 3) := by decide +kernel
theorem dX12_marks_77 : decode cX12_marks 77 = .ok (.iload 4, 2) := by decide +kernel
theorem dX12_marks_79 : decode cX12_marks 79 = .ok (.iaload, 1) := by decide +kernel
theorem dX12_marks_80 : decode cX12_marks 80 = .ok (.iload 4, 2) := by decide +kernel
theorem dX12_marks_82 : decode cX12_marks 82 = .ok (.invokevirtual 249, 3) := by decide +kernel
theorem dX12_marks_85 : decode cX12_marks 85 = .ok (.iadd, 1) := by decide +kernel
theorem dX12_marks_86 : decode cX12_marks 86 = .ok (.iastore, 1) := by decide +kernel
theorem dX12_marks_87 : decode cX12_marks 87 = .ok (.iinc 4 1, 3) := by decide +kernel
theorem dX12_marks_90 : decode cX12_marks 90 = .ok (.goto (-51), 3) := by decide +kernel
theorem dX12_marks_93 : decode cX12_marks 93 = .ok (.iload_n 1, 1) := by decide +kernel
theorem dX12_marks_94 : decode cX12_marks 94 = .ok (.aload_n 0, 1) := by decide +kernel
theorem dX12_marks_95 : decode cX12_marks 95 = .ok (.getfield 109, 3) := by decide +kernel
theorem dX12_marks_98 : decode cX12_marks 98 = .ok (.bipush 10, 2) := by decide +kernel
theorem dX12_marks_100 : decode cX12_marks 100 = .ok (.iload_n 2, 1) := by decide +kernel
theorem dX12_marks_101 : decode cX12_marks 101 = .ok (.imul, 1) := by decide +kernel
theorem dX12_marks_102 : decode cX12_marks 102 = .ok (.iload_n 3, 1) := by decide +kernel
theorem dX12_marks_103 : decode cX12_marks 103 = .ok (.iadd, 1) := by decide +kernel
theorem dX12_marks_104 : decode cX12_marks 104 = .ok (.iaload, 1) := by decide +kernel
theorem dX12_marks_105 : decode cX12_marks 105 = .ok (.iadd, 1) := by decide +kernel
theorem dX12_marks_106 : decode cX12_marks 106 = .ok (.istore_n 1, 1) := by decide +kernel
theorem dX12_marks_107 : decode cX12_marks 107 = .ok (.iinc 3 1, 3) := by decide +kernel
theorem dX12_marks_110 : decode cX12_marks 110 = .ok (.goto (-94), 3) := by decide +kernel
theorem dX12_marks_113 : decode cX12_marks 113 = .ok (.iinc 2 1, 3) := by decide +kernel
theorem dX12_marks_116 : decode cX12_marks 116 = .ok (.goto (-112), 3) := by decide +kernel
theorem dX12_marks_119 : decode cX12_marks 119 = .ok (.iload_n 1, 1) := by decide +kernel
theorem dX12_marks_120 : decode cX12_marks 120 = .ok (.ireturn, 1) := by decide +kernel
theorem dX12_marksNow_0 : decode cX12_marksNow 0 = .ok (.aload_n 0, 1) := by decide +kernel
theorem dX12_marksNow_1 : decode cX12_marksNow 1 = .ok (.iconst 0, 1) := by decide +kernel
theorem dX12_marksNow_2 : decode cX12_marksNow 2 = .ok (.invokevirtual 278, 3) := by decide +kernel
theorem dX12_marksNow_5 : decode cX12_marksNow 5 = .ok (.aload_n 0, 1) := by decide +kernel
theorem dX12_marksNow_6 : decode cX12_marksNow 6 = .ok (.invokevirtual 282, 3) := by decide +kernel
theorem dX12_marksNow_9 : decode cX12_marksNow 9 = .ok (.ireturn, 1) := by decide +kernel
theorem dX12_firstApart_0 : decode cX12_firstApart 0 = .ok (.iconst 0, 1) := by decide +kernel
theorem dX12_firstApart_1 : decode cX12_firstApart 1 = .ok (.istore_n 1, 1) := by decide +kernel
theorem dX12_firstApart_2 : decode cX12_firstApart 2 = .ok (.iload_n 1, 1) := by decide +kernel
theorem dX12_firstApart_3 : decode cX12_firstApart 3 = .ok (.aload_n 0, 1) := by decide +kernel
theorem dX12_firstApart_4 : decode cX12_firstApart 4 = .ok (.getfield 253, 3) := by decide +kernel
theorem dX12_firstApart_7 : decode cX12_firstApart 7 = .ok (.if_icmp .ge 35, 3) := by decide +kernel
theorem dX12_firstApart_10 : decode cX12_firstApart 10 = .ok (.aload_n 0, 1) := by decide +kernel
theorem dX12_firstApart_11 : decode cX12_firstApart 11 = .ok (.getfield 125, 3) := by decide +kernel
theorem dX12_firstApart_14 : decode cX12_firstApart 14 = .ok (.iconst 1, 1) := by decide +kernel
theorem dX12_firstApart_15 : decode cX12_firstApart 15 = .ok (.if_icmp .le 21, 3) := by decide +kernel
theorem dX12_firstApart_18 : decode cX12_firstApart 18 = .ok (.aload_n 0, 1) := by decide +kernel
theorem dX12_firstApart_19 : decode cX12_firstApart 19 = .ok (.iload_n 1, 1) := by decide +kernel
theorem dX12_firstApart_20 : decode cX12_firstApart 20 = .ok (.iconst 1, 1) := by decide +kernel
theorem dX12_firstApart_21 : decode cX12_firstApart 21 = .ok (.iadd, 1) := by decide +kernel
theorem dX12_firstApart_22 : decode cX12_firstApart 22 = .ok (.invokevirtual 285, 3) := by decide +kernel
theorem dX12_firstApart_25 : decode cX12_firstApart 25 = .ok (.aload_n 0, 1) := by decide +kernel
theorem dX12_firstApart_26 : decode cX12_firstApart 26 = .ok (.getfield 30, 3) := by decide +kernel
theorem dX12_firstApart_29 : decode cX12_firstApart 29 = .ok (.iconst 1, 1) := by decide +kernel
theorem dX12_firstApart_30 : decode cX12_firstApart 30 = .ok (.iaload, 1) := by decide +kernel
theorem dX12_firstApart_31 : decode cX12_firstApart 31 = .ok (.if_icmp .lt 5, 3) := by decide +kernel
theorem dX12_firstApart_34 : decode cX12_firstApart 34 = .ok (.iload_n 1, 1) := by decide +kernel
theorem dX12_firstApart_35 : decode cX12_firstApart 35 = .ok (.ireturn, 1) := by decide +kernel
theorem dX12_firstApart_36 : decode cX12_firstApart 36 = .ok (.iinc 1 1, 3) := by decide +kernel
theorem dX12_firstApart_39 : decode cX12_firstApart 39 = .ok (.goto (-37), 3) := by decide +kernel
theorem dX12_firstApart_42 : decode cX12_firstApart 42 = .ok (.bipush (-2), 2) := by decide +kernel
theorem dX12_firstApart_44 : decode cX12_firstApart 44 = .ok (.ireturn, 1) := by decide +kernel
theorem dX12_losers_0 : decode cX12_losers 0 = .ok (.bipush (-2), 2) := by decide +kernel
theorem dX12_losers_2 : decode cX12_losers 2 = .ok (.istore_n 1, 1) := by decide +kernel
theorem dX12_losers_3 : decode cX12_losers 3 = .ok (.iconst 0, 1) := by decide +kernel
theorem dX12_losers_4 : decode cX12_losers 4 = .ok (.istore_n 2, 1) := by decide +kernel
theorem dX12_losers_5 : decode cX12_losers 5 = .ok (.iconst 0, 1) := by decide +kernel
theorem dX12_losers_6 : decode cX12_losers 6 = .ok (.istore_n 3, 1) := by decide +kernel
theorem dX12_losers_7 : decode cX12_losers 7 = .ok (.iload_n 3, 1) := by decide +kernel
theorem dX12_losers_8 : decode cX12_losers 8 = .ok (.aload_n 0, 1) := by decide +kernel
theorem dX12_losers_9 : decode cX12_losers 9 = .ok (.getfield 125, 3) := by decide +kernel
theorem dX12_losers_12 : decode cX12_losers 12 = .ok (.if_icmp .ge 69, 3) := by decide +kernel
theorem dX12_losers_15 : decode cX12_losers 15 = .ok (.iload_n 3, 1) := by decide +kernel
theorem dX12_losers_16 : decode cX12_losers 16 = .ok (.iconst 1, 1) := by decide +kernel
theorem dX12_losers_17 : decode cX12_losers 17 = .ok (.iadd, 1) := by decide +kernel
theorem dX12_losers_18 : decode cX12_losers 18 = .ok (.istore 4, 2) := by decide +kernel
theorem dX12_losers_20 : decode cX12_losers 20 = .ok (.iload 4, 2) := by decide +kernel
theorem dX12_losers_22 : decode cX12_losers 22 = .ok (.aload_n 0, 1) := by decide +kernel
theorem dX12_losers_23 : decode cX12_losers 23 = .ok (.getfield 125, 3) := by decide +kernel
theorem dX12_losers_26 : decode cX12_losers 26 = .ok (.if_icmp .ge 49, 3) := by decide +kernel
theorem dX12_losers_29 : decode cX12_losers 29 = .ok (.aload_n 0, 1) := by decide +kernel
theorem dX12_losers_30 : decode cX12_losers 30 = .ok (.getfield 109, 3) := by decide +kernel
theorem dX12_losers_33 : decode cX12_losers 33 = .ok (.bipush 10, 2) := by decide +kernel
theorem dX12_losers_35 : decode cX12_losers 35 = .ok (.iload_n 3, 1) := by decide +kernel
theorem dX12_losers_36 : decode cX12_losers 36 = .ok (.imul, 1) := by decide +kernel
theorem dX12_losers_37 : decode cX12_losers 37 = .ok (.iload 4, 2) := by decide +kernel
theorem dX12_losers_39 : decode cX12_losers 39 = .ok (.iadd, 1) := by decide +kernel
theorem dX12_losers_40 : decode cX12_losers 40 = .ok (.iaload, 1) := by decide +kernel
theorem dX12_losers_41 : decode cX12_losers 41 = .ok (.iload_n 2, 1) := by decide +kernel
theorem dX12_losers_42 : decode cX12_losers 42 = .ok (.if_icmp .gt 6, 3) := by decide +kernel
theorem dX12_losers_45 : decode cX12_losers 45 = .ok (.goto 24, 3) := by decide +kernel
theorem dX12_losers_48 : decode cX12_losers 48 = .ok (.aload_n 0, 1) := by decide +kernel
theorem dX12_losers_49 : decode cX12_losers 49 = .ok (.getfield 109, 3) := by decide +kernel
theorem dX12_losers_52 : decode cX12_losers 52 = .ok (.bipush 10, 2) := by decide +kernel
theorem dX12_losers_54 : decode cX12_losers 54 = .ok (.iload_n 3, 1) := by decide +kernel
theorem dX12_losers_55 : decode cX12_losers 55 = .ok (.imul, 1) := by decide +kernel
theorem dX12_losers_56 : decode cX12_losers 56 = .ok (.iload 4, 2) := by decide +kernel
theorem dX12_losers_58 : decode cX12_losers 58 = .ok (.iadd, 1) := by decide +kernel
theorem dX12_losers_59 : decode cX12_losers 59 = .ok (.iaload, 1) := by decide +kernel
theorem dX12_losers_60 : decode cX12_losers 60 = .ok (.istore_n 2, 1) := by decide +kernel
theorem dX12_losers_61 : decode cX12_losers 61 = .ok (.bipush 10, 2) := by decide +kernel
theorem dX12_losers_63 : decode cX12_losers 63 = .ok (.iload_n 3, 1) := by decide +kernel
theorem dX12_losers_64 : decode cX12_losers 64 = .ok (.imul, 1) := by decide +kernel
theorem dX12_losers_65 : decode cX12_losers 65 = .ok (.iload 4, 2) := by decide +kernel
theorem dX12_losers_67 : decode cX12_losers 67 = .ok (.iadd, 1) := by decide +kernel
theorem dX12_losers_68 : decode cX12_losers 68 = .ok (.istore_n 1, 1) := by decide +kernel
theorem dX12_losers_69 : decode cX12_losers 69 = .ok (.iinc 4 1, 3) := by decide +kernel
theorem dX12_losers_72 : decode cX12_losers 72 = .ok (.goto (-52), 3) := by decide +kernel
theorem dX12_losers_75 : decode cX12_losers 75 = .ok (.iinc 3 1, 3) := by decide +kernel
theorem dX12_losers_78 : decode cX12_losers 78 = .ok (.goto (-71), 3) := by decide +kernel
theorem dX12_losers_81 : decode cX12_losers 81 = .ok (.iload_n 1, 1) := by decide +kernel
theorem dX12_losers_82 : decode cX12_losers 82 = .ok (.ireturn, 1) := by decide +kernel
theorem dX12_routine_0 : decode cX12_routine 0 = .ok (.iload_n 1, 1) := by decide +kernel
theorem dX12_routine_1 : decode cX12_routine 1 = .ok (.invokestatic 140, 3) := by decide +kernel
theorem dX12_routine_4 : decode cX12_routine 4 = .ok (.ifCond .eq 12, 3) := by decide +kernel
theorem dX12_routine_7 : decode cX12_routine 7 = .ok (.iload_n 2, 1) := by decide +kernel
theorem dX12_routine_8 : decode cX12_routine 8 = .ok (.iconst 0, 1) := by decide +kernel
theorem dX12_routine_9 : decode cX12_routine 9 = .ok (.iconst 3, 1) := by decide +kernel
theorem dX12_routine_10 : decode cX12_routine 10 = .ok (.invokestatic 128, 3) := by decide +kernel
theorem dX12_routine_13 : decode cX12_routine 13 = .ok (.ifCond .ne 5, 3) := by decide +kernel
theorem dX12_routine_16 : decode cX12_routine 16 = .ok (.iconst (-1), 1) := by decide +kernel
theorem dX12_routine_17 : decode cX12_routine 17 = .ok (.ireturn, 1) := by decide +kernel
theorem dX12_routine_18 : decode cX12_routine 18 = .ok (.aload_n 0, 1) := by decide +kernel
theorem dX12_routine_19 : decode cX12_routine 19 = .ok (.iload_n 1, 1) := by decide +kernel
theorem dX12_routine_20 : decode cX12_routine 20 = .ok (.iconst 0, 1) := by decide +kernel
theorem dX12_routine_21 : decode cX12_routine 21 = .ok (.invokevirtual 288, 3) := by decide +kernel
theorem dX12_routine_24 : decode cX12_routine 24 = .ok (.istore_n 3, 1) := by decide +kernel
theorem dX12_routine_25 : decode cX12_routine 25 = .ok (.iload_n 3, 1) := by decide +kernel
theorem dX12_routine_26 : decode cX12_routine 26 = .ok (.ifCond .ge 5, 3) := by decide +kernel
theorem dX12_routine_29 : decode cX12_routine 29 = .ok (.iload_n 3, 1) := by decide +kernel
theorem dX12_routine_30 : decode cX12_routine 30 = .ok (.ireturn, 1) := by decide +kernel
theorem dX12_routine_31 : decode cX12_routine 31 = .ok (.aload_n 0, 1) := by decide +kernel
theorem dX12_routine_32 : decode cX12_routine 32 = .ok (.iload_n 1, 1) := by decide +kernel
theorem dX12_routine_33 : decode cX12_routine 33 = .ok (.invokevirtual 291, 3) := by decide +kernel
theorem dX12_routine_36 : decode cX12_routine 36 = .ok (.aload_n 0, 1) := by decide +kernel
theorem dX12_routine_37 : decode cX12_routine 37 = .ok (.invokevirtual 295, 3) := by decide +kernel
theorem dX12_routine_40 : decode cX12_routine 40 = .ok (.istore 4, 2) := by decide +kernel
theorem dX12_routine_42 : decode cX12_routine 42 = .ok (.iload_n 2, 1) := by decide +kernel
theorem dX12_routine_43 : decode cX12_routine 43 = .ok (.ifCond .ne 10, 3) := by decide +kernel
theorem dX12_routine_46 : decode cX12_routine 46 = .ok (.aload_n 0, 1) := by decide +kernel
theorem dX12_routine_47 : decode cX12_routine 47 = .ok (.getfield 253, 3) := by decide +kernel
theorem dX12_routine_50 : decode cX12_routine 50 = .ok (.goto 29, 3) := by decide +kernel
theorem dX12_routine_53 : decode cX12_routine 53 = .ok (.iload_n 2, 1) := by decide +kernel
theorem dX12_routine_54 : decode cX12_routine 54 = .ok (.iconst 1, 1) := by decide +kernel
theorem dX12_routine_55 : decode cX12_routine 55 = .ok (.if_icmp .ne 8, 3) := by decide +kernel
theorem dX12_routine_58 : decode cX12_routine 58 = .ok (.iload 4, 2) := by decide +kernel
theorem dX12_routine_60 : decode cX12_routine 60 = .ok (.goto 19, 3) := by decide +kernel
theorem dX12_routine_63 : decode cX12_routine 63 = .ok (.iload_n 2, 1) := by decide +kernel
theorem dX12_routine_64 : decode cX12_routine 64 = .ok (.iconst 2, 1) := by decide +kernel
theorem dX12_routine_65 : decode cX12_routine 65 = .ok (.if_icmp .ne 10, 3) := by decide +kernel
theorem dX12_routine_68 : decode cX12_routine 68 = .ok (.aload_n 0, 1) := by decide +kernel
theorem dX12_routine_69 : decode cX12_routine 69 = .ok (.invokevirtual 298, 3) := by decide +kernel
theorem dX12_routine_72 : decode cX12_routine 72 = .ok (.goto 7, 3) := by decide +kernel
theorem dX12_routine_75 : decode cX12_routine 75 = .ok (.aload_n 0, 1) := by decide +kernel
theorem dX12_routine_76 : decode cX12_routine 76 = .ok (.invokevirtual 301, 3) := by decide +kernel
theorem dX12_routine_79 : decode cX12_routine 79 = .ok (.ireturn, 1) := by decide +kernel
theorem dX12_off_0 : decode cX12_off 0 = .ok (.iload_n 1, 1) := by decide +kernel
theorem dX12_off_1 : decode cX12_off 1 = .ok (.invokestatic 140, 3) := by decide +kernel
theorem dX12_off_4 : decode cX12_off 4 = .ok (.ifCond .eq 30, 3) := by decide +kernel
theorem dX12_off_7 : decode cX12_off 7 = .ok (.iload_n 2, 1) := by decide +kernel
theorem dX12_off_8 : decode cX12_off 8 = .ok (.iconst 0, 1) := by decide +kernel
theorem dX12_off_9 : decode cX12_off 9 = .ok (.bipush 60, 2) := by decide +kernel
theorem dX12_off_11 : decode cX12_off 11 = .ok (.invokestatic 128, 3) := by decide +kernel
theorem dX12_off_14 : decode cX12_off 14 = .ok (.ifCond .eq 20, 3) := by decide +kernel
theorem dX12_off_17 : decode cX12_off 17 = .ok (.aload_n 0, 1) := by decide +kernel
theorem dX12_off_18 : decode cX12_off 18 = .ok (.iload_n 3, 1) := by decide +kernel
theorem dX12_off_19 : decode cX12_off 19 = .ok (.invokevirtual 132, 3) := by decide +kernel
theorem dX12_off_22 : decode cX12_off 22 = .ok (.ifCond .eq 12, 3) := by decide +kernel
theorem dX12_off_25 : decode cX12_off 25 = .ok (.aload_n 0, 1) := by decide +kernel
theorem dX12_off_26 : decode cX12_off 26 = .ok (.iload_n 1, 1) := by decide +kernel
theorem dX12_off_27 : decode cX12_off 27 = .ok (.iconst 0, 1) := by decide +kernel
theorem dX12_off_28 : decode cX12_off 28 = .ok (.invokevirtual 288, 3) := by decide +kernel
theorem dX12_off_31 : decode cX12_off 31 = .ok (.ifCond .ge 6, 3) := by decide +kernel
theorem dX12_off_34 : decode cX12_off 34 = .ok (.ldc 152, 2) := by decide +kernel
theorem dX12_off_36 : decode cX12_off 36 = .ok (.ireturn, 1) := by decide +kernel
theorem dX12_off_37 : decode cX12_off 37 = .ok (.aload_n 0, 1) := by decide +kernel
theorem dX12_off_38 : decode cX12_off 38 = .ok (.iload_n 1, 1) := by decide +kernel
theorem dX12_off_39 : decode cX12_off 39 = .ok (.invokevirtual 291, 3) := by decide +kernel
theorem dX12_off_42 : decode cX12_off 42 = .ok (.aload_n 0, 1) := by decide +kernel
theorem dX12_off_43 : decode cX12_off 43 = .ok (.iconst 0, 1) := by decide +kernel
theorem dX12_off_44 : decode cX12_off 44 = .ok (.invokevirtual 278, 3) := by decide +kernel
theorem dX12_off_47 : decode cX12_off 47 = .ok (.aload_n 0, 1) := by decide +kernel
theorem dX12_off_48 : decode cX12_off 48 = .ok (.iload_n 3, 1) := by decide +kernel
theorem dX12_off_49 : decode cX12_off 49 = .ok (.iload_n 2, 1) := by decide +kernel
theorem dX12_off_50 : decode cX12_off 50 = .ok (.aload_n 0, 1) := by decide +kernel
theorem dX12_off_51 : decode cX12_off 51 = .ok (.getfield 253, 3) := by decide +kernel
theorem dX12_off_54 : decode cX12_off 54 = .ok (.invokestatic 232, 3) := by decide +kernel
theorem dX12_off_57 : decode cX12_off 57 = .ok (.invokevirtual 269, 3) := by decide +kernel
theorem dX12_off_60 : decode cX12_off 60 = .ok (.ireturn, 1) := by decide +kernel
theorem dX12_apart_0 : decode cX12_apart 0 = .ok (.iload_n 1, 1) := by decide +kernel
theorem dX12_apart_1 : decode cX12_apart 1 = .ok (.invokestatic 140, 3) := by decide +kernel
theorem dX12_apart_4 : decode cX12_apart 4 = .ok (.ifCond .eq 22, 3) := by decide +kernel
theorem dX12_apart_7 : decode cX12_apart 7 = .ok (.iload_n 2, 1) := by decide +kernel
theorem dX12_apart_8 : decode cX12_apart 8 = .ok (.iconst 0, 1) := by decide +kernel
theorem dX12_apart_9 : decode cX12_apart 9 = .ok (.bipush 60, 2) := by decide +kernel
theorem dX12_apart_11 : decode cX12_apart 11 = .ok (.invokestatic 128, 3) := by decide +kernel
theorem dX12_apart_14 : decode cX12_apart 14 = .ok (.ifCond .eq 12, 3) := by decide +kernel
theorem dX12_apart_17 : decode cX12_apart 17 = .ok (.iload_n 3, 1) := by decide +kernel
theorem dX12_apart_18 : decode cX12_apart 18 = .ok (.iconst 0, 1) := by decide +kernel
theorem dX12_apart_19 : decode cX12_apart 19 = .ok (.iconst 1, 1) := by decide +kernel
theorem dX12_apart_20 : decode cX12_apart 20 = .ok (.invokestatic 128, 3) := by decide +kernel
theorem dX12_apart_23 : decode cX12_apart 23 = .ok (.ifCond .ne 5, 3) := by decide +kernel
theorem dX12_apart_26 : decode cX12_apart 26 = .ok (.iconst (-1), 1) := by decide +kernel
theorem dX12_apart_27 : decode cX12_apart 27 = .ok (.ireturn, 1) := by decide +kernel
theorem dX12_apart_28 : decode cX12_apart 28 = .ok (.aload_n 0, 1) := by decide +kernel
theorem dX12_apart_29 : decode cX12_apart 29 = .ok (.iload_n 1, 1) := by decide +kernel
theorem dX12_apart_30 : decode cX12_apart 30 = .ok (.iconst 0, 1) := by decide +kernel
theorem dX12_apart_31 : decode cX12_apart 31 = .ok (.invokevirtual 288, 3) := by decide +kernel
theorem dX12_apart_34 : decode cX12_apart 34 = .ok (.istore 4, 2) := by decide +kernel
theorem dX12_apart_36 : decode cX12_apart 36 = .ok (.iload 4, 2) := by decide +kernel
theorem dX12_apart_38 : decode cX12_apart 38 = .ok (.ifCond .ge 6, 3) := by decide +kernel
theorem dX12_apart_41 : decode cX12_apart 41 = .ok (.iload 4, 2) := by decide +kernel
theorem dX12_apart_43 : decode cX12_apart 43 = .ok (.ireturn, 1) := by decide +kernel
theorem dX12_apart_44 : decode cX12_apart 44 = .ok (.aload_n 0, 1) := by decide +kernel
theorem dX12_apart_45 : decode cX12_apart 45 = .ok (.iload_n 1, 1) := by decide +kernel
theorem dX12_apart_46 : decode cX12_apart 46 = .ok (.invokevirtual 291, 3) := by decide +kernel
theorem dX12_apart_49 : decode cX12_apart 49 = .ok (.aload_n 0, 1) := by decide +kernel
theorem dX12_apart_50 : decode cX12_apart 50 = .ok (.iconst 0, 1) := by decide +kernel
theorem dX12_apart_51 : decode cX12_apart 51 = .ok (.invokevirtual 278, 3) := by decide +kernel
theorem dX12_apart_54 : decode cX12_apart 54 = .ok (.iload_n 3, 1) := by decide +kernel
theorem dX12_apart_55 : decode cX12_apart 55 = .ok (.ifCond .ne 18, 3) := by decide +kernel
theorem dX12_apart_58 : decode cX12_apart 58 = .ok (.aload_n 0, 1) := by decide +kernel
theorem dX12_apart_59 : decode cX12_apart 59 = .ok (.iload_n 2, 1) := by decide +kernel
theorem dX12_apart_60 : decode cX12_apart 60 = .ok (.aload_n 0, 1) := by decide +kernel
theorem dX12_apart_61 : decode cX12_apart 61 = .ok (.getfield 253, 3) := by decide +kernel
theorem dX12_apart_64 : decode cX12_apart 64 = .ok (.invokestatic 232, 3) := by decide +kernel
theorem dX12_apart_67 : decode cX12_apart 67 = .ok (.invokevirtual 285, 3) := by decide +kernel
theorem dX12_apart_70 : decode cX12_apart 70 = .ok (.goto 15, 3) := by decide +kernel
theorem dX12_apart_73 : decode cX12_apart 73 = .ok (.aload_n 0, 1) := by decide +kernel
theorem dX12_apart_74 : decode cX12_apart 74 = .ok (.iload_n 2, 1) := by decide +kernel
theorem dX12_apart_75 : decode cX12_apart 75 = .ok (.aload_n 0, 1) := by decide +kernel
theorem dX12_apart_76 : decode cX12_apart 76 = .ok (.getfield 253, 3) := by decide +kernel
theorem dX12_apart_79 : decode cX12_apart 79 = .ok (.invokestatic 232, 3) := by decide +kernel
theorem dX12_apart_82 : decode cX12_apart 82 = .ok (.invokevirtual 275, 3) := by decide +kernel
theorem dX12_apart_85 : decode cX12_apart 85 = .ok (.ireturn, 1) := by decide +kernel
theorem dX12_isUnder_0 : decode cX12_isUnder 0 = .ok (.iload_n 0, 1) := by decide +kernel
theorem dX12_isUnder_1 : decode cX12_isUnder 1 = .ok (.iconst 1, 1) := by decide +kernel
theorem dX12_isUnder_2 : decode cX12_isUnder 2 = .ok (.if_icmp .eq 8, 3) := by decide +kernel
theorem dX12_isUnder_5 : decode cX12_isUnder 5 = .ok (.iload_n 0, 1) := by decide +kernel
theorem dX12_isUnder_6 : decode cX12_isUnder 6 = .ok (.iconst 2, 1) := by decide +kernel
theorem dX12_isUnder_7 : decode cX12_isUnder 7 = .ok (.if_icmp .ne 7, 3) := by decide +kernel
theorem dX12_isUnder_10 : decode cX12_isUnder 10 = .ok (.iconst 1, 1) := by decide +kernel
theorem dX12_isUnder_11 : decode cX12_isUnder 11 = .ok (.goto 4, 3) := by decide +kernel
theorem dX12_isUnder_14 : decode cX12_isUnder 14 = .ok (.iconst 0, 1) := by decide +kernel
theorem dX12_isUnder_15 : decode cX12_isUnder 15 = .ok (.ireturn, 1) := by decide +kernel
theorem dX12_goneAt_0 : decode cX12_goneAt 0 = .ok (.iconst 0, 1) := by decide +kernel
theorem dX12_goneAt_1 : decode cX12_goneAt 1 = .ok (.istore_n 2, 1) := by decide +kernel
theorem dX12_goneAt_2 : decode cX12_goneAt 2 = .ok (.iconst 0, 1) := by decide +kernel
theorem dX12_goneAt_3 : decode cX12_goneAt 3 = .ok (.istore_n 3, 1) := by decide +kernel
theorem dX12_goneAt_4 : decode cX12_goneAt 4 = .ok (.iconst 0, 1) := by decide +kernel
theorem dX12_goneAt_5 : decode cX12_goneAt 5 = .ok (.istore 4, 2) := by decide +kernel
theorem dX12_goneAt_7 : decode cX12_goneAt 7 = .ok (.iload 4, 2) := by decide +kernel
theorem dX12_goneAt_9 : decode cX12_goneAt 9 = .ok (.aload_n 0, 1) := by decide +kernel
theorem dX12_goneAt_10 : decode cX12_goneAt 10 = .ok (.getfield 253, 3) := by decide +kernel
theorem dX12_goneAt_13 : decode cX12_goneAt 13 = .ok (.if_icmp .ge 50, 3) := by decide +kernel
theorem dX12_goneAt_16 : decode cX12_goneAt 16 = .ok (.aload_n 0, 1) := by decide +kernel
theorem dX12_goneAt_17 : decode cX12_goneAt 17 = .ok (.getfield 103, 3) := by decide +kernel
theorem dX12_goneAt_20 : decode cX12_goneAt 20 = .ok (.iload 4, 2) := by decide +kernel
theorem dX12_goneAt_22 : decode cX12_goneAt 22 = .ok (.iaload, 1) := by decide +kernel
theorem dX12_goneAt_23 : decode cX12_goneAt 23 = .ok (.invokestatic 304, 3) := by decide +kernel
theorem dX12_goneAt_26 : decode cX12_goneAt 26 = .ok (.ifCond .eq 16, 3) := by decide +kernel
theorem dX12_goneAt_29 : decode cX12_goneAt 29 = .ok (.iconst 0, 1) := by decide +kernel
theorem dX12_goneAt_30 : decode cX12_goneAt 30 = .ok (.istore_n 3, 1) := by decide +kernel
theorem dX12_goneAt_31 : decode cX12_goneAt 31 = .ok (.iinc 2 1, 3) := by decide +kernel
theorem dX12_goneAt_34 : decode cX12_goneAt 34 = .ok (.iload_n 2, 1) := by decide +kernel
theorem dX12_goneAt_35 : decode cX12_goneAt 35 = .ok (.iload_n 1, 1) := by decide +kernel
theorem dX12_goneAt_36 : decode cX12_goneAt 36 = .ok (.if_icmp .le 21, 3) := by decide +kernel
theorem dX12_goneAt_39 : decode cX12_goneAt 39 = .ok (.iload 4, 2) := by decide +kernel
theorem dX12_goneAt_41 : decode cX12_goneAt 41 = .ok (.ireturn, 1) := by decide +kernel
theorem dX12_goneAt_42 : decode cX12_goneAt 42 = .ok (.iinc 3 1, 3) := by decide +kernel
theorem dX12_goneAt_45 : decode cX12_goneAt 45 = .ok (.iload_n 3, 1) := by decide +kernel
theorem dX12_goneAt_46 : decode cX12_goneAt 46 = .ok (.aload_n 0, 1) := by decide +kernel
theorem dX12_goneAt_47 : decode cX12_goneAt 47 = .ok (.getfield 30, 3) := by decide +kernel
theorem dX12_goneAt_50 : decode cX12_goneAt 50 = .ok (.iconst 2, 1) := by decide +kernel
theorem dX12_goneAt_51 : decode cX12_goneAt 51 = .ok (.iaload, 1) := by decide +kernel
theorem dX12_goneAt_52 : decode cX12_goneAt 52 = .ok (.if_icmp .lt 5, 3) := by decide +kernel
theorem dX12_goneAt_55 : decode cX12_goneAt 55 = .ok (.iconst 0, 1) := by decide +kernel
theorem dX12_goneAt_56 : decode cX12_goneAt 56 = .ok (.istore_n 2, 1) := by decide +kernel
theorem dX12_goneAt_57 : decode cX12_goneAt 57 = .ok (.iinc 4 1, 3) := by decide +kernel
theorem dX12_goneAt_60 : decode cX12_goneAt 60 = .ok (.goto (-53), 3) := by decide +kernel
theorem dX12_goneAt_63 : decode cX12_goneAt 63 = .ok (.bipush (-2), 2) := by decide +kernel
theorem dX12_goneAt_65 : decode cX12_goneAt 65 = .ok (.ireturn, 1) := by decide +kernel
theorem dX12_goneBits_0 : decode cX12_goneBits 0 = .ok (.iconst 0, 1) := by decide +kernel
theorem dX12_goneBits_1 : decode cX12_goneBits 1 = .ok (.istore_n 1, 1) := by decide +kernel
theorem dX12_goneBits_2 : decode cX12_goneBits 2 = .ok (.iconst 0, 1) := by decide +kernel
theorem dX12_goneBits_3 : decode cX12_goneBits 3 = .ok (.istore_n 2, 1) := by decide +kernel
theorem dX12_goneBits_4 : decode cX12_goneBits 4 = .ok (.iload_n 2, 1) := by decide +kernel
theorem dX12_goneBits_5 : decode cX12_goneBits 5 = .ok (.aload_n 0, 1) := by decide +kernel
theorem dX12_goneBits_6 : decode cX12_goneBits 6 = .ok (.getfield 125, 3) := by decide +kernel
theorem dX12_goneBits_9 : decode cX12_goneBits 9 = .ok (.if_icmp .ge 30, 3) := by decide +kernel
theorem dX12_goneBits_12 : decode cX12_goneBits 12 = .ok (.aload_n 0, 1) := by decide +kernel
theorem dX12_goneBits_13 : decode cX12_goneBits 13 = .ok (.aload_n 0, 1) := by decide +kernel
theorem dX12_goneBits_14 : decode cX12_goneBits 14 = .ok (.getfield 21, 3) := by decide +kernel
theorem dX12_goneBits_17 : decode cX12_goneBits 17 = .ok (.iload_n 2, 1) := by decide +kernel
theorem dX12_goneBits_18 : decode cX12_goneBits 18 = .ok (.iaload, 1) := by decide +kernel
theorem dX12_goneBits_19 : decode cX12_goneBits 19 = .ok (.invokevirtual 307, 3) := by decide +kernel
theorem dX12_goneBits_22 : decode cX12_goneBits 22 = .ok (.bipush (-2), 2) := by decide +kernel
theorem dX12_goneBits_24 : decode cX12_goneBits 24 = .ok (.if_icmp .eq 9, 3) := by decide +kernel
theorem dX12_goneBits_27 : decode cX12_goneBits 27 = .ok (.iload_n 1, 1) := by decide +kernel
theorem dX12_goneBits_28 : decode cX12_goneBits 28 = .ok (.iconst 1, 1) := by decide +kernel
theorem dX12_goneBits_29 : decode cX12_goneBits 29 = .ok (.iload_n 2, 1) := by decide +kernel
theorem dX12_goneBits_30 : decode cX12_goneBits 30 = .ok (.ishl, 1) := by decide +kernel
theorem dX12_goneBits_31 : decode cX12_goneBits 31 = .ok (.ior, 1) := by decide +kernel
theorem dX12_goneBits_32 : decode cX12_goneBits 32 = .ok (.istore_n 1, 1) := by decide +kernel
theorem dX12_goneBits_33 : decode cX12_goneBits 33 = .ok (.iinc 2 1, 3) := by decide +kernel
theorem dX12_goneBits_36 : decode cX12_goneBits 36 = .ok (.goto (-32), 3) := by decide +kernel
theorem dX12_goneBits_39 : decode cX12_goneBits 39 = .ok (.iload_n 1, 1) := by decide +kernel
theorem dX12_goneBits_40 : decode cX12_goneBits 40 = .ok (.ireturn, 1) := by decide +kernel
theorem dX12_gone_0 : decode cX12_gone 0 = .ok (.iload_n 1, 1) := by decide +kernel
theorem dX12_gone_1 : decode cX12_gone 1 = .ok (.invokestatic 140, 3) := by decide +kernel
theorem dX12_gone_4 : decode cX12_gone 4 = .ok (.ifCond .eq 16, 3) := by decide +kernel
theorem dX12_gone_7 : decode cX12_gone 7 = .ok (.iload_n 2, 1) := by decide +kernel
theorem dX12_gone_8 : decode cX12_gone 8 = .ok (.iconst (-1), 1) := by decide +kernel
theorem dX12_gone_9 : decode cX12_gone 9 = .ok (.if_icmp .eq 13, 3) := by decide +kernel
theorem dX12_gone_12 : decode cX12_gone 12 = .ok (.aload_n 0, 1) := by decide +kernel
theorem dX12_gone_13 : decode cX12_gone 13 = .ok (.iload_n 2, 1) := by decide +kernel
theorem dX12_gone_14 : decode cX12_gone 14 = .ok (.invokevirtual 132, 3) := by decide +kernel
theorem dX12_gone_17 : decode cX12_gone 17 = .ok (.ifCond .ne 5, 3) := by decide +kernel
theorem dX12_gone_20 : decode cX12_gone 20 = .ok (.iconst (-1), 1) := by decide +kernel
theorem dX12_gone_21 : decode cX12_gone 21 = .ok (.ireturn, 1) := by decide +kernel
theorem dX12_gone_22 : decode cX12_gone 22 = .ok (.aload_n 0, 1) := by decide +kernel
theorem dX12_gone_23 : decode cX12_gone 23 = .ok (.iload_n 1, 1) := by decide +kernel
theorem dX12_gone_24 : decode cX12_gone 24 = .ok (.iconst 0, 1) := by decide +kernel
theorem dX12_gone_25 : decode cX12_gone 25 = .ok (.invokevirtual 288, 3) := by decide +kernel
theorem dX12_gone_28 : decode cX12_gone 28 = .ok (.istore_n 3, 1) := by decide +kernel
theorem dX12_gone_29 : decode cX12_gone 29 = .ok (.iload_n 3, 1) := by decide +kernel
theorem dX12_gone_30 : decode cX12_gone 30 = .ok (.ifCond .ge 5, 3) := by decide +kernel
theorem dX12_gone_33 : decode cX12_gone 33 = .ok (.iload_n 3, 1) := by decide +kernel
theorem dX12_gone_34 : decode cX12_gone 34 = .ok (.ireturn, 1) := by decide +kernel
theorem dX12_gone_35 : decode cX12_gone 35 = .ok (.aload_n 0, 1) := by decide +kernel
theorem dX12_gone_36 : decode cX12_gone 36 = .ok (.iload_n 1, 1) := by decide +kernel
theorem dX12_gone_37 : decode cX12_gone 37 = .ok (.invokevirtual 291, 3) := by decide +kernel
theorem dX12_gone_40 : decode cX12_gone 40 = .ok (.iload_n 2, 1) := by decide +kernel
theorem dX12_gone_41 : decode cX12_gone 41 = .ok (.iconst (-1), 1) := by decide +kernel
theorem dX12_gone_42 : decode cX12_gone 42 = .ok (.if_icmp .ne 10, 3) := by decide +kernel
theorem dX12_gone_45 : decode cX12_gone 45 = .ok (.aload_n 0, 1) := by decide +kernel
theorem dX12_gone_46 : decode cX12_gone 46 = .ok (.invokevirtual 310, 3) := by decide +kernel
theorem dX12_gone_49 : decode cX12_gone 49 = .ok (.goto 13, 3) := by decide +kernel
theorem dX12_gone_52 : decode cX12_gone 52 = .ok (.aload_n 0, 1) := by decide +kernel
theorem dX12_gone_53 : decode cX12_gone 53 = .ok (.aload_n 0, 1) := by decide +kernel
theorem dX12_gone_54 : decode cX12_gone 54 = .ok (.getfield 21, 3) := by decide +kernel
theorem dX12_gone_57 : decode cX12_gone 57 = .ok (.iload_n 2, 1) := by decide +kernel
theorem dX12_gone_58 : decode cX12_gone 58 = .ok (.iaload, 1) := by decide +kernel
theorem dX12_gone_59 : decode cX12_gone 59 = .ok (.invokevirtual 307, 3) := by decide +kernel
theorem dX12_gone_62 : decode cX12_gone 62 = .ok (.ireturn, 1) := by decide +kernel
theorem dX12_least_0 : decode cX12_least 0 = .ok (.iload_n 1, 1) := by decide +kernel
theorem dX12_least_1 : decode cX12_least 1 = .ok (.invokestatic 140, 3) := by decide +kernel
theorem dX12_least_4 : decode cX12_least 4 = .ok (.ifCond .eq 11, 3) := by decide +kernel
theorem dX12_least_7 : decode cX12_least 7 = .ok (.aload_n 0, 1) := by decide +kernel
theorem dX12_least_8 : decode cX12_least 8 = .ok (.iload_n 2, 1) := by decide +kernel
theorem dX12_least_9 : decode cX12_least 9 = .ok (.invokevirtual 132, 3) := by decide +kernel
theorem dX12_least_12 : decode cX12_least 12 = .ok (.ifCond .ne 5, 3) := by decide +kernel
theorem dX12_least_15 : decode cX12_least 15 = .ok (.iconst (-1), 1) := by decide +kernel
theorem dX12_least_16 : decode cX12_least 16 = .ok (.ireturn, 1) := by decide +kernel
theorem dX12_least_17 : decode cX12_least 17 = .ok (.aload_n 0, 1) := by decide +kernel
theorem dX12_least_18 : decode cX12_least 18 = .ok (.iload_n 1, 1) := by decide +kernel
theorem dX12_least_19 : decode cX12_least 19 = .ok (.iconst 0, 1) := by decide +kernel
theorem dX12_least_20 : decode cX12_least 20 = .ok (.invokevirtual 288, 3) := by decide +kernel
theorem dX12_least_23 : decode cX12_least 23 = .ok (.istore_n 3, 1) := by decide +kernel
theorem dX12_least_24 : decode cX12_least 24 = .ok (.iload_n 3, 1) := by decide +kernel
theorem dX12_least_25 : decode cX12_least 25 = .ok (.ifCond .ge 5, 3) := by decide +kernel
theorem dX12_least_28 : decode cX12_least 28 = .ok (.iload_n 3, 1) := by decide +kernel
theorem dX12_least_29 : decode cX12_least 29 = .ok (.ireturn, 1) := by decide +kernel
theorem dX12_least_30 : decode cX12_least 30 = .ok (.aload_n 0, 1) := by decide +kernel
theorem dX12_least_31 : decode cX12_least 31 = .ok (.iload_n 1, 1) := by decide +kernel
theorem dX12_least_32 : decode cX12_least 32 = .ok (.invokevirtual 291, 3) := by decide +kernel
theorem dX12_least_35 : decode cX12_least 35 = .ok (.iconst 1, 1) := by decide +kernel
theorem dX12_least_36 : decode cX12_least 36 = .ok (.istore 4, 2) := by decide +kernel
theorem dX12_least_38 : decode cX12_least 38 = .ok (.aload_n 0, 1) := by decide +kernel
theorem dX12_least_39 : decode cX12_least 39 = .ok (.iload 4, 2) := by decide +kernel
theorem dX12_least_41 : decode cX12_least 41 = .ok (.invokevirtual 307, 3) := by decide +kernel
theorem dX12_least_44 : decode cX12_least 44 = .ok (.bipush (-2), 2) := by decide +kernel
theorem dX12_least_46 : decode cX12_least 46 = .ok (.if_icmp .eq 9, 3) := by decide +kernel
theorem dX12_least_49 : decode cX12_least 49 = .ok (.iinc 4 1, 3) := by decide +kernel
theorem dX12_least_52 : decode cX12_least 52 = .ok (.goto (-14), 3) := by decide +kernel
theorem dX12_least_55 : decode cX12_least 55 = .ok (.iload 4, 2) := by decide +kernel
theorem dX12_least_57 : decode cX12_least 57 = .ok (.ireturn, 1) := by decide +kernel
theorem dX12_isNeverApart_0 : decode cX12_isNeverApart 0 = .ok (.aload_n 0, 1) := by decide +kernel
theorem dX12_isNeverApart_1 : decode cX12_isNeverApart 1 = .ok (.iconst 0, 1) := by decide +kernel
theorem dX12_isNeverApart_2 : decode cX12_isNeverApart 2 = .ok (.invokevirtual 278, 3) := by decide +kernel
theorem dX12_isNeverApart_5 : decode cX12_isNeverApart 5 = .ok (.aload_n 0, 1) := by decide +kernel
theorem dX12_isNeverApart_6 : decode cX12_isNeverApart 6 = .ok (.invokevirtual 298, 3) := by decide +kernel
theorem dX12_isNeverApart_9 : decode cX12_isNeverApart 9 = .ok (.bipush (-2), 2) := by decide +kernel
theorem dX12_isNeverApart_11 : decode cX12_isNeverApart 11 = .ok (.if_icmp .ne 7, 3) := by decide +kernel
theorem dX12_isNeverApart_14 : decode cX12_isNeverApart 14 = .ok (.iconst 1, 1) := by decide +kernel
theorem dX12_isNeverApart_15 : decode cX12_isNeverApart 15 = .ok (.goto 4, 3) := by decide +kernel
theorem dX12_isNeverApart_18 : decode cX12_isNeverApart 18 = .ok (.iconst 0, 1) := by decide +kernel
theorem dX12_isNeverApart_19 : decode cX12_isNeverApart 19 = .ok (.ireturn, 1) := by decide +kernel
theorem dX12_picks_0 : decode cX12_picks 0 = .ok (.iload_n 1, 1) := by decide +kernel
theorem dX12_picks_1 : decode cX12_picks 1 = .ok (.iload_n 2, 1) := by decide +kernel
theorem dX12_picks_2 : decode cX12_picks 2 = .ok (.if_icmp .ne 29, 3) := by decide +kernel
theorem dX12_picks_5 : decode cX12_picks 5 = .ok (.iload 4, 2) := by decide +kernel
theorem dX12_picks_7 : decode cX12_picks 7 = .ok (.iconst 1, 1) := by decide +kernel
theorem dX12_picks_8 : decode cX12_picks 8 = .ok (.if_icmp .ne 18, 3) := by decide +kernel
theorem dX12_picks_11 : decode cX12_picks 11 = .ok (.aload_n 0, 1) := by decide +kernel
theorem dX12_picks_12 : decode cX12_picks 12 = .ok (.invokevirtual 310, 3) := by decide +kernel
theorem dX12_picks_15 : decode cX12_picks 15 = .ok (.ifCond .ne 7, 3) := by decide +kernel
theorem dX12_picks_18 : decode cX12_picks 18 = .ok (.iconst 1, 1) := by decide +kernel
theorem dX12_picks_19 : decode cX12_picks 19 = .ok (.goto 11, 3) := by decide +kernel
theorem dX12_picks_22 : decode cX12_picks 22 = .ok (.iconst 0, 1) := by decide +kernel
theorem dX12_picks_23 : decode cX12_picks 23 = .ok (.goto 7, 3) := by decide +kernel
theorem dX12_picks_26 : decode cX12_picks 26 = .ok (.aload_n 0, 1) := by decide +kernel
theorem dX12_picks_27 : decode cX12_picks 27 = .ok (.invokevirtual 313, 3) := by decide +kernel
theorem dX12_picks_30 : decode cX12_picks 30 = .ok (.ireturn, 1) := by decide +kernel
theorem dX12_picks_31 : decode cX12_picks 31 = .ok (.iload_n 3, 1) := by decide +kernel
theorem dX12_picks_32 : decode cX12_picks 32 = .ok (.istore 6, 2) := by decide +kernel
theorem dX12_picks_34 : decode cX12_picks 34 = .ok (.iload 6, 2) := by decide +kernel
theorem dX12_picks_36 : decode cX12_picks 36 = .ok (.aload_n 0, 1) := by decide +kernel
theorem dX12_picks_37 : decode cX12_picks 37 = .ok (.getfield 253, 3) := by decide +kernel
theorem dX12_picks_40 : decode cX12_picks 40 = .ok (.if_icmp .ge 75, 3) := by decide +kernel
theorem dX12_picks_43 : decode cX12_picks 43 = .ok (.aload_n 0, 1) := by decide +kernel
theorem dX12_picks_44 : decode cX12_picks 44 = .ok (.getfield 103, 3) := by decide +kernel
theorem dX12_picks_47 : decode cX12_picks 47 = .ok (.iload 6, 2) := by decide +kernel
theorem dX12_picks_49 : decode cX12_picks 49 = .ok (.iaload, 1) := by decide +kernel
theorem dX12_picks_50 : decode cX12_picks 50 = .ok (.iload 4, 2) := by decide +kernel
theorem dX12_picks_52 : decode cX12_picks 52 = .ok (.if_icmp .eq 6, 3) := by decide +kernel
theorem dX12_picks_55 : decode cX12_picks 55 = .ok (.goto 54, 3) := by decide +kernel
theorem dX12_picks_58 : decode cX12_picks 58 = .ok (.aload_n 0, 1) := by decide +kernel
theorem dX12_picks_59 : decode cX12_picks 59 = .ok (.getfield 103, 3) := by decide +kernel
theorem dX12_picks_62 : decode cX12_picks 62 = .ok (.iload 6, 2) := by decide +kernel
theorem dX12_picks_64 : decode cX12_picks 64 = .ok (.iload 5, 2) := by decide +kernel
theorem dX12_picks_66 : decode cX12_picks 66 = .ok (.iastore, 1) := by decide +kernel
theorem dX12_picks_67 : decode cX12_picks 67 = .ok (.aload_n 0, 1) := by decide +kernel
theorem dX12_picks_68 : decode cX12_picks 68 = .ok (.getfield 112, 3) := by decide +kernel
theorem dX12_picks_71 : decode cX12_picks 71 = .ok (.iload_n 1, 1) := by decide +kernel
theorem dX12_picks_72 : decode cX12_picks 72 = .ok (.iload 6, 2) := by decide +kernel
theorem dX12_picks_74 : decode cX12_picks 74 = .ok (.iastore, 1) := by decide +kernel
theorem dX12_picks_75 : decode cX12_picks 75 = .ok (.aload_n 0, 1) := by decide +kernel
theorem dX12_picks_76 : decode cX12_picks 76 = .ok (.iload_n 1, 1) := by decide +kernel
theorem dX12_picks_77 : decode cX12_picks 77 = .ok (.iconst 1, 1) := by decide +kernel
theorem dX12_picks_78 : decode cX12_picks 78 = .ok (.iadd, 1) := by decide +kernel
theorem dX12_picks_79 : decode cX12_picks 79 = .ok (.iload_n 2, 1) := by decide +kernel
theorem dX12_picks_80 : decode cX12_picks 80 = .ok (.iload 6, 2) := by decide +kernel
theorem dX12_picks_82 : decode cX12_picks 82 = .ok (.iconst 1, 1) := by decide +kernel
theorem dX12_picks_83 : decode cX12_picks 83 = .ok (.iadd, 1) := by decide +kernel
theorem dX12_picks_84 : decode cX12_picks 84 = .ok (.iload 4, 2) := by decide +kernel
theorem dX12_picks_86 : decode cX12_picks 86 = .ok (.iload 5, 2) := by decide +kernel
theorem dX12_picks_88 : decode cX12_picks 88 = .ok (.invokevirtual 316, 3) := by decide +kernel
theorem dX12_picks_91 : decode cX12_picks 91 = .ok (.istore 7, 2) := by decide +kernel
theorem dX12_picks_93 : decode cX12_picks 93 = .ok (.aload_n 0, 1) := by decide +kernel
theorem dX12_picks_94 : decode cX12_picks 94 = .ok (.getfield 103, 3) := by decide +kernel
theorem dX12_picks_97 : decode cX12_picks 97 = .ok (.iload 6, 2) := by decide +kernel
theorem dX12_picks_99 : decode cX12_picks 99 = .ok (.iload 4, 2) := by decide +kernel
theorem dX12_picks_101 : decode cX12_picks 101 = .ok (.iastore, 1) := by decide +kernel
theorem dX12_picks_102 : decode cX12_picks 102 = .ok (.iload 7, 2) := by decide +kernel
theorem dX12_picks_104 : decode cX12_picks 104 = .ok (.ifCond .eq 5, 3) := by decide +kernel
theorem dX12_picks_107 : decode cX12_picks 107 = .ok (.iconst 1, 1) := by decide +kernel
theorem dX12_picks_108 : decode cX12_picks 108 = .ok (.ireturn, 1) := by decide +kernel
theorem dX12_picks_109 : decode cX12_picks 109 = .ok (.iinc 6 1, 3) := by decide +kernel
theorem dX12_picks_112 : decode cX12_picks 112 = .ok (.goto (-78), 3) := by decide +kernel
theorem dX12_picks_115 : decode cX12_picks 115 = .ok (.iconst 0, 1) := by decide +kernel
theorem dX12_picks_116 : decode cX12_picks 116 = .ok (.ireturn, 1) := by decide +kernel
theorem dX12_fewest_0 : decode cX12_fewest 0 = .ok (.iload_n 1, 1) := by decide +kernel
theorem dX12_fewest_1 : decode cX12_fewest 1 = .ok (.invokestatic 140, 3) := by decide +kernel
theorem dX12_fewest_4 : decode cX12_fewest 4 = .ok (.ifCond .eq 8, 3) := by decide +kernel
theorem dX12_fewest_7 : decode cX12_fewest 7 = .ok (.iload_n 2, 1) := by decide +kernel
theorem dX12_fewest_8 : decode cX12_fewest 8 = .ok (.iconst (-1), 1) := by decide +kernel
theorem dX12_fewest_9 : decode cX12_fewest 9 = .ok (.if_icmp .ge 5, 3) := by decide +kernel
theorem dX12_fewest_12 : decode cX12_fewest 12 = .ok (.iconst (-1), 1) := by decide +kernel
theorem dX12_fewest_13 : decode cX12_fewest 13 = .ok (.ireturn, 1) := by decide +kernel
theorem dX12_fewest_14 : decode cX12_fewest 14 = .ok (.aload_n 0, 1) := by decide +kernel
theorem dX12_fewest_15 : decode cX12_fewest 15 = .ok (.iload_n 1, 1) := by decide +kernel
theorem dX12_fewest_16 : decode cX12_fewest 16 = .ok (.iconst 0, 1) := by decide +kernel
theorem dX12_fewest_17 : decode cX12_fewest 17 = .ok (.invokevirtual 288, 3) := by decide +kernel
theorem dX12_fewest_20 : decode cX12_fewest 20 = .ok (.istore 5, 2) := by decide +kernel
theorem dX12_fewest_22 : decode cX12_fewest 22 = .ok (.iload 5, 2) := by decide +kernel
theorem dX12_fewest_24 : decode cX12_fewest 24 = .ok (.ifCond .ge 6, 3) := by decide +kernel
theorem dX12_fewest_27 : decode cX12_fewest 27 = .ok (.iload 5, 2) := by decide +kernel
theorem dX12_fewest_29 : decode cX12_fewest 29 = .ok (.ireturn, 1) := by decide +kernel
theorem dX12_fewest_30 : decode cX12_fewest 30 = .ok (.aload_n 0, 1) := by decide +kernel
theorem dX12_fewest_31 : decode cX12_fewest 31 = .ok (.iload_n 1, 1) := by decide +kernel
theorem dX12_fewest_32 : decode cX12_fewest 32 = .ok (.invokevirtual 291, 3) := by decide +kernel
theorem dX12_fewest_35 : decode cX12_fewest 35 = .ok (.aload_n 0, 1) := by decide +kernel
theorem dX12_fewest_36 : decode cX12_fewest 36 = .ok (.getfield 253, 3) := by decide +kernel
theorem dX12_fewest_39 : decode cX12_fewest 39 = .ok (.bipush 16, 2) := by decide +kernel
theorem dX12_fewest_41 : decode cX12_fewest 41 = .ok (.if_icmp .le 6, 3) := by decide +kernel
theorem dX12_fewest_44 : decode cX12_fewest 44 = .ok (.bipush (-5), 2) := by decide +kernel
theorem dX12_fewest_46 : decode cX12_fewest 46 = .ok (.ireturn, 1) := by decide +kernel
theorem dX12_fewest_47 : decode cX12_fewest 47 = .ok (.iconst 0, 1) := by decide +kernel
theorem dX12_fewest_48 : decode cX12_fewest 48 = .ok (.istore 6, 2) := by decide +kernel
theorem dX12_fewest_50 : decode cX12_fewest 50 = .ok (.iload 6, 2) := by decide +kernel
theorem dX12_fewest_52 : decode cX12_fewest 52 = .ok (.bipush 11, 2) := by decide +kernel
theorem dX12_fewest_54 : decode cX12_fewest 54 = .ok (.if_icmp .ge 23, 3) := by decide +kernel
theorem dX12_fewest_57 : decode cX12_fewest 57 = .ok (.aload_n 0, 1) := by decide +kernel
theorem dX12_fewest_58 : decode cX12_fewest 58 = .ok (.iconst 0, 1) := by decide +kernel
theorem dX12_fewest_59 : decode cX12_fewest 59 = .ok (.iload 6, 2) := by decide +kernel
theorem dX12_fewest_61 : decode cX12_fewest 61 = .ok (.iconst 0, 1) := by decide +kernel
theorem dX12_fewest_62 : decode cX12_fewest 62 = .ok (.iload_n 3, 1) := by decide +kernel
theorem dX12_fewest_63 : decode cX12_fewest 63 = .ok (.iload 4, 2) := by decide +kernel
theorem dX12_fewest_65 : decode cX12_fewest 65 = .ok (.invokevirtual 316, 3) := by decide +kernel
theorem dX12_fewest_68 : decode cX12_fewest 68 = .ok (.ifCond .ne 9, 3) := by decide +kernel
theorem dX12_fewest_71 : decode cX12_fewest 71 = .ok (.iinc 6 1, 3) := by decide +kernel
theorem dX12_fewest_74 : decode cX12_fewest 74 = .ok (.goto (-24), 3) := by decide +kernel
theorem dX12_fewest_77 : decode cX12_fewest 77 = .ok (.iload 6, 2) := by decide +kernel
theorem dX12_fewest_79 : decode cX12_fewest 79 = .ok (.bipush 11, 2) := by decide +kernel
theorem dX12_fewest_81 : decode cX12_fewest 81 = .ok (.if_icmp .ne 6, 3) := by decide +kernel
theorem dX12_fewest_84 : decode cX12_fewest 84 = .ok (.bipush (-2), 2) := by decide +kernel
theorem dX12_fewest_86 : decode cX12_fewest 86 = .ok (.ireturn, 1) := by decide +kernel
theorem dX12_fewest_87 : decode cX12_fewest 87 = .ok (.iload_n 2, 1) := by decide +kernel
theorem dX12_fewest_88 : decode cX12_fewest 88 = .ok (.iconst (-1), 1) := by decide +kernel
theorem dX12_fewest_89 : decode cX12_fewest 89 = .ok (.if_icmp .ne 8, 3) := by decide +kernel
theorem dX12_fewest_92 : decode cX12_fewest 92 = .ok (.iload 6, 2) := by decide +kernel
theorem dX12_fewest_94 : decode cX12_fewest 94 = .ok (.goto 20, 3) := by decide +kernel
theorem dX12_fewest_97 : decode cX12_fewest 97 = .ok (.iload_n 2, 1) := by decide +kernel
theorem dX12_fewest_98 : decode cX12_fewest 98 = .ok (.iload 6, 2) := by decide +kernel
theorem dX12_fewest_100 : decode cX12_fewest 100 = .ok (.if_icmp .ge 12, 3) := by decide +kernel
theorem dX12_fewest_103 : decode cX12_fewest 103 = .ok (.aload_n 0, 1) := by decide +kernel
theorem dX12_fewest_104 : decode cX12_fewest 104 = .ok (.getfield 112, 3) := by decide +kernel
theorem dX12_fewest_107 : decode cX12_fewest 107 = .ok (.iload_n 2, 1) := by decide +kernel
theorem dX12_fewest_108 : decode cX12_fewest 108 = .ok (.iaload, 1) := by decide +kernel
theorem dX12_fewest_109 : decode cX12_fewest 109 = .ok (.goto 5, 3) := by decide +kernel
theorem dX12_fewest_112 : decode cX12_fewest 112 = .ok (.bipush (-2), 2) := by decide +kernel
theorem dX12_fewest_114 : decode cX12_fewest 114 = .ok (.ireturn, 1) := by decide +kernel
theorem dX12_gasps_0 : decode cX12_gasps 0 = .ok (.aload_n 0, 1) := by decide +kernel
theorem dX12_gasps_1 : decode cX12_gasps 1 = .ok (.iload_n 1, 1) := by decide +kernel
theorem dX12_gasps_2 : decode cX12_gasps 2 = .ok (.iload_n 2, 1) := by decide +kernel
theorem dX12_gasps_3 : decode cX12_gasps 3 = .ok (.iconst 1, 1) := by decide +kernel
theorem dX12_gasps_4 : decode cX12_gasps 4 = .ok (.iconst 0, 1) := by decide +kernel
theorem dX12_gasps_5 : decode cX12_gasps 5 = .ok (.invokevirtual 320, 3) := by decide +kernel
theorem dX12_gasps_8 : decode cX12_gasps 8 = .ok (.ireturn, 1) := by decide +kernel
theorem dX12_looks_0 : decode cX12_looks 0 = .ok (.aload_n 0, 1) := by decide +kernel
theorem dX12_looks_1 : decode cX12_looks 1 = .ok (.iload_n 1, 1) := by decide +kernel
theorem dX12_looks_2 : decode cX12_looks 2 = .ok (.iload_n 2, 1) := by decide +kernel
theorem dX12_looks_3 : decode cX12_looks 3 = .ok (.iconst 0, 1) := by decide +kernel
theorem dX12_looks_4 : decode cX12_looks 4 = .ok (.iconst 4, 1) := by decide +kernel
theorem dX12_looks_5 : decode cX12_looks 5 = .ok (.invokevirtual 320, 3) := by decide +kernel
theorem dX12_looks_8 : decode cX12_looks 8 = .ok (.ireturn, 1) := by decide +kernel
theorem dX12_whose_0 : decode cX12_whose 0 = .ok (.iload_n 1, 1) := by decide +kernel
theorem dX12_whose_1 : decode cX12_whose 1 = .ok (.invokestatic 140, 3) := by decide +kernel
theorem dX12_whose_4 : decode cX12_whose 4 = .ok (.ifCond .eq 12, 3) := by decide +kernel
theorem dX12_whose_7 : decode cX12_whose 7 = .ok (.iload_n 2, 1) := by decide +kernel
theorem dX12_whose_8 : decode cX12_whose 8 = .ok (.iconst 0, 1) := by decide +kernel
theorem dX12_whose_9 : decode cX12_whose 9 = .ok (.iconst 1, 1) := by decide +kernel
theorem dX12_whose_10 : decode cX12_whose 10 = .ok (.invokestatic 128, 3) := by decide +kernel
theorem dX12_whose_13 : decode cX12_whose 13 = .ok (.ifCond .ne 5, 3) := by decide +kernel
theorem dX12_whose_16 : decode cX12_whose 16 = .ok (.iconst (-1), 1) := by decide +kernel
theorem dX12_whose_17 : decode cX12_whose 17 = .ok (.ireturn, 1) := by decide +kernel
theorem dX12_whose_18 : decode cX12_whose 18 = .ok (.aload_n 0, 1) := by decide +kernel
theorem dX12_whose_19 : decode cX12_whose 19 = .ok (.iload_n 1, 1) := by decide +kernel
theorem dX12_whose_20 : decode cX12_whose 20 = .ok (.iconst 0, 1) := by decide +kernel
theorem dX12_whose_21 : decode cX12_whose 21 = .ok (.invokevirtual 288, 3) := by decide +kernel
theorem dX12_whose_24 : decode cX12_whose 24 = .ok (.istore_n 3, 1) := by decide +kernel
theorem dX12_whose_25 : decode cX12_whose 25 = .ok (.iload_n 3, 1) := by decide +kernel
theorem dX12_whose_26 : decode cX12_whose 26 = .ok (.ifCond .ge 5, 3) := by decide +kernel
theorem dX12_whose_29 : decode cX12_whose 29 = .ok (.iload_n 3, 1) := by decide +kernel
theorem dX12_whose_30 : decode cX12_whose 30 = .ok (.ireturn, 1) := by decide +kernel
theorem dX12_whose_31 : decode cX12_whose 31 = .ok (.aload_n 0, 1) := by decide +kernel
theorem dX12_whose_32 : decode cX12_whose 32 = .ok (.iload_n 1, 1) := by decide +kernel
theorem dX12_whose_33 : decode cX12_whose 33 = .ok (.invokevirtual 291, 3) := by decide +kernel
theorem dX12_whose_36 : decode cX12_whose 36 = .ok (.aload_n 0, 1) := by decide +kernel
theorem dX12_whose_37 : decode cX12_whose 37 = .ok (.getfield 30, 3) := by decide +kernel
theorem dX12_whose_40 : decode cX12_whose 40 = .ok (.iconst 0, 1) := by decide +kernel
theorem dX12_whose_41 : decode cX12_whose 41 = .ok (.iaload, 1) := by decide +kernel
theorem dX12_whose_42 : decode cX12_whose 42 = .ok (.istore 4, 2) := by decide +kernel
theorem dX12_whose_44 : decode cX12_whose 44 = .ok (.bipush (-2), 2) := by decide +kernel
theorem dX12_whose_46 : decode cX12_whose 46 = .ok (.istore 5, 2) := by decide +kernel
theorem dX12_whose_48 : decode cX12_whose 48 = .ok (.bipush (-2), 2) := by decide +kernel
theorem dX12_whose_50 : decode cX12_whose 50 = .ok (.istore 6, 2) := by decide +kernel
theorem dX12_whose_52 : decode cX12_whose 52 = .ok (.iconst 0, 1) := by decide +kernel
theorem dX12_whose_53 : decode cX12_whose 53 = .ok (.istore 7, 2) := by decide +kernel
theorem dX12_whose_55 : decode cX12_whose 55 = .ok (.iload 7, 2) := by decide +kernel
theorem dX12_whose_57 : decode cX12_whose 57 = .ok (.aload_n 0, 1) := by decide +kernel
theorem dX12_whose_58 : decode cX12_whose 58 = .ok (.getfield 125, 3) := by decide +kernel
theorem dX12_whose_61 : decode cX12_whose 61 = .ok (.if_icmp .ge 48, 3) := by decide +kernel
theorem dX12_whose_64 : decode cX12_whose 64 = .ok (.aload_n 0, 1) := by decide +kernel
theorem dX12_whose_65 : decode cX12_whose 65 = .ok (.getfield 30, 3) := by decide +kernel
theorem dX12_whose_68 : decode cX12_whose 68 = .ok (.iconst 0, 1) := by decide +kernel
theorem dX12_whose_69 : decode cX12_whose 69 = .ok (.iload 7, 2) := by decide +kernel
theorem dX12_whose_71 : decode cX12_whose 71 = .ok (.iastore, 1) := by decide +kernel
theorem dX12_whose_72 : decode cX12_whose 72 = .ok (.aload_n 0, 1) := by decide +kernel
theorem dX12_whose_73 : decode cX12_whose 73 = .ok (.invokevirtual 295, 3) := by decide +kernel
theorem dX12_whose_76 : decode cX12_whose 76 = .ok (.istore 8, 2) := by decide +kernel
theorem dX12_whose_78 : decode cX12_whose 78 = .ok (.iload 5, 2) := by decide +kernel
theorem dX12_whose_80 : decode cX12_whose 80 = .ok (.bipush (-2), 2) := by decide +kernel
theorem dX12_whose_82 : decode cX12_whose 82 = .ok (.if_icmp .eq 13, 3) := by decide +kernel
theorem dX12_whose_85 : decode cX12_whose 85 = .ok (.iload 8, 2) := by decide +kernel
theorem dX12_whose_87 : decode cX12_whose 87 = .ok (.iload 6, 2) := by decide +kernel
theorem dX12_whose_89 : decode cX12_whose 89 = .ok (.if_icmp .lt 6, 3) := by decide +kernel
theorem dX12_whose_92 : decode cX12_whose 92 = .ok (.goto 11, 3) := by decide +kernel
theorem dX12_whose_95 : decode cX12_whose 95 = .ok (.iload 8, 2) := by decide +kernel
theorem dX12_whose_97 : decode cX12_whose 97 = .ok (.istore 6, 2) := by decide +kernel
theorem dX12_whose_99 : decode cX12_whose 99 = .ok (.iload 7, 2) := by decide +kernel
theorem dX12_whose_101 : decode cX12_whose 101 = .ok (.istore 5, 2) := by decide +kernel
theorem dX12_whose_103 : decode cX12_whose 103 = .ok (.iinc 7 1, 3) := by decide +kernel
theorem dX12_whose_106 : decode cX12_whose 106 = .ok (.goto (-51), 3) := by decide +kernel
theorem dX12_whose_109 : decode cX12_whose 109 = .ok (.aload_n 0, 1) := by decide +kernel
theorem dX12_whose_110 : decode cX12_whose 110 = .ok (.getfield 30, 3) := by decide +kernel
theorem dX12_whose_113 : decode cX12_whose 113 = .ok (.iconst 0, 1) := by decide +kernel
theorem dX12_whose_114 : decode cX12_whose 114 = .ok (.iload 4, 2) := by decide +kernel
theorem dX12_whose_116 : decode cX12_whose 116 = .ok (.iastore, 1) := by decide +kernel
theorem dX12_whose_117 : decode cX12_whose 117 = .ok (.iload_n 2, 1) := by decide +kernel
theorem dX12_whose_118 : decode cX12_whose 118 = .ok (.ifCond .ne 8, 3) := by decide +kernel
theorem dX12_whose_121 : decode cX12_whose 121 = .ok (.iload 5, 2) := by decide +kernel
theorem dX12_whose_123 : decode cX12_whose 123 = .ok (.goto 5, 3) := by decide +kernel
theorem dX12_whose_126 : decode cX12_whose 126 = .ok (.iload 6, 2) := by decide +kernel
theorem dX12_whose_128 : decode cX12_whose 128 = .ok (.ireturn, 1) := by decide +kernel
theorem dX12_first_0 : decode cX12_first 0 = .ok (.iload_n 1, 1) := by decide +kernel
theorem dX12_first_1 : decode cX12_first 1 = .ok (.invokestatic 140, 3) := by decide +kernel
theorem dX12_first_4 : decode cX12_first 4 = .ok (.ifCond .eq 12, 3) := by decide +kernel
theorem dX12_first_7 : decode cX12_first 7 = .ok (.iload_n 2, 1) := by decide +kernel
theorem dX12_first_8 : decode cX12_first 8 = .ok (.iconst 0, 1) := by decide +kernel
theorem dX12_first_9 : decode cX12_first 9 = .ok (.iconst 1, 1) := by decide +kernel
theorem dX12_first_10 : decode cX12_first 10 = .ok (.invokestatic 128, 3) := by decide +kernel
theorem dX12_first_13 : decode cX12_first 13 = .ok (.ifCond .ne 5, 3) := by decide +kernel
theorem dX12_first_16 : decode cX12_first 16 = .ok (.iconst (-1), 1) := by decide +kernel
theorem dX12_first_17 : decode cX12_first 17 = .ok (.ireturn, 1) := by decide +kernel
theorem dX12_first_18 : decode cX12_first 18 = .ok (.aload_n 0, 1) := by decide +kernel
theorem dX12_first_19 : decode cX12_first 19 = .ok (.iload_n 1, 1) := by decide +kernel
theorem dX12_first_20 : decode cX12_first 20 = .ok (.iconst 0, 1) := by decide +kernel
theorem dX12_first_21 : decode cX12_first 21 = .ok (.invokevirtual 288, 3) := by decide +kernel
theorem dX12_first_24 : decode cX12_first 24 = .ok (.istore_n 3, 1) := by decide +kernel
theorem dX12_first_25 : decode cX12_first 25 = .ok (.iload_n 3, 1) := by decide +kernel
theorem dX12_first_26 : decode cX12_first 26 = .ok (.ifCond .ge 5, 3) := by decide +kernel
theorem dX12_first_29 : decode cX12_first 29 = .ok (.iload_n 3, 1) := by decide +kernel
theorem dX12_first_30 : decode cX12_first 30 = .ok (.ireturn, 1) := by decide +kernel
theorem dX12_first_31 : decode cX12_first 31 = .ok (.aload_n 0, 1) := by decide +kernel
theorem dX12_first_32 : decode cX12_first 32 = .ok (.iload_n 1, 1) := by decide +kernel
theorem dX12_first_33 : decode cX12_first 33 = .ok (.invokevirtual 291, 3) := by decide +kernel
theorem dX12_first_36 : decode cX12_first 36 = .ok (.bipush (-2), 2) := by decide +kernel
theorem dX12_first_38 : decode cX12_first 38 = .ok (.istore 4, 2) := by decide +kernel
theorem dX12_first_40 : decode cX12_first 40 = .ok (.bipush (-2), 2) := by decide +kernel
theorem dX12_first_42 : decode cX12_first 42 = .ok (.istore 5, 2) := by decide +kernel
theorem dX12_first_44 : decode cX12_first 44 = .ok (.iconst 0, 1) := by decide +kernel
theorem dX12_first_45 : decode cX12_first 45 = .ok (.istore 6, 2) := by decide +kernel
theorem dX12_first_47 : decode cX12_first 47 = .ok (.iload 6, 2) := by decide +kernel
theorem dX12_first_49 : decode cX12_first 49 = .ok (.aload_n 0, 1) := by decide +kernel
theorem dX12_first_50 : decode cX12_first 50 = .ok (.getfield 125, 3) := by decide +kernel
theorem dX12_first_53 : decode cX12_first 53 = .ok (.if_icmp .ge 66, 3) := by decide +kernel
theorem dX12_first_56 : decode cX12_first 56 = .ok (.aload_n 0, 1) := by decide +kernel
theorem dX12_first_57 : decode cX12_first 57 = .ok (.getfield 24, 3) := by decide +kernel
theorem dX12_first_60 : decode cX12_first 60 = .ok (.iload 6, 2) := by decide +kernel
theorem dX12_first_62 : decode cX12_first 62 = .ok (.iaload, 1) := by decide +kernel
theorem dX12_first_63 : decode cX12_first 63 = .ok (.istore 7, 2) := by decide +kernel
theorem dX12_first_65 : decode cX12_first 65 = .ok (.aload_n 0, 1) := by decide +kernel
theorem dX12_first_66 : decode cX12_first 66 = .ok (.getfield 24, 3) := by decide +kernel
theorem dX12_first_69 : decode cX12_first 69 = .ok (.iload 6, 2) := by decide +kernel
theorem dX12_first_71 : decode cX12_first 71 = .ok (.iconst 0, 1) := by decide +kernel
theorem dX12_first_72 : decode cX12_first 72 = .ok (.iastore, 1) := by decide +kernel
theorem dX12_first_73 : decode cX12_first 73 = .ok (.aload_n 0, 1) := by decide +kernel
theorem dX12_first_74 : decode cX12_first 74 = .ok (.invokevirtual 295, 3) := by decide +kernel
theorem dX12_first_77 : decode cX12_first 77 = .ok (.istore 8, 2) := by decide +kernel
theorem dX12_first_79 : decode cX12_first 79 = .ok (.aload_n 0, 1) := by decide +kernel
theorem dX12_first_80 : decode cX12_first 80 = .ok (.getfield 24, 3) := by decide +kernel
theorem dX12_first_83 : decode cX12_first 83 = .ok (.iload 6, 2) := by decide +kernel
theorem dX12_first_85 : decode cX12_first 85 = .ok (.iload 7, 2) := by decide +kernel
theorem dX12_first_87 : decode cX12_first 87 = .ok (.iastore, 1) := by decide +kernel
theorem dX12_first_88 : decode cX12_first 88 = .ok (.iload 4, 2) := by decide +kernel
theorem dX12_first_90 : decode cX12_first 90 = .ok (.bipush (-2), 2) := by decide +kernel
theorem dX12_first_92 : decode cX12_first 92 = .ok (.if_icmp .eq 13, 3) := by decide +kernel
theorem dX12_first_95 : decode cX12_first 95 = .ok (.iload 8, 2) := by decide +kernel
theorem dX12_first_97 : decode cX12_first 97 = .ok (.iload 5, 2) := by decide +kernel
theorem dX12_first_99 : decode cX12_first 99 = .ok (.if_icmp .lt 6, 3) := by decide +kernel
theorem dX12_first_102 : decode cX12_first 102 = .ok (.goto 11, 3) := by decide +kernel
theorem dX12_first_105 : decode cX12_first 105 = .ok (.iload 8, 2) := by decide +kernel
theorem dX12_first_107 : decode cX12_first 107 = .ok (.istore 5, 2) := by decide +kernel
theorem dX12_first_109 : decode cX12_first 109 = .ok (.iload 6, 2) := by decide +kernel
theorem dX12_first_111 : decode cX12_first 111 = .ok (.istore 4, 2) := by decide +kernel
theorem dX12_first_113 : decode cX12_first 113 = .ok (.iinc 6 1, 3) := by decide +kernel
theorem dX12_first_116 : decode cX12_first 116 = .ok (.goto (-69), 3) := by decide +kernel
theorem dX12_first_119 : decode cX12_first 119 = .ok (.iload_n 2, 1) := by decide +kernel
theorem dX12_first_120 : decode cX12_first 120 = .ok (.ifCond .ne 8, 3) := by decide +kernel
theorem dX12_first_123 : decode cX12_first 123 = .ok (.iload 4, 2) := by decide +kernel
theorem dX12_first_125 : decode cX12_first 125 = .ok (.goto 5, 3) := by decide +kernel
theorem dX12_first_128 : decode cX12_first 128 = .ok (.iload 5, 2) := by decide +kernel
theorem dX12_first_130 : decode cX12_first 130 = .ok (.ireturn, 1) := by decide +kernel
theorem dX12_slip_0 : decode cX12_slip 0 = .ok (.iload_n 1, 1) := by decide +kernel
theorem dX12_slip_1 : decode cX12_slip 1 = .ok (.invokestatic 140, 3) := by decide +kernel
theorem dX12_slip_4 : decode cX12_slip 4 = .ok (.ifCond .eq 38, 3) := by decide +kernel
theorem dX12_slip_7 : decode cX12_slip 7 = .ok (.iload_n 2, 1) := by decide +kernel
theorem dX12_slip_8 : decode cX12_slip 8 = .ok (.ifCond .lt 34, 3) := by decide +kernel
theorem dX12_slip_11 : decode cX12_slip 11 = .ok (.aload_n 0, 1) := by decide +kernel
theorem dX12_slip_12 : decode cX12_slip 12 = .ok (.iload_n 2, 1) := by decide +kernel
theorem dX12_slip_13 : decode cX12_slip 13 = .ok (.bipush 100, 2) := by decide +kernel
theorem dX12_slip_15 : decode cX12_slip 15 = .ok (.idiv, 1) := by decide +kernel
theorem dX12_slip_16 : decode cX12_slip 16 = .ok (.invokevirtual 132, 3) := by decide +kernel
theorem dX12_slip_19 : decode cX12_slip 19 = .ok (.ifCond .eq 23, 3) := by decide +kernel
theorem dX12_slip_22 : decode cX12_slip 22 = .ok (.iload_n 2, 1) := by decide +kernel
theorem dX12_slip_23 : decode cX12_slip 23 = .ok (.bipush 100, 2) := by decide +kernel
theorem dX12_slip_25 : decode cX12_slip 25 = .ok (.irem, 1) := by decide +kernel
theorem dX12_slip_26 : decode cX12_slip 26 = .ok (.bipush 59, 2) := by decide +kernel
theorem dX12_slip_28 : decode cX12_slip 28 = .ok (.if_icmp .gt 14, 3) := by decide +kernel
theorem dX12_slip_31 : decode cX12_slip 31 = .ok (.iload_n 3, 1) := by decide +kernel
theorem dX12_slip_32 : decode cX12_slip 32 = .ok (.bipush (-99), 2) := by decide +kernel
theorem dX12_slip_34 : decode cX12_slip 34 = .ok (.bipush 99, 2) := by decide +kernel
theorem dX12_slip_36 : decode cX12_slip 36 = .ok (.invokestatic 128, 3) := by decide +kernel
theorem dX12_slip_39 : decode cX12_slip 39 = .ok (.ifCond .ne 5, 3) := by decide +kernel
theorem dX12_slip_42 : decode cX12_slip 42 = .ok (.iconst (-1), 1) := by decide +kernel
theorem dX12_slip_43 : decode cX12_slip 43 = .ok (.ireturn, 1) := by decide +kernel
theorem dX12_slip_44 : decode cX12_slip 44 = .ok (.aload_n 0, 1) := by decide +kernel
theorem dX12_slip_45 : decode cX12_slip 45 = .ok (.iload_n 1, 1) := by decide +kernel
theorem dX12_slip_46 : decode cX12_slip 46 = .ok (.iconst 0, 1) := by decide +kernel
theorem dX12_slip_47 : decode cX12_slip 47 = .ok (.invokevirtual 288, 3) := by decide +kernel
theorem dX12_slip_50 : decode cX12_slip 50 = .ok (.istore 4, 2) := by decide +kernel
theorem dX12_slip_52 : decode cX12_slip 52 = .ok (.iload 4, 2) := by decide +kernel
theorem dX12_slip_54 : decode cX12_slip 54 = .ok (.ifCond .ge 6, 3) := by decide +kernel
theorem dX12_slip_57 : decode cX12_slip 57 = .ok (.iload 4, 2) := by decide +kernel
theorem dX12_slip_59 : decode cX12_slip 59 = .ok (.ireturn, 1) := by decide +kernel
theorem dX12_slip_60 : decode cX12_slip 60 = .ok (.aload_n 0, 1) := by decide +kernel
theorem dX12_slip_61 : decode cX12_slip 61 = .ok (.iload_n 1, 1) := by decide +kernel
theorem dX12_slip_62 : decode cX12_slip 62 = .ok (.invokevirtual 291, 3) := by decide +kernel
theorem dX12_slip_65 : decode cX12_slip 65 = .ok (.aload_n 0, 1) := by decide +kernel
theorem dX12_slip_66 : decode cX12_slip 66 = .ok (.iload_n 2, 1) := by decide +kernel
theorem dX12_slip_67 : decode cX12_slip 67 = .ok (.bipush 100, 2) := by decide +kernel
theorem dX12_slip_69 : decode cX12_slip 69 = .ok (.idiv, 1) := by decide +kernel
theorem dX12_slip_70 : decode cX12_slip 70 = .ok (.putfield 121, 3) := by decide +kernel
theorem dX12_slip_73 : decode cX12_slip 73 = .ok (.aload_n 0, 1) := by decide +kernel
theorem dX12_slip_74 : decode cX12_slip 74 = .ok (.iload_n 2, 1) := by decide +kernel
theorem dX12_slip_75 : decode cX12_slip 75 = .ok (.bipush 100, 2) := by decide +kernel
theorem dX12_slip_77 : decode cX12_slip 77 = .ok (.irem, 1) := by decide +kernel
theorem dX12_slip_78 : decode cX12_slip 78 = .ok (.putfield 263, 3) := by decide +kernel
theorem dX12_slip_81 : decode cX12_slip 81 = .ok (.aload_n 0, 1) := by decide +kernel
theorem dX12_slip_82 : decode cX12_slip 82 = .ok (.iload_n 3, 1) := by decide +kernel
theorem dX12_slip_83 : decode cX12_slip 83 = .ok (.putfield 266, 3) := by decide +kernel
theorem dX12_slip_86 : decode cX12_slip 86 = .ok (.aload_n 0, 1) := by decide +kernel
theorem dX12_slip_87 : decode cX12_slip 87 = .ok (.invokevirtual 295, 3) := by decide +kernel
theorem dX12_slip_90 : decode cX12_slip 90 = .ok (.istore 5, 2) := by decide +kernel
theorem dX12_slip_92 : decode cX12_slip 92 = .ok (.aload_n 0, 1) := by decide +kernel
theorem dX12_slip_93 : decode cX12_slip 93 = .ok (.bipush (-2), 2) := by decide +kernel
theorem dX12_slip_95 : decode cX12_slip 95 = .ok (.putfield 121, 3) := by decide +kernel
theorem dX12_slip_98 : decode cX12_slip 98 = .ok (.iload 5, 2) := by decide +kernel
theorem dX12_slip_100 : decode cX12_slip 100 = .ok (.ireturn, 1) := by decide +kernel
theorem dX12_unlike_0 : decode cX12_unlike 0 = .ok (.iconst 0, 1) := by decide +kernel
theorem dX12_unlike_1 : decode cX12_unlike 1 = .ok (.istore_n 2, 1) := by decide +kernel
theorem dX12_unlike_2 : decode cX12_unlike 2 = .ok (.iconst 0, 1) := by decide +kernel
theorem dX12_unlike_3 : decode cX12_unlike 3 = .ok (.istore_n 3, 1) := by decide +kernel
theorem dX12_unlike_4 : decode cX12_unlike 4 = .ok (.iconst 0, 1) := by decide +kernel
theorem dX12_unlike_5 : decode cX12_unlike 5 = .ok (.istore 4, 2) := by decide +kernel
theorem dX12_unlike_7 : decode cX12_unlike 7 = .ok (.iload 4, 2) := by decide +kernel
theorem dX12_unlike_9 : decode cX12_unlike 9 = .ok (.aload_n 0, 1) := by decide +kernel
theorem dX12_unlike_10 : decode cX12_unlike 10 = .ok (.getfield 125, 3) := by decide +kernel
theorem dX12_unlike_13 : decode cX12_unlike 13 = .ok (.if_icmp .ge 56, 3) := by decide +kernel
theorem dX12_unlike_16 : decode cX12_unlike 16 = .ok (.aload_n 0, 1) := by decide +kernel
theorem dX12_unlike_17 : decode cX12_unlike 17 = .ok (.getfield 18, 3) := by decide +kernel
theorem dX12_unlike_20 : decode cX12_unlike 20 = .ok (.aload_n 0, 1) := by decide +kernel
theorem dX12_unlike_21 : decode cX12_unlike 21 = .ok (.getfield 115, 3) := by decide +kernel
theorem dX12_unlike_24 : decode cX12_unlike 24 = .ok (.iload 4, 2) := by decide +kernel
theorem dX12_unlike_26 : decode cX12_unlike 26 = .ok (.iaload, 1) := by decide +kernel
theorem dX12_unlike_27 : decode cX12_unlike 27 = .ok (.iaload, 1) := by decide +kernel
theorem dX12_unlike_28 : decode cX12_unlike 28 = .ok (.iload_n 1, 1) := by decide +kernel
theorem dX12_unlike_29 : decode cX12_unlike 29 = .ok (.iload 4, 2) := by decide +kernel
theorem dX12_unlike_31 : decode cX12_unlike 31 = .ok (.imul, 1) := by decide +kernel
theorem dX12_unlike_32 : decode cX12_unlike 32 = .ok (.isub, 1) := by decide +kernel
theorem dX12_unlike_33 : decode cX12_unlike 33 = .ok (.istore 5, 2) := by decide +kernel
theorem dX12_unlike_35 : decode cX12_unlike 35 = .ok (.iload 4, 2) := by decide +kernel
theorem dX12_unlike_37 : decode cX12_unlike 37 = .ok (.ifCond .eq 9, 3) := by decide +kernel
theorem dX12_unlike_40 : decode cX12_unlike 40 = .ok (.iload 5, 2) := by decide +kernel
theorem dX12_unlike_42 : decode cX12_unlike 42 = .ok (.iload_n 2, 1) := by decide +kernel
theorem dX12_unlike_43 : decode cX12_unlike 43 = .ok (.if_icmp .le 6, 3) := by decide +kernel
theorem dX12_unlike_46 : decode cX12_unlike 46 = .ok (.iload 5, 2) := by decide +kernel
theorem dX12_unlike_48 : decode cX12_unlike 48 = .ok (.istore_n 2, 1) := by decide +kernel
theorem dX12_unlike_49 : decode cX12_unlike 49 = .ok (.iload 4, 2) := by decide +kernel
theorem dX12_unlike_51 : decode cX12_unlike 51 = .ok (.ifCond .eq 9, 3) := by decide +kernel
theorem dX12_unlike_54 : decode cX12_unlike 54 = .ok (.iload 5, 2) := by decide +kernel
theorem dX12_unlike_56 : decode cX12_unlike 56 = .ok (.iload_n 3, 1) := by decide +kernel
theorem dX12_unlike_57 : decode cX12_unlike 57 = .ok (.if_icmp .ge 6, 3) := by decide +kernel
theorem dX12_unlike_60 : decode cX12_unlike 60 = .ok (.iload 5, 2) := by decide +kernel
theorem dX12_unlike_62 : decode cX12_unlike 62 = .ok (.istore_n 3, 1) := by decide +kernel
theorem dX12_unlike_63 : decode cX12_unlike 63 = .ok (.iinc 4 1, 3) := by decide +kernel
theorem dX12_unlike_66 : decode cX12_unlike 66 = .ok (.goto (-59), 3) := by decide +kernel
theorem dX12_unlike_69 : decode cX12_unlike 69 = .ok (.iload_n 2, 1) := by decide +kernel
theorem dX12_unlike_70 : decode cX12_unlike 70 = .ok (.iload_n 3, 1) := by decide +kernel
theorem dX12_unlike_71 : decode cX12_unlike 71 = .ok (.isub, 1) := by decide +kernel
theorem dX12_unlike_72 : decode cX12_unlike 72 = .ok (.ireturn, 1) := by decide +kernel
theorem dX12_nextOrder_0 : decode cX12_nextOrder 0 = .ok (.aload_n 0, 1) := by decide +kernel
theorem dX12_nextOrder_1 : decode cX12_nextOrder 1 = .ok (.getfield 125, 3) := by decide +kernel
theorem dX12_nextOrder_4 : decode cX12_nextOrder 4 = .ok (.iconst 2, 1) := by decide +kernel
theorem dX12_nextOrder_5 : decode cX12_nextOrder 5 = .ok (.isub, 1) := by decide +kernel
theorem dX12_nextOrder_6 : decode cX12_nextOrder 6 = .ok (.istore_n 1, 1) := by decide +kernel
theorem dX12_nextOrder_7 : decode cX12_nextOrder 7 = .ok (.iload_n 1, 1) := by decide +kernel
theorem dX12_nextOrder_8 : decode cX12_nextOrder 8 = .ok (.ifCond .lt 26, 3) := by decide +kernel
theorem dX12_nextOrder_11 : decode cX12_nextOrder 11 = .ok (.aload_n 0, 1) := by decide +kernel
theorem dX12_nextOrder_12 : decode cX12_nextOrder 12 = .ok (.getfield 115, 3) := by decide +kernel
theorem dX12_nextOrder_15 : decode cX12_nextOrder 15 = .ok (.iload_n 1, 1) := by decide +kernel
theorem dX12_nextOrder_16 : decode cX12_nextOrder 16 = .ok (.iaload, 1) := by decide +kernel
theorem dX12_nextOrder_17 : decode cX12_nextOrder 17 = .ok (.aload_n 0, 1) := by decide +kernel
theorem dX12_nextOrder_18 : decode cX12_nextOrder 18 = .ok (.getfield 115, 3) := by decide +kernel
theorem dX12_nextOrder_21 : decode cX12_nextOrder 21 = .ok (.iload_n 1, 1) := by decide +kernel
theorem dX12_nextOrder_22 : decode cX12_nextOrder 22 = .ok (.iconst 1, 1) := by decide +kernel
theorem dX12_nextOrder_23 : decode cX12_nextOrder 23 = .ok (.iadd, 1) := by decide +kernel
theorem dX12_nextOrder_24 : decode cX12_nextOrder 24 = .ok (.iaload, 1) := by decide +kernel
theorem dX12_nextOrder_25 : decode cX12_nextOrder 25 = .ok (.if_icmp .le 9, 3) := by decide +kernel
theorem dX12_nextOrder_28 : decode cX12_nextOrder 28 = .ok (.iinc 1 (-1), 3) := by decide +kernel
theorem dX12_nextOrder_31 : decode cX12_nextOrder 31 = .ok (.goto (-24), 3) := by decide +kernel
theorem dX12_nextOrder_34 : decode cX12_nextOrder 34 = .ok (.iload_n 1, 1) := by decide +kernel
theorem dX12_nextOrder_35 : decode cX12_nextOrder 35 = .ok (.ifCond .ge 5, 3) := by decide +kernel
theorem dX12_nextOrder_38 : decode cX12_nextOrder 38 = .ok (.iconst 0, 1) := by decide +kernel
theorem dX12_nextOrder_39 : decode cX12_nextOrder 39 = .ok (.ireturn, 1) := by decide +kernel
theorem dX12_nextOrder_40 : decode cX12_nextOrder 40 = .ok (.aload_n 0, 1) := by decide +kernel
theorem dX12_nextOrder_41 : decode cX12_nextOrder 41 = .ok (.getfield 125, 3) := by decide +kernel
theorem dX12_nextOrder_44 : decode cX12_nextOrder 44 = .ok (.iconst 1, 1) := by decide +kernel
theorem dX12_nextOrder_45 : decode cX12_nextOrder 45 = .ok (.isub, 1) := by decide +kernel
theorem dX12_nextOrder_46 : decode cX12_nextOrder 46 = .ok (.istore_n 2, 1) := by decide +kernel
theorem dX12_nextOrder_47 : decode cX12_nextOrder 47 = .ok (.aload_n 0, 1) := by decide +kernel
theorem dX12_nextOrder_48 : decode cX12_nextOrder 48 = .ok (.getfield 115, 3) := by decide +kernel
theorem dX12_nextOrder_51 : decode cX12_nextOrder 51 = .ok (.iload_n 2, 1) := by decide +kernel
theorem dX12_nextOrder_52 : decode cX12_nextOrder 52 = .ok (.iaload, 1) := by decide +kernel
theorem dX12_nextOrder_53 : decode cX12_nextOrder 53 = .ok (.aload_n 0, 1) := by decide +kernel
theorem dX12_nextOrder_54 : decode cX12_nextOrder 54 = .ok (.getfield 115, 3) := by decide +kernel
theorem dX12_nextOrder_57 : decode cX12_nextOrder 57 = .ok (.iload_n 1, 1) := by decide +kernel
theorem dX12_nextOrder_58 : decode cX12_nextOrder 58 = .ok (.iaload, 1) := by decide +kernel
theorem dX12_nextOrder_59 : decode cX12_nextOrder 59 = .ok (.if_icmp .ge 9, 3) := by decide +kernel
theorem dX12_nextOrder_62 : decode cX12_nextOrder 62 = .ok (.iinc 2 (-1), 3) := by decide +kernel
theorem dX12_nextOrder_65 : decode cX12_nextOrder 65 = .ok (.goto (-18), 3) := by decide +kernel
theorem dX12_nextOrder_68 : decode cX12_nextOrder 68 = .ok (.aload_n 0, 1) := by decide +kernel
theorem dX12_nextOrder_69 : decode cX12_nextOrder 69 = .ok (.iload_n 1, 1) := by decide +kernel
theorem dX12_nextOrder_70 : decode cX12_nextOrder 70 = .ok (.iload_n 2, 1) := by decide +kernel
theorem dX12_nextOrder_71 : decode cX12_nextOrder 71 = .ok (.invokevirtual 323, 3) := by decide +kernel
theorem dX12_nextOrder_74 : decode cX12_nextOrder 74 = .ok (.iload_n 1, 1) := by decide +kernel
theorem dX12_nextOrder_75 : decode cX12_nextOrder 75 = .ok (.iconst 1, 1) := by decide +kernel
theorem dX12_nextOrder_76 : decode cX12_nextOrder 76 = .ok (.iadd, 1) := by decide +kernel
theorem dX12_nextOrder_77 : decode cX12_nextOrder 77 = .ok (.istore_n 3, 1) := by decide +kernel
theorem dX12_nextOrder_78 : decode cX12_nextOrder 78 = .ok (.aload_n 0, 1) := by decide +kernel
theorem dX12_nextOrder_79 : decode cX12_nextOrder 79 = .ok (.getfield 125, 3) := by decide +kernel
theorem dX12_nextOrder_82 : decode cX12_nextOrder 82 = .ok (.iconst 1, 1) := by decide +kernel
theorem dX12_nextOrder_83 : decode cX12_nextOrder 83 = .ok (.isub, 1) := by decide +kernel
theorem dX12_nextOrder_84 : decode cX12_nextOrder 84 = .ok (.istore 4, 2) := by decide +kernel
theorem dX12_nextOrder_86 : decode cX12_nextOrder 86 = .ok (.iload_n 3, 1) := by decide +kernel
theorem dX12_nextOrder_87 : decode cX12_nextOrder 87 = .ok (.iload 4, 2) := by decide +kernel
theorem dX12_nextOrder_89 : decode cX12_nextOrder 89 = .ok (.if_icmp .ge 19, 3) := by decide +kernel
theorem dX12_nextOrder_92 : decode cX12_nextOrder 92 = .ok (.aload_n 0, 1) := by decide +kernel
theorem dX12_nextOrder_93 : decode cX12_nextOrder 93 = .ok (.iload_n 3, 1) := by decide +kernel
theorem dX12_nextOrder_94 : decode cX12_nextOrder 94 = .ok (.iload 4, 2) := by decide +kernel
theorem dX12_nextOrder_96 : decode cX12_nextOrder 96 = .ok (.invokevirtual 323, 3) := by decide +kernel
theorem dX12_nextOrder_99 : decode cX12_nextOrder 99 = .ok (.iinc 3 1, 3) := by decide +kernel
theorem dX12_nextOrder_102 : decode cX12_nextOrder 102 = .ok (.iinc 4 (-1), 3) := by decide +kernel
theorem dX12_nextOrder_105 : decode cX12_nextOrder 105 = .ok (.goto (-19), 3) := by decide +kernel
theorem dX12_nextOrder_108 : decode cX12_nextOrder 108 = .ok (.iconst 1, 1) := by decide +kernel
theorem dX12_nextOrder_109 : decode cX12_nextOrder 109 = .ok (.ireturn, 1) := by decide +kernel
theorem dX12_exchange_0 : decode cX12_exchange 0 = .ok (.aload_n 0, 1) := by decide +kernel
theorem dX12_exchange_1 : decode cX12_exchange 1 = .ok (.getfield 115, 3) := by decide +kernel
theorem dX12_exchange_4 : decode cX12_exchange 4 = .ok (.iload_n 1, 1) := by decide +kernel
theorem dX12_exchange_5 : decode cX12_exchange 5 = .ok (.iaload, 1) := by decide +kernel
theorem dX12_exchange_6 : decode cX12_exchange 6 = .ok (.istore_n 3, 1) := by decide +kernel
theorem dX12_exchange_7 : decode cX12_exchange 7 = .ok (.aload_n 0, 1) := by decide +kernel
theorem dX12_exchange_8 : decode cX12_exchange 8 = .ok (.getfield 115, 3) := by decide +kernel
theorem dX12_exchange_11 : decode cX12_exchange 11 = .ok (.iload_n 1, 1) := by decide +kernel
theorem dX12_exchange_12 : decode cX12_exchange 12 = .ok (.aload_n 0, 1) := by decide +kernel
theorem dX12_exchange_13 : decode cX12_exchange 13 = .ok (.getfield 115, 3) := by decide +kernel
theorem dX12_exchange_16 : decode cX12_exchange 16 = .ok (.iload_n 2, 1) := by decide +kernel
theorem dX12_exchange_17 : decode cX12_exchange 17 = .ok (.iaload, 1) := by decide +kernel
theorem dX12_exchange_18 : decode cX12_exchange 18 = .ok (.iastore, 1) := by decide +kernel
theorem dX12_exchange_19 : decode cX12_exchange 19 = .ok (.aload_n 0, 1) := by decide +kernel
theorem dX12_exchange_20 : decode cX12_exchange 20 = .ok (.getfield 115, 3) := by decide +kernel
theorem dX12_exchange_23 : decode cX12_exchange 23 = .ok (.iload_n 2, 1) := by decide +kernel
theorem dX12_exchange_24 : decode cX12_exchange 24 = .ok (.iload_n 3, 1) := by decide +kernel
theorem dX12_exchange_25 : decode cX12_exchange 25 = .ok (.iastore, 1) := by decide +kernel
theorem dX12_exchange_26 : decode cX12_exchange 26 = .ok (.return_, 1) := by decide +kernel
theorem dX12_line_0 : decode cX12_line 0 = .ok (.iload_n 1, 1) := by decide +kernel
theorem dX12_line_1 : decode cX12_line 1 = .ok (.iconst 0, 1) := by decide +kernel
theorem dX12_line_2 : decode cX12_line 2 = .ok (.bipush 9, 2) := by decide +kernel
theorem dX12_line_4 : decode cX12_line 4 = .ok (.invokestatic 128, 3) := by decide +kernel
theorem dX12_line_7 : decode cX12_line 7 = .ok (.ifCond .eq 8, 3) := by decide +kernel
theorem dX12_line_10 : decode cX12_line 10 = .ok (.iload_n 2, 1) := by decide +kernel
theorem dX12_line_11 : decode cX12_line 11 = .ok (.iconst (-1), 1) := by decide +kernel
theorem dX12_line_12 : decode cX12_line 12 = .ok (.if_icmp .ge 5, 3) := by decide +kernel
theorem dX12_line_15 : decode cX12_line 15 = .ok (.iconst (-1), 1) := by decide +kernel
theorem dX12_line_16 : decode cX12_line 16 = .ok (.ireturn, 1) := by decide +kernel
theorem dX12_line_17 : decode cX12_line 17 = .ok (.aload_n 0, 1) := by decide +kernel
theorem dX12_line_18 : decode cX12_line 18 = .ok (.getfield 125, 3) := by decide +kernel
theorem dX12_line_21 : decode cX12_line 21 = .ok (.bipush 6, 2) := by decide +kernel
theorem dX12_line_23 : decode cX12_line 23 = .ok (.if_icmp .le 6, 3) := by decide +kernel
theorem dX12_line_26 : decode cX12_line 26 = .ok (.bipush (-5), 2) := by decide +kernel
theorem dX12_line_28 : decode cX12_line 28 = .ok (.ireturn, 1) := by decide +kernel
theorem dX12_line_29 : decode cX12_line 29 = .ok (.iload_n 2, 1) := by decide +kernel
theorem dX12_line_30 : decode cX12_line 30 = .ok (.aload_n 0, 1) := by decide +kernel
theorem dX12_line_31 : decode cX12_line 31 = .ok (.getfield 125, 3) := by decide +kernel
theorem dX12_line_34 : decode cX12_line 34 = .ok (.if_icmp .lt 6, 3) := by decide +kernel
theorem dX12_line_37 : decode cX12_line 37 = .ok (.bipush (-2), 2) := by decide +kernel
theorem dX12_line_39 : decode cX12_line 39 = .ok (.ireturn, 1) := by decide +kernel
theorem dX12_line_40 : decode cX12_line 40 = .ok (.iconst 0, 1) := by decide +kernel
theorem dX12_line_41 : decode cX12_line 41 = .ok (.istore_n 3, 1) := by decide +kernel
theorem dX12_line_42 : decode cX12_line 42 = .ok (.iload_n 3, 1) := by decide +kernel
theorem dX12_line_43 : decode cX12_line 43 = .ok (.bipush 6, 2) := by decide +kernel
theorem dX12_line_45 : decode cX12_line 45 = .ok (.if_icmp .ge 16, 3) := by decide +kernel
theorem dX12_line_48 : decode cX12_line 48 = .ok (.aload_n 0, 1) := by decide +kernel
theorem dX12_line_49 : decode cX12_line 49 = .ok (.getfield 115, 3) := by decide +kernel
theorem dX12_line_52 : decode cX12_line 52 = .ok (.iload_n 3, 1) := by decide +kernel
theorem dX12_line_53 : decode cX12_line 53 = .ok (.iload_n 3, 1) := by decide +kernel
theorem dX12_line_54 : decode cX12_line 54 = .ok (.iastore, 1) := by decide +kernel
theorem dX12_line_55 : decode cX12_line 55 = .ok (.iinc 3 1, 3) := by decide +kernel
theorem dX12_line_58 : decode cX12_line 58 = .ok (.goto (-16), 3) := by decide +kernel
theorem dX12_line_61 : decode cX12_line 61 = .ok (.iconst (-1), 1) := by decide +kernel
theorem dX12_line_62 : decode cX12_line 62 = .ok (.istore_n 3, 1) := by decide +kernel
theorem dX12_line_63 : decode cX12_line 63 = .ok (.iconst 1, 1) := by decide +kernel
theorem dX12_line_64 : decode cX12_line 64 = .ok (.istore 4, 2) := by decide +kernel
theorem dX12_line_66 : decode cX12_line 66 = .ok (.iload 4, 2) := by decide +kernel
theorem dX12_line_68 : decode cX12_line 68 = .ok (.ifCond .eq 62, 3) := by decide +kernel
theorem dX12_line_71 : decode cX12_line 71 = .ok (.aload_n 0, 1) := by decide +kernel
theorem dX12_line_72 : decode cX12_line 72 = .ok (.iload_n 1, 1) := by decide +kernel
theorem dX12_line_73 : decode cX12_line 73 = .ok (.invokevirtual 327, 3) := by decide +kernel
theorem dX12_line_76 : decode cX12_line 76 = .ok (.istore 5, 2) := by decide +kernel
theorem dX12_line_78 : decode cX12_line 78 = .ok (.iload_n 3, 1) := by decide +kernel
theorem dX12_line_79 : decode cX12_line 79 = .ok (.ifCond .lt 9, 3) := by decide +kernel
theorem dX12_line_82 : decode cX12_line 82 = .ok (.iload 5, 2) := by decide +kernel
theorem dX12_line_84 : decode cX12_line 84 = .ok (.iload_n 3, 1) := by decide +kernel
theorem dX12_line_85 : decode cX12_line 85 = .ok (.if_icmp .ge 36, 3) := by decide +kernel
theorem dX12_line_88 : decode cX12_line 88 = .ok (.iload 5, 2) := by decide +kernel
theorem dX12_line_90 : decode cX12_line 90 = .ok (.istore_n 3, 1) := by decide +kernel
theorem dX12_line_91 : decode cX12_line 91 = .ok (.iconst 0, 1) := by decide +kernel
theorem dX12_line_92 : decode cX12_line 92 = .ok (.istore 6, 2) := by decide +kernel
theorem dX12_line_94 : decode cX12_line 94 = .ok (.iload 6, 2) := by decide +kernel
theorem dX12_line_96 : decode cX12_line 96 = .ok (.bipush 6, 2) := by decide +kernel
theorem dX12_line_98 : decode cX12_line 98 = .ok (.if_icmp .ge 23, 3) := by decide +kernel
theorem dX12_line_101 : decode cX12_line 101 = .ok (.aload_n 0, 1) := by decide +kernel
theorem dX12_line_102 : decode cX12_line 102 = .ok (.getfield 118, 3) := by decide +kernel
theorem dX12_line_105 : decode cX12_line 105 = .ok (.iload 6, 2) := by decide +kernel
theorem dX12_line_107 : decode cX12_line 107 = .ok (.aload_n 0, 1) := by decide +kernel
theorem dX12_line_108 : decode cX12_line 108 = .ok (.getfield 115, 3) := by decide +kernel
theorem dX12_line_111 : decode cX12_line 111 = .ok (.iload 6, 2) := by decide +kernel
theorem dX12_line_113 : decode cX12_line 113 = .ok (.iaload, 1) := by decide +kernel
theorem dX12_line_114 : decode cX12_line 114 = .ok (.iastore, 1) := by decide +kernel
theorem dX12_line_115 : decode cX12_line 115 = .ok (.iinc 6 1, 3) := by decide +kernel
theorem dX12_line_118 : decode cX12_line 118 = .ok (.goto (-24), 3) := by decide +kernel
theorem dX12_line_121 : decode cX12_line 121 = .ok (.aload_n 0, 1) := by decide +kernel
theorem dX12_line_122 : decode cX12_line 122 = .ok (.invokevirtual 330, 3) := by decide +kernel
theorem dX12_line_125 : decode cX12_line 125 = .ok (.istore 4, 2) := by decide +kernel
theorem dX12_line_127 : decode cX12_line 127 = .ok (.goto (-61), 3) := by decide +kernel
theorem dX12_line_130 : decode cX12_line 130 = .ok (.iload_n 2, 1) := by decide +kernel
theorem dX12_line_131 : decode cX12_line 131 = .ok (.iconst (-1), 1) := by decide +kernel
theorem dX12_line_132 : decode cX12_line 132 = .ok (.if_icmp .ne 7, 3) := by decide +kernel
theorem dX12_line_135 : decode cX12_line 135 = .ok (.iload_n 3, 1) := by decide +kernel
theorem dX12_line_136 : decode cX12_line 136 = .ok (.goto 9, 3) := by decide +kernel
theorem dX12_line_139 : decode cX12_line 139 = .ok (.aload_n 0, 1) := by decide +kernel
theorem dX12_line_140 : decode cX12_line 140 = .ok (.getfield 118, 3) := by decide +kernel
theorem dX12_line_143 : decode cX12_line 143 = .ok (.iload_n 2, 1) := by decide +kernel
theorem dX12_line_144 : decode cX12_line 144 = .ok (.iaload, 1) := by decide +kernel
theorem dX12_line_145 : decode cX12_line 145 = .ok (.ireturn, 1) := by decide +kernel
theorem dX12_lift_0 : decode cX12_lift 0 = .ok (.iload_n 1, 1) := by decide +kernel
theorem dX12_lift_1 : decode cX12_lift 1 = .ok (.iconst 0, 1) := by decide +kernel
theorem dX12_lift_2 : decode cX12_lift 2 = .ok (.iconst 1, 1) := by decide +kernel
theorem dX12_lift_3 : decode cX12_lift 3 = .ok (.invokestatic 128, 3) := by decide +kernel
theorem dX12_lift_6 : decode cX12_lift 6 = .ok (.ifCond .ne 5, 3) := by decide +kernel
theorem dX12_lift_9 : decode cX12_lift 9 = .ok (.iconst (-1), 1) := by decide +kernel
theorem dX12_lift_10 : decode cX12_lift 10 = .ok (.ireturn, 1) := by decide +kernel
theorem dX12_lift_11 : decode cX12_lift 11 = .ok (.bipush (-2), 2) := by decide +kernel
theorem dX12_lift_13 : decode cX12_lift 13 = .ok (.istore_n 2, 1) := by decide +kernel
theorem dX12_lift_14 : decode cX12_lift 14 = .ok (.bipush (-2), 2) := by decide +kernel
theorem dX12_lift_16 : decode cX12_lift 16 = .ok (.istore_n 3, 1) := by decide +kernel
theorem dX12_lift_17 : decode cX12_lift 17 = .ok (.iconst 0, 1) := by decide +kernel
theorem dX12_lift_18 : decode cX12_lift 18 = .ok (.istore 4, 2) := by decide +kernel
theorem dX12_lift_20 : decode cX12_lift 20 = .ok (.iconst 0, 1) := by decide +kernel
theorem dX12_lift_21 : decode cX12_lift 21 = .ok (.istore 5, 2) := by decide +kernel
theorem dX12_lift_23 : decode cX12_lift 23 = .ok (.iload 5, 2) := by decide +kernel
theorem dX12_lift_25 : decode cX12_lift 25 = .ok (.aload_n 0, 1) := by decide +kernel
theorem dX12_lift_26 : decode cX12_lift 26 = .ok (.getfield 125, 3) := by decide +kernel
theorem dX12_lift_29 : decode cX12_lift 29 = .ok (.if_icmp .ge 136, 3) := by decide +kernel
theorem dX12_lift_32 : decode cX12_lift 32 = .ok (.iconst 0, 1) := by decide +kernel
theorem dX12_lift_33 : decode cX12_lift 33 = .ok (.istore 6, 2) := by decide +kernel
theorem dX12_lift_35 : decode cX12_lift 35 = .ok (.iload 6, 2) := by decide +kernel
theorem dX12_lift_37 : decode cX12_lift 37 = .ok (.iconst 1, 1) := by decide +kernel
theorem dX12_lift_38 : decode cX12_lift 38 = .ok (.aload_n 0, 1) := by decide +kernel
theorem dX12_lift_39 : decode cX12_lift 39 = .ok (.getfield 125, 3) := by decide +kernel
theorem dX12_lift_42 : decode cX12_lift 42 = .ok (.ishl, 1) := by decide +kernel
theorem dX12_lift_43 : decode cX12_lift 43 = .ok (.if_icmp .ge 116, 3) := by decide +kernel
theorem dX12_lift_46 : decode cX12_lift 46 = .ok (.iload 6, 2) := by decide +kernel
theorem dX12_lift_48 : decode cX12_lift 48 = .ok (.invokestatic 333, 3) := by decide +kernel
theorem dX12_lift_51 : decode cX12_lift 51 = .ok (.iconst 3, 1) := by decide +kernel
theorem dX12_lift_52 : decode cX12_lift 52 = .ok (.if_icmp .ne 101, 3) := by decide +kernel
theorem dX12_lift_55 : decode cX12_lift 55 = .ok (.iload 6, 2) := by decide +kernel
theorem dX12_lift_57 : decode cX12_lift 57 = .ok (.iload 5, 2) := by decide +kernel
theorem dX12_lift_59 : decode cX12_lift 59 = .ok (.ishr, 1) := by decide +kernel
theorem dX12_lift_60 : decode cX12_lift 60 = .ok (.iconst 1, 1) := by decide +kernel
theorem dX12_lift_61 : decode cX12_lift 61 = .ok (.iand, 1) := by decide +kernel
theorem dX12_lift_62 : decode cX12_lift 62 = .ok (.iconst 1, 1) := by decide +kernel
theorem dX12_lift_63 : decode cX12_lift 63 = .ok (.if_icmp .ne 6, 3) := by decide +kernel
theorem dX12_lift_66 : decode cX12_lift 66 = .ok (.goto 87, 3) := by decide +kernel
theorem dX12_lift_69 : decode cX12_lift 69 = .ok (.bipush (-3), 2) := by decide +kernel
theorem dX12_lift_71 : decode cX12_lift 71 = .ok (.aload_n 0, 1) := by decide +kernel
theorem dX12_lift_72 : decode cX12_lift 72 = .ok (.getfield 18, 3) := by decide +kernel
theorem dX12_lift_75 : decode cX12_lift 75 = .ok (.iload 5, 2) := by decide +kernel
theorem dX12_lift_77 : decode cX12_lift 77 = .ok (.iaload, 1) := by decide +kernel
theorem dX12_lift_78 : decode cX12_lift 78 = .ok (.imul, 1) := by decide +kernel
theorem dX12_lift_79 : decode cX12_lift 79 = .ok (.istore 7, 2) := by decide +kernel
theorem dX12_lift_81 : decode cX12_lift 81 = .ok (.iconst 0, 1) := by decide +kernel
theorem dX12_lift_82 : decode cX12_lift 82 = .ok (.istore 8, 2) := by decide +kernel
theorem dX12_lift_84 : decode cX12_lift 84 = .ok (.iload 8, 2) := by decide +kernel
theorem dX12_lift_86 : decode cX12_lift 86 = .ok (.aload_n 0, 1) := by decide +kernel
theorem dX12_lift_87 : decode cX12_lift 87 = .ok (.getfield 125, 3) := by decide +kernel
theorem dX12_lift_90 : decode cX12_lift 90 = .ok (.if_icmp .ge 32, 3) := by decide +kernel
theorem dX12_lift_93 : decode cX12_lift 93 = .ok (.iload 6, 2) := by decide +kernel
theorem dX12_lift_95 : decode cX12_lift 95 = .ok (.iload 8, 2) := by decide +kernel
theorem dX12_lift_97 : decode cX12_lift 97 = .ok (.ishr, 1) := by decide +kernel
theorem dX12_lift_98 : decode cX12_lift 98 = .ok (.iconst 1, 1) := by decide +kernel
theorem dX12_lift_99 : decode cX12_lift 99 = .ok (.iand, 1) := by decide +kernel
theorem dX12_lift_100 : decode cX12_lift 100 = .ok (.iconst 1, 1) := by decide +kernel
theorem dX12_lift_101 : decode cX12_lift 101 = .ok (.if_icmp .ne 15, 3) := by decide +kernel
theorem dX12_lift_104 : decode cX12_lift 104 = .ok (.iload 7, 2) := by decide +kernel
theorem dX12_lift_106 : decode cX12_lift 106 = .ok (.aload_n 0, 1) := by decide +kernel
theorem dX12_lift_107 : decode cX12_lift 107 = .ok (.getfield 18, 3) := by decide +kernel
theorem dX12_lift_110 : decode cX12_lift 110 = .ok (.iload 8, 2) := by decide +kernel
theorem dX12_lift_112 : decode cX12_lift 112 = .ok (.iaload, 1) := by decide +kernel
theorem dX12_lift_113 : decode cX12_lift 113 = .ok (.iadd, 1) := by decide +kernel
theorem dX12_lift_114 : decode cX12_lift 114 = .ok (.istore 7, 2) := by decide +kernel
theorem dX12_lift_116 : decode cX12_lift 116 = .ok (.iinc 8 1, 3) := by decide +kernel
theorem dX12_lift_119 : decode cX12_lift 119 = .ok (.goto (-35), 3) := by decide +kernel
theorem dX12_lift_122 : decode cX12_lift 122 = .ok (.iload 7, 2) := by decide +kernel
theorem dX12_lift_124 : decode cX12_lift 124 = .ok (.ifCond .lt 29, 3) := by decide +kernel
theorem dX12_lift_127 : decode cX12_lift 127 = .ok (.iload_n 2, 1) := by decide +kernel
theorem dX12_lift_128 : decode cX12_lift 128 = .ok (.bipush (-2), 2) := by decide +kernel
theorem dX12_lift_130 : decode cX12_lift 130 = .ok (.if_icmp .eq 13, 3) := by decide +kernel
theorem dX12_lift_133 : decode cX12_lift 133 = .ok (.iload 7, 2) := by decide +kernel
theorem dX12_lift_135 : decode cX12_lift 135 = .ok (.iload 4, 2) := by decide +kernel
theorem dX12_lift_137 : decode cX12_lift 137 = .ok (.if_icmp .lt 6, 3) := by decide +kernel
theorem dX12_lift_140 : decode cX12_lift 140 = .ok (.goto 13, 3) := by decide +kernel
theorem dX12_lift_143 : decode cX12_lift 143 = .ok (.iload 7, 2) := by decide +kernel
theorem dX12_lift_145 : decode cX12_lift 145 = .ok (.istore 4, 2) := by decide +kernel
theorem dX12_lift_147 : decode cX12_lift 147 = .ok (.iload 5, 2) := by decide +kernel
theorem dX12_lift_149 : decode cX12_lift 149 = .ok (.istore_n 2, 1) := by decide +kernel
theorem dX12_lift_150 : decode cX12_lift 150 = .ok (.iload 6, 2) := by decide +kernel
theorem dX12_lift_152 : decode cX12_lift 152 = .ok (.istore_n 3, 1) := by decide +kernel
theorem dX12_lift_153 : decode cX12_lift 153 = .ok (.iinc 6 1, 3) := by decide +kernel
theorem dX12_lift_156 : decode cX12_lift 156 = .ok (.goto (-121), 3) := by decide +kernel
theorem dX12_lift_159 : decode cX12_lift 159 = .ok (.iinc 5 1, 3) := by decide +kernel
theorem dX12_lift_162 : decode cX12_lift 162 = .ok (.goto (-139), 3) := by decide +kernel
theorem dX12_lift_165 : decode cX12_lift 165 = .ok (.iload_n 1, 1) := by decide +kernel
theorem dX12_lift_166 : decode cX12_lift 166 = .ok (.ifCond .ne 7, 3) := by decide +kernel
theorem dX12_lift_169 : decode cX12_lift 169 = .ok (.iload_n 2, 1) := by decide +kernel
theorem dX12_lift_170 : decode cX12_lift 170 = .ok (.goto 4, 3) := by decide +kernel
theorem dX12_lift_173 : decode cX12_lift 173 = .ok (.iload_n 3, 1) := by decide +kernel
theorem dX12_lift_174 : decode cX12_lift 174 = .ok (.ireturn, 1) := by decide +kernel
theorem dX12_span_0 : decode cX12_span 0 = .ok (.aload_n 0, 1) := by decide +kernel
theorem dX12_span_1 : decode cX12_span 1 = .ok (.iconst 0, 1) := by decide +kernel
theorem dX12_span_2 : decode cX12_span 2 = .ok (.iaload, 1) := by decide +kernel
theorem dX12_span_3 : decode cX12_span 3 = .ok (.istore_n 2, 1) := by decide +kernel
theorem dX12_span_4 : decode cX12_span 4 = .ok (.aload_n 0, 1) := by decide +kernel
theorem dX12_span_5 : decode cX12_span 5 = .ok (.iconst 0, 1) := by decide +kernel
theorem dX12_span_6 : decode cX12_span 6 = .ok (.iaload, 1) := by decide +kernel
theorem dX12_span_7 : decode cX12_span 7 = .ok (.istore_n 3, 1) := by decide +kernel
theorem dX12_span_8 : decode cX12_span 8 = .ok (.iconst 1, 1) := by decide +kernel
theorem dX12_span_9 : decode cX12_span 9 = .ok (.istore 4, 2) := by decide +kernel
theorem dX12_span_11 : decode cX12_span 11 = .ok (.iload 4, 2) := by decide +kernel
theorem dX12_span_13 : decode cX12_span 13 = .ok (.iload_n 1, 1) := by decide +kernel
theorem dX12_span_14 : decode cX12_span 14 = .ok (.if_icmp .ge 27, 3) := by decide +kernel
theorem dX12_span_17 : decode cX12_span 17 = .ok (.iload_n 2, 1) := by decide +kernel
theorem dX12_span_18 : decode cX12_span 18 = .ok (.aload_n 0, 1) := by decide +kernel
theorem dX12_span_19 : decode cX12_span 19 = .ok (.iload 4, 2) := by decide +kernel
theorem dX12_span_21 : decode cX12_span 21 = .ok (.iaload, 1) := by decide +kernel
theorem dX12_span_22 : decode cX12_span 22 = .ok (.invokestatic 232, 3) := by decide +kernel
theorem dX12_span_25 : decode cX12_span 25 = .ok (.istore_n 2, 1) := by decide +kernel
theorem dX12_span_26 : decode cX12_span 26 = .ok (.iload_n 3, 1) := by decide +kernel
theorem dX12_span_27 : decode cX12_span 27 = .ok (.aload_n 0, 1) := by decide +kernel
theorem dX12_span_28 : decode cX12_span 28 = .ok (.iload 4, 2) := by decide +kernel
theorem dX12_span_30 : decode cX12_span 30 = .ok (.iaload, 1) := by decide +kernel
theorem dX12_span_31 : decode cX12_span 31 = .ok (.invokestatic 243, 3) := by decide +kernel
theorem dX12_span_34 : decode cX12_span 34 = .ok (.istore_n 3, 1) := by decide +kernel
theorem dX12_span_35 : decode cX12_span 35 = .ok (.iinc 4 1, 3) := by decide +kernel
theorem dX12_span_38 : decode cX12_span 38 = .ok (.goto (-27), 3) := by decide +kernel
theorem dX12_span_41 : decode cX12_span 41 = .ok (.iload_n 3, 1) := by decide +kernel
theorem dX12_span_42 : decode cX12_span 42 = .ok (.iload_n 2, 1) := by decide +kernel
theorem dX12_span_43 : decode cX12_span 43 = .ok (.isub, 1) := by decide +kernel
theorem dX12_span_44 : decode cX12_span 44 = .ok (.iconst 1, 1) := by decide +kernel
theorem dX12_span_45 : decode cX12_span 45 = .ok (.iadd, 1) := by decide +kernel
theorem dX12_span_46 : decode cX12_span 46 = .ok (.ireturn, 1) := by decide +kernel
theorem dX12_isAt_0 : decode cX12_isAt 0 = .ok (.iconst 0, 1) := by decide +kernel
theorem dX12_isAt_1 : decode cX12_isAt 1 = .ok (.istore 4, 2) := by decide +kernel
theorem dX12_isAt_3 : decode cX12_isAt 3 = .ok (.iload 4, 2) := by decide +kernel
theorem dX12_isAt_5 : decode cX12_isAt 5 = .ok (.aload_n 0, 1) := by decide +kernel
theorem dX12_isAt_6 : decode cX12_isAt 6 = .ok (.getfield 125, 3) := by decide +kernel
theorem dX12_isAt_9 : decode cX12_isAt 9 = .ok (.if_icmp .ge 39, 3) := by decide +kernel
theorem dX12_isAt_12 : decode cX12_isAt 12 = .ok (.iload 4, 2) := by decide +kernel
theorem dX12_isAt_14 : decode cX12_isAt 14 = .ok (.iload_n 3, 1) := by decide +kernel
theorem dX12_isAt_15 : decode cX12_isAt 15 = .ok (.if_icmp .eq 27, 3) := by decide +kernel
theorem dX12_isAt_18 : decode cX12_isAt 18 = .ok (.aload_n 0, 1) := by decide +kernel
theorem dX12_isAt_19 : decode cX12_isAt 19 = .ok (.getfield 9, 3) := by decide +kernel
theorem dX12_isAt_22 : decode cX12_isAt 22 = .ok (.iload 4, 2) := by decide +kernel
theorem dX12_isAt_24 : decode cX12_isAt 24 = .ok (.iaload, 1) := by decide +kernel
theorem dX12_isAt_25 : decode cX12_isAt 25 = .ok (.iload_n 1, 1) := by decide +kernel
theorem dX12_isAt_26 : decode cX12_isAt 26 = .ok (.if_icmp .ne 16, 3) := by decide +kernel
theorem dX12_isAt_29 : decode cX12_isAt 29 = .ok (.aload_n 0, 1) := by decide +kernel
theorem dX12_isAt_30 : decode cX12_isAt 30 = .ok (.getfield 15, 3) := by decide +kernel
theorem dX12_isAt_33 : decode cX12_isAt 33 = .ok (.iload 4, 2) := by decide +kernel
theorem dX12_isAt_35 : decode cX12_isAt 35 = .ok (.iaload, 1) := by decide +kernel
theorem dX12_isAt_36 : decode cX12_isAt 36 = .ok (.iload_n 2, 1) := by decide +kernel
theorem dX12_isAt_37 : decode cX12_isAt 37 = .ok (.if_icmp .ne 5, 3) := by decide +kernel
theorem dX12_isAt_40 : decode cX12_isAt 40 = .ok (.iconst 1, 1) := by decide +kernel
theorem dX12_isAt_41 : decode cX12_isAt 41 = .ok (.ireturn, 1) := by decide +kernel
theorem dX12_isAt_42 : decode cX12_isAt 42 = .ok (.iinc 4 1, 3) := by decide +kernel
theorem dX12_isAt_45 : decode cX12_isAt 45 = .ok (.goto (-42), 3) := by decide +kernel
theorem dX12_isAt_48 : decode cX12_isAt 48 = .ok (.iconst 0, 1) := by decide +kernel
theorem dX12_isAt_49 : decode cX12_isAt 49 = .ok (.ireturn, 1) := by decide +kernel
theorem dX12_star_0 : decode cX12_star 0 = .ok (.iload_n 1, 1) := by decide +kernel
theorem dX12_star_1 : decode cX12_star 1 = .ok (.iconst 0, 1) := by decide +kernel
theorem dX12_star_2 : decode cX12_star 2 = .ok (.iconst 2, 1) := by decide +kernel
theorem dX12_star_3 : decode cX12_star 3 = .ok (.invokestatic 128, 3) := by decide +kernel
theorem dX12_star_6 : decode cX12_star 6 = .ok (.ifCond .ne 5, 3) := by decide +kernel
theorem dX12_star_9 : decode cX12_star 9 = .ok (.iconst (-1), 1) := by decide +kernel
theorem dX12_star_10 : decode cX12_star 10 = .ok (.ireturn, 1) := by decide +kernel
theorem dX12_star_11 : decode cX12_star 11 = .ok (.iload_n 1, 1) := by decide +kernel
theorem dX12_star_12 : decode cX12_star 12 = .ok (.ifCond .ne 40, 3) := by decide +kernel
theorem dX12_star_15 : decode cX12_star 15 = .ok (.aload_n 0, 1) := by decide +kernel
theorem dX12_star_16 : decode cX12_star 16 = .ok (.getfield 125, 3) := by decide +kernel
theorem dX12_star_19 : decode cX12_star 19 = .ok (.ifCond .ne 7, 3) := by decide +kernel
theorem dX12_star_22 : decode cX12_star 22 = .ok (.iconst 0, 1) := by decide +kernel
theorem dX12_star_23 : decode cX12_star 23 = .ok (.goto 28, 3) := by decide +kernel
theorem dX12_star_26 : decode cX12_star 26 = .ok (.aload_n 0, 1) := by decide +kernel
theorem dX12_star_27 : decode cX12_star 27 = .ok (.getfield 9, 3) := by decide +kernel
theorem dX12_star_30 : decode cX12_star 30 = .ok (.aload_n 0, 1) := by decide +kernel
theorem dX12_star_31 : decode cX12_star 31 = .ok (.getfield 125, 3) := by decide +kernel
theorem dX12_star_34 : decode cX12_star 34 = .ok (.invokestatic 338, 3) := by decide +kernel
theorem dX12_star_37 : decode cX12_star 37 = .ok (.aload_n 0, 1) := by decide +kernel
theorem dX12_star_38 : decode cX12_star 38 = .ok (.getfield 15, 3) := by decide +kernel
theorem dX12_star_41 : decode cX12_star 41 = .ok (.aload_n 0, 1) := by decide +kernel
theorem dX12_star_42 : decode cX12_star 42 = .ok (.getfield 125, 3) := by decide +kernel
theorem dX12_star_45 : decode cX12_star 45 = .ok (.invokestatic 338, 3) := by decide +kernel
theorem dX12_star_48 : decode cX12_star 48 = .ok (.invokestatic 243, 3) := by decide +kernel
theorem dX12_star_51 : decode cX12_star 51 = .ok (.ireturn, 1) := by decide +kernel
theorem dX12_star_52 : decode cX12_star 52 = .ok (.iconst 0, 1) := by decide +kernel
theorem dX12_star_53 : decode cX12_star 53 = .ok (.istore_n 2, 1) := by decide +kernel
theorem dX12_star_54 : decode cX12_star 54 = .ok (.iconst 1, 1) := by decide +kernel
theorem dX12_star_55 : decode cX12_star 55 = .ok (.istore_n 3, 1) := by decide +kernel
theorem dX12_star_56 : decode cX12_star 56 = .ok (.iconst 0, 1) := by decide +kernel
theorem dX12_star_57 : decode cX12_star 57 = .ok (.istore 4, 2) := by decide +kernel
theorem dX12_star_59 : decode cX12_star 59 = .ok (.iload 4, 2) := by decide +kernel
theorem dX12_star_61 : decode cX12_star 61 = .ok (.aload_n 0, 1) := by decide +kernel
theorem dX12_star_62 : decode cX12_star 62 = .ok (.getfield 125, 3) := by decide +kernel
theorem dX12_star_65 : decode cX12_star 65 = .ok (.if_icmp .ge 67, 3) := by decide +kernel
theorem dX12_star_68 : decode cX12_star 68 = .ok (.aload_n 0, 1) := by decide +kernel
theorem dX12_star_69 : decode cX12_star 69 = .ok (.aload_n 0, 1) := by decide +kernel
theorem dX12_star_70 : decode cX12_star 70 = .ok (.getfield 9, 3) := by decide +kernel
theorem dX12_star_73 : decode cX12_star 73 = .ok (.iload 4, 2) := by decide +kernel
theorem dX12_star_75 : decode cX12_star 75 = .ok (.iaload, 1) := by decide +kernel
theorem dX12_star_76 : decode cX12_star 76 = .ok (.aload_n 0, 1) := by decide +kernel
theorem dX12_star_77 : decode cX12_star 77 = .ok (.getfield 15, 3) := by decide +kernel
theorem dX12_star_80 : decode cX12_star 80 = .ok (.iload 4, 2) := by decide +kernel
theorem dX12_star_82 : decode cX12_star 82 = .ok (.iaload, 1) := by decide +kernel
theorem dX12_star_83 : decode cX12_star 83 = .ok (.iload 4, 2) := by decide +kernel
theorem dX12_star_85 : decode cX12_star 85 = .ok (.invokevirtual 342, 3) := by decide +kernel
theorem dX12_star_88 : decode cX12_star 88 = .ok (.ifCond .eq 10, 3) := by decide +kernel
theorem dX12_star_91 : decode cX12_star 91 = .ok (.iload_n 2, 1) := by decide +kernel
theorem dX12_star_92 : decode cX12_star 92 = .ok (.iconst 1, 1) := by decide +kernel
theorem dX12_star_93 : decode cX12_star 93 = .ok (.iload 4, 2) := by decide +kernel
theorem dX12_star_95 : decode cX12_star 95 = .ok (.ishl, 1) := by decide +kernel
theorem dX12_star_96 : decode cX12_star 96 = .ok (.ior, 1) := by decide +kernel
theorem dX12_star_97 : decode cX12_star 97 = .ok (.istore_n 2, 1) := by decide +kernel
theorem dX12_star_98 : decode cX12_star 98 = .ok (.aload_n 0, 1) := by decide +kernel
theorem dX12_star_99 : decode cX12_star 99 = .ok (.bipush 15, 2) := by decide +kernel
theorem dX12_star_101 : decode cX12_star 101 = .ok (.aload_n 0, 1) := by decide +kernel
theorem dX12_star_102 : decode cX12_star 102 = .ok (.getfield 9, 3) := by decide +kernel
theorem dX12_star_105 : decode cX12_star 105 = .ok (.iload 4, 2) := by decide +kernel
theorem dX12_star_107 : decode cX12_star 107 = .ok (.iaload, 1) := by decide +kernel
theorem dX12_star_108 : decode cX12_star 108 = .ok (.isub, 1) := by decide +kernel
theorem dX12_star_109 : decode cX12_star 109 = .ok (.aload_n 0, 1) := by decide +kernel
theorem dX12_star_110 : decode cX12_star 110 = .ok (.getfield 15, 3) := by decide +kernel
theorem dX12_star_113 : decode cX12_star 113 = .ok (.iload 4, 2) := by decide +kernel
theorem dX12_star_115 : decode cX12_star 115 = .ok (.iaload, 1) := by decide +kernel
theorem dX12_star_116 : decode cX12_star 116 = .ok (.bipush (-2), 2) := by decide +kernel
theorem dX12_star_118 : decode cX12_star 118 = .ok (.invokevirtual 342, 3) := by decide +kernel
theorem dX12_star_121 : decode cX12_star 121 = .ok (.ifCond .ne 5, 3) := by decide +kernel
theorem dX12_star_124 : decode cX12_star 124 = .ok (.iconst 0, 1) := by decide +kernel
theorem dX12_star_125 : decode cX12_star 125 = .ok (.istore_n 3, 1) := by decide +kernel
theorem dX12_star_126 : decode cX12_star 126 = .ok (.iinc 4 1, 3) := by decide +kernel
theorem dX12_star_129 : decode cX12_star 129 = .ok (.goto (-70), 3) := by decide +kernel
theorem dX12_star_132 : decode cX12_star 132 = .ok (.iload_n 1, 1) := by decide +kernel
theorem dX12_star_133 : decode cX12_star 133 = .ok (.iconst 1, 1) := by decide +kernel
theorem dX12_star_134 : decode cX12_star 134 = .ok (.if_icmp .ne 7, 3) := by decide +kernel
theorem dX12_star_137 : decode cX12_star 137 = .ok (.iload_n 2, 1) := by decide +kernel
theorem dX12_star_138 : decode cX12_star 138 = .ok (.goto 12, 3) := by decide +kernel
theorem dX12_star_141 : decode cX12_star 141 = .ok (.iload_n 3, 1) := by decide +kernel
theorem dX12_star_142 : decode cX12_star 142 = .ok (.ifCond .eq 7, 3) := by decide +kernel
theorem dX12_star_145 : decode cX12_star 145 = .ok (.iconst 1, 1) := by decide +kernel
theorem dX12_star_146 : decode cX12_star 146 = .ok (.goto 4, 3) := by decide +kernel
theorem dX12_star_149 : decode cX12_star 149 = .ok (.iconst 0, 1) := by decide +kernel
theorem dX12_star_150 : decode cX12_star 150 = .ok (.ireturn, 1) := by decide +kernel
theorem dX12_areShelves_0 : decode cX12_areShelves 0 = .ok (.iload_n 0, 1) := by decide +kernel
theorem dX12_areShelves_1 : decode cX12_areShelves 1 = .ok (.ifCond .lt 27, 3) := by decide +kernel
theorem dX12_areShelves_4 : decode cX12_areShelves 4 = .ok (.iload_n 0, 1) := by decide +kernel
theorem dX12_areShelves_5 : decode cX12_areShelves 5 = .ok (.bipush 10, 2) := by decide +kernel
theorem dX12_areShelves_7 : decode cX12_areShelves 7 = .ok (.idiv, 1) := by decide +kernel
theorem dX12_areShelves_8 : decode cX12_areShelves 8 = .ok (.invokestatic 140, 3) := by decide +kernel
theorem dX12_areShelves_11 : decode cX12_areShelves 11 = .ok (.ifCond .eq 17, 3) := by decide +kernel
theorem dX12_areShelves_14 : decode cX12_areShelves 14 = .ok (.iload_n 0, 1) := by decide +kernel
theorem dX12_areShelves_15 : decode cX12_areShelves 15 = .ok (.bipush 10, 2) := by decide +kernel
theorem dX12_areShelves_17 : decode cX12_areShelves 17 = .ok (.irem, 1) := by decide +kernel
theorem dX12_areShelves_18 : decode cX12_areShelves 18 = .ok (.invokestatic 140, 3) := by decide +kernel
theorem dX12_areShelves_21 : decode cX12_areShelves 21 = .ok (.ifCond .eq 7, 3) := by decide +kernel
theorem dX12_areShelves_24 : decode cX12_areShelves 24 = .ok (.iconst 1, 1) := by decide +kernel
theorem dX12_areShelves_25 : decode cX12_areShelves 25 = .ok (.goto 4, 3) := by decide +kernel
theorem dX12_areShelves_28 : decode cX12_areShelves 28 = .ok (.iconst 0, 1) := by decide +kernel
theorem dX12_areShelves_29 : decode cX12_areShelves 29 = .ok (.ireturn, 1) := by decide +kernel
theorem dX12_noRipples_0 : decode cX12_noRipples 0 = .ok (.aload_n 0, 1) := by decide +kernel
theorem dX12_noRipples_1 : decode cX12_noRipples 1 = .ok (.getfield 93, 3) := by decide +kernel
theorem dX12_noRipples_4 : decode cX12_noRipples 4 = .ok (.iload_n 1, 1) := by decide +kernel
theorem dX12_noRipples_5 : decode cX12_noRipples 5 = .ok (.bipush 10, 2) := by decide +kernel
theorem dX12_noRipples_7 : decode cX12_noRipples 7 = .ok (.idiv, 1) := by decide +kernel
theorem dX12_noRipples_8 : decode cX12_noRipples 8 = .ok (.iaload, 1) := by decide +kernel
theorem dX12_noRipples_9 : decode cX12_noRipples 9 = .ok (.iconst (-1), 1) := by decide +kernel
theorem dX12_noRipples_10 : decode cX12_noRipples 10 = .ok (.if_icmp .eq 16, 3) := by decide +kernel
theorem dX12_noRipples_13 : decode cX12_noRipples 13 = .ok (.aload_n 0, 1) := by decide +kernel
theorem dX12_noRipples_14 : decode cX12_noRipples 14 = .ok (.getfield 93, 3) := by decide +kernel
theorem dX12_noRipples_17 : decode cX12_noRipples 17 = .ok (.iload_n 1, 1) := by decide +kernel
theorem dX12_noRipples_18 : decode cX12_noRipples 18 = .ok (.bipush 10, 2) := by decide +kernel
theorem dX12_noRipples_20 : decode cX12_noRipples 20 = .ok (.irem, 1) := by decide +kernel
theorem dX12_noRipples_21 : decode cX12_noRipples 21 = .ok (.iaload, 1) := by decide +kernel
theorem dX12_noRipples_22 : decode cX12_noRipples 22 = .ok (.iconst (-1), 1) := by decide +kernel
theorem dX12_noRipples_23 : decode cX12_noRipples 23 = .ok (.if_icmp .ne 6, 3) := by decide +kernel
theorem dX12_noRipples_26 : decode cX12_noRipples 26 = .ok (.bipush (-11), 2) := by decide +kernel
theorem dX12_noRipples_28 : decode cX12_noRipples 28 = .ok (.ireturn, 1) := by decide +kernel
theorem dX12_noRipples_29 : decode cX12_noRipples 29 = .ok (.aload_n 0, 1) := by decide +kernel
theorem dX12_noRipples_30 : decode cX12_noRipples 30 = .ok (.getfield 93, 3) := by decide +kernel
theorem dX12_noRipples_33 : decode cX12_noRipples 33 = .ok (.iload_n 1, 1) := by decide +kernel
theorem dX12_noRipples_34 : decode cX12_noRipples 34 = .ok (.bipush 10, 2) := by decide +kernel
theorem dX12_noRipples_36 : decode cX12_noRipples 36 = .ok (.idiv, 1) := by decide +kernel
theorem dX12_noRipples_37 : decode cX12_noRipples 37 = .ok (.iaload, 1) := by decide +kernel
theorem dX12_noRipples_38 : decode cX12_noRipples 38 = .ok (.ifCond .ne 16, 3) := by decide +kernel
theorem dX12_noRipples_41 : decode cX12_noRipples 41 = .ok (.aload_n 0, 1) := by decide +kernel
theorem dX12_noRipples_42 : decode cX12_noRipples 42 = .ok (.getfield 93, 3) := by decide +kernel
theorem dX12_noRipples_45 : decode cX12_noRipples 45 = .ok (.iload_n 1, 1) := by decide +kernel
theorem dX12_noRipples_46 : decode cX12_noRipples 46 = .ok (.bipush 10, 2) := by decide +kernel
theorem dX12_noRipples_48 : decode cX12_noRipples 48 = .ok (.irem, 1) := by decide +kernel
theorem dX12_noRipples_49 : decode cX12_noRipples 49 = .ok (.iaload, 1) := by decide +kernel
theorem dX12_noRipples_50 : decode cX12_noRipples 50 = .ok (.iconst 1, 1) := by decide +kernel
theorem dX12_noRipples_51 : decode cX12_noRipples 51 = .ok (.if_icmp .eq 8, 3) := by decide +kernel
theorem dX12_noRipples_54 : decode cX12_noRipples 54 = .ok (.bipush (-12), 2) := by decide +kernel
theorem dX12_noRipples_56 : decode cX12_noRipples 56 = .ok (.goto 4, 3) := by decide +kernel
theorem dX12_noRipples_59 : decode cX12_noRipples 59 = .ok (.iconst 0, 1) := by decide +kernel
theorem dX12_noRipples_60 : decode cX12_noRipples 60 = .ok (.ireturn, 1) := by decide +kernel
theorem dX12_wrong_0 : decode cX12_wrong 0 = .ok (.aload_n 0, 1) := by decide +kernel
theorem dX12_wrong_1 : decode cX12_wrong 1 = .ok (.iconst 0, 1) := by decide +kernel
theorem dX12_wrong_2 : decode cX12_wrong 2 = .ok (.invokevirtual 278, 3) := by decide +kernel
theorem dX12_wrong_5 : decode cX12_wrong 5 = .ok (.iconst 0, 1) := by decide +kernel
theorem dX12_wrong_6 : decode cX12_wrong 6 = .ok (.istore_n 2, 1) := by decide +kernel
theorem dX12_wrong_7 : decode cX12_wrong 7 = .ok (.iload_n 2, 1) := by decide +kernel
theorem dX12_wrong_8 : decode cX12_wrong 8 = .ok (.aload_n 0, 1) := by decide +kernel
theorem dX12_wrong_9 : decode cX12_wrong 9 = .ok (.getfield 253, 3) := by decide +kernel
theorem dX12_wrong_12 : decode cX12_wrong 12 = .ok (.if_icmp .ge 50, 3) := by decide +kernel
theorem dX12_wrong_15 : decode cX12_wrong 15 = .ok (.iload_n 2, 1) := by decide +kernel
theorem dX12_wrong_16 : decode cX12_wrong 16 = .ok (.aload_n 0, 1) := by decide +kernel
theorem dX12_wrong_17 : decode cX12_wrong 17 = .ok (.getfield 96, 3) := by decide +kernel
theorem dX12_wrong_20 : decode cX12_wrong 20 = .ok (.iload_n 1, 1) := by decide +kernel
theorem dX12_wrong_21 : decode cX12_wrong 21 = .ok (.bipush 10, 2) := by decide +kernel
theorem dX12_wrong_23 : decode cX12_wrong 23 = .ok (.irem, 1) := by decide +kernel
theorem dX12_wrong_24 : decode cX12_wrong 24 = .ok (.iaload, 1) := by decide +kernel
theorem dX12_wrong_25 : decode cX12_wrong 25 = .ok (.if_icmp .ge 37, 3) := by decide +kernel
theorem dX12_wrong_28 : decode cX12_wrong 28 = .ok (.aload_n 0, 1) := by decide +kernel
theorem dX12_wrong_29 : decode cX12_wrong 29 = .ok (.getfield 99, 3) := by decide +kernel
theorem dX12_wrong_32 : decode cX12_wrong 32 = .ok (.bipush 60, 2) := by decide +kernel
theorem dX12_wrong_34 : decode cX12_wrong 34 = .ok (.iload_n 1, 1) := by decide +kernel
theorem dX12_wrong_35 : decode cX12_wrong 35 = .ok (.bipush 10, 2) := by decide +kernel
theorem dX12_wrong_37 : decode cX12_wrong 37 = .ok (.irem, 1) := by decide +kernel
theorem dX12_wrong_38 : decode cX12_wrong 38 = .ok (.imul, 1) := by decide +kernel
theorem dX12_wrong_39 : decode cX12_wrong 39 = .ok (.iload_n 2, 1) := by decide +kernel
theorem dX12_wrong_40 : decode cX12_wrong 40 = .ok (.iadd, 1) := by decide +kernel
theorem dX12_wrong_41 : decode cX12_wrong 41 = .ok (.laload, 1) := by decide +kernel
theorem dX12_wrong_42 : decode cX12_wrong 42 = .ok (.aload_n 0, 1) := by decide +kernel
theorem dX12_wrong_43 : decode cX12_wrong 43 = .ok (.iload_n 2, 1) := by decide +kernel
theorem dX12_wrong_44 : decode cX12_wrong 44 = .ok (.iconst 1, 1) := by decide +kernel
theorem dX12_wrong_45 : decode cX12_wrong 45 = .ok (.iadd, 1) := by decide +kernel
theorem dX12_wrong_46 : decode cX12_wrong 46 = .ok (.invokevirtual 285, 3) := by decide +kernel
theorem dX12_wrong_49 : decode cX12_wrong 49 = .ok (.i2l, 1) := by decide +kernel
theorem dX12_wrong_50 : decode cX12_wrong 50 = .ok (.lcmp, 1) := by decide +kernel
theorem dX12_wrong_51 : decode cX12_wrong 51 = .ok (.ifCond .eq 5, 3) := by decide +kernel
theorem dX12_wrong_54 : decode cX12_wrong 54 = .ok (.iload_n 2, 1) := by decide +kernel
theorem dX12_wrong_55 : decode cX12_wrong 55 = .ok (.ireturn, 1) := by decide +kernel
theorem dX12_wrong_56 : decode cX12_wrong 56 = .ok (.iinc 2 1, 3) := by decide +kernel
theorem dX12_wrong_59 : decode cX12_wrong 59 = .ok (.goto (-52), 3) := by decide +kernel
theorem dX12_wrong_62 : decode cX12_wrong 62 = .ok (.bipush (-2), 2) := by decide +kernel
theorem dX12_wrong_64 : decode cX12_wrong 64 = .ok (.ireturn, 1) := by decide +kernel
theorem dX12_judge_0 : decode cX12_judge 0 = .ok (.iload_n 1, 1) := by decide +kernel
theorem dX12_judge_1 : decode cX12_judge 1 = .ok (.invokestatic 345, 3) := by decide +kernel
theorem dX12_judge_4 : decode cX12_judge 4 = .ok (.ifCond .ne 5, 3) := by decide +kernel
theorem dX12_judge_7 : decode cX12_judge 7 = .ok (.iconst (-1), 1) := by decide +kernel
theorem dX12_judge_8 : decode cX12_judge 8 = .ok (.ireturn, 1) := by decide +kernel
theorem dX12_judge_9 : decode cX12_judge 9 = .ok (.aload_n 0, 1) := by decide +kernel
theorem dX12_judge_10 : decode cX12_judge 10 = .ok (.iload_n 1, 1) := by decide +kernel
theorem dX12_judge_11 : decode cX12_judge 11 = .ok (.invokevirtual 348, 3) := by decide +kernel
theorem dX12_judge_14 : decode cX12_judge 14 = .ok (.istore_n 2, 1) := by decide +kernel
theorem dX12_judge_15 : decode cX12_judge 15 = .ok (.iload_n 2, 1) := by decide +kernel
theorem dX12_judge_16 : decode cX12_judge 16 = .ok (.ifCond .ge 5, 3) := by decide +kernel
theorem dX12_judge_19 : decode cX12_judge 19 = .ok (.iload_n 2, 1) := by decide +kernel
theorem dX12_judge_20 : decode cX12_judge 20 = .ok (.ireturn, 1) := by decide +kernel
theorem dX12_judge_21 : decode cX12_judge 21 = .ok (.aload_n 0, 1) := by decide +kernel
theorem dX12_judge_22 : decode cX12_judge 22 = .ok (.iload_n 1, 1) := by decide +kernel
theorem dX12_judge_23 : decode cX12_judge 23 = .ok (.bipush 10, 2) := by decide +kernel
theorem dX12_judge_25 : decode cX12_judge 25 = .ok (.idiv, 1) := by decide +kernel
theorem dX12_judge_26 : decode cX12_judge 26 = .ok (.invokevirtual 291, 3) := by decide +kernel
theorem dX12_judge_29 : decode cX12_judge 29 = .ok (.aload_n 0, 1) := by decide +kernel
theorem dX12_judge_30 : decode cX12_judge 30 = .ok (.iload_n 1, 1) := by decide +kernel
theorem dX12_judge_31 : decode cX12_judge 31 = .ok (.invokevirtual 351, 3) := by decide +kernel
theorem dX12_judge_34 : decode cX12_judge 34 = .ok (.ireturn, 1) := by decide +kernel
theorem dX12_whoLed_0 : decode cX12_whoLed 0 = .ok (.iload_n 1, 1) := by decide +kernel
theorem dX12_whoLed_1 : decode cX12_whoLed 1 = .ok (.invokestatic 345, 3) := by decide +kernel
theorem dX12_whoLed_4 : decode cX12_whoLed 4 = .ok (.ifCond .ne 5, 3) := by decide +kernel
theorem dX12_whoLed_7 : decode cX12_whoLed 7 = .ok (.iconst (-1), 1) := by decide +kernel
theorem dX12_whoLed_8 : decode cX12_whoLed 8 = .ok (.ireturn, 1) := by decide +kernel
theorem dX12_whoLed_9 : decode cX12_whoLed 9 = .ok (.aload_n 0, 1) := by decide +kernel
theorem dX12_whoLed_10 : decode cX12_whoLed 10 = .ok (.iload_n 1, 1) := by decide +kernel
theorem dX12_whoLed_11 : decode cX12_whoLed 11 = .ok (.invokevirtual 348, 3) := by decide +kernel
theorem dX12_whoLed_14 : decode cX12_whoLed 14 = .ok (.istore_n 2, 1) := by decide +kernel
theorem dX12_whoLed_15 : decode cX12_whoLed 15 = .ok (.iload_n 2, 1) := by decide +kernel
theorem dX12_whoLed_16 : decode cX12_whoLed 16 = .ok (.ifCond .ge 5, 3) := by decide +kernel
theorem dX12_whoLed_19 : decode cX12_whoLed 19 = .ok (.iload_n 2, 1) := by decide +kernel
theorem dX12_whoLed_20 : decode cX12_whoLed 20 = .ok (.ireturn, 1) := by decide +kernel
theorem dX12_whoLed_21 : decode cX12_whoLed 21 = .ok (.aload_n 0, 1) := by decide +kernel
theorem dX12_whoLed_22 : decode cX12_whoLed 22 = .ok (.iload_n 1, 1) := by decide +kernel
theorem dX12_whoLed_23 : decode cX12_whoLed 23 = .ok (.bipush 10, 2) := by decide +kernel
theorem dX12_whoLed_25 : decode cX12_whoLed 25 = .ok (.idiv, 1) := by decide +kernel
theorem dX12_whoLed_26 : decode cX12_whoLed 26 = .ok (.invokevirtual 291, 3) := by decide +kernel
theorem dX12_whoLed_29 : decode cX12_whoLed 29 = .ok (.aload_n 0, 1) := by decide +kernel
theorem dX12_whoLed_30 : decode cX12_whoLed 30 = .ok (.getfield 30, 3) := by decide +kernel
theorem dX12_whoLed_33 : decode cX12_whoLed 33 = .ok (.iconst 0, 1) := by decide +kernel
theorem dX12_whoLed_34 : decode cX12_whoLed 34 = .ok (.iaload, 1) := by decide +kernel
theorem dX12_whoLed_35 : decode cX12_whoLed 35 = .ok (.istore_n 3, 1) := by decide +kernel
theorem dX12_whoLed_36 : decode cX12_whoLed 36 = .ok (.iconst 0, 1) := by decide +kernel
theorem dX12_whoLed_37 : decode cX12_whoLed 37 = .ok (.istore 4, 2) := by decide +kernel
theorem dX12_whoLed_39 : decode cX12_whoLed 39 = .ok (.iconst 0, 1) := by decide +kernel
theorem dX12_whoLed_40 : decode cX12_whoLed 40 = .ok (.istore 5, 2) := by decide +kernel
theorem dX12_whoLed_42 : decode cX12_whoLed 42 = .ok (.iload 5, 2) := by decide +kernel
theorem dX12_whoLed_44 : decode cX12_whoLed 44 = .ok (.aload_n 0, 1) := by decide +kernel
theorem dX12_whoLed_45 : decode cX12_whoLed 45 = .ok (.getfield 125, 3) := by decide +kernel
theorem dX12_whoLed_48 : decode cX12_whoLed 48 = .ok (.if_icmp .ge 36, 3) := by decide +kernel
theorem dX12_whoLed_51 : decode cX12_whoLed 51 = .ok (.aload_n 0, 1) := by decide +kernel
theorem dX12_whoLed_52 : decode cX12_whoLed 52 = .ok (.getfield 30, 3) := by decide +kernel
theorem dX12_whoLed_55 : decode cX12_whoLed 55 = .ok (.iconst 0, 1) := by decide +kernel
theorem dX12_whoLed_56 : decode cX12_whoLed 56 = .ok (.iload 5, 2) := by decide +kernel
theorem dX12_whoLed_58 : decode cX12_whoLed 58 = .ok (.iastore, 1) := by decide +kernel
theorem dX12_whoLed_59 : decode cX12_whoLed 59 = .ok (.aload_n 0, 1) := by decide +kernel
theorem dX12_whoLed_60 : decode cX12_whoLed 60 = .ok (.iload_n 1, 1) := by decide +kernel
theorem dX12_whoLed_61 : decode cX12_whoLed 61 = .ok (.invokevirtual 351, 3) := by decide +kernel
theorem dX12_whoLed_64 : decode cX12_whoLed 64 = .ok (.bipush (-2), 2) := by decide +kernel
theorem dX12_whoLed_66 : decode cX12_whoLed 66 = .ok (.if_icmp .ne 12, 3) := by decide +kernel
theorem dX12_whoLed_69 : decode cX12_whoLed 69 = .ok (.iload 4, 2) := by decide +kernel
theorem dX12_whoLed_71 : decode cX12_whoLed 71 = .ok (.iconst 1, 1) := by decide +kernel
theorem dX12_whoLed_72 : decode cX12_whoLed 72 = .ok (.iload 5, 2) := by decide +kernel
theorem dX12_whoLed_74 : decode cX12_whoLed 74 = .ok (.ishl, 1) := by decide +kernel
theorem dX12_whoLed_75 : decode cX12_whoLed 75 = .ok (.ior, 1) := by decide +kernel
theorem dX12_whoLed_76 : decode cX12_whoLed 76 = .ok (.istore 4, 2) := by decide +kernel
theorem dX12_whoLed_78 : decode cX12_whoLed 78 = .ok (.iinc 5 1, 3) := by decide +kernel
theorem dX12_whoLed_81 : decode cX12_whoLed 81 = .ok (.goto (-39), 3) := by decide +kernel
theorem dX12_whoLed_84 : decode cX12_whoLed 84 = .ok (.aload_n 0, 1) := by decide +kernel
theorem dX12_whoLed_85 : decode cX12_whoLed 85 = .ok (.getfield 30, 3) := by decide +kernel
theorem dX12_whoLed_88 : decode cX12_whoLed 88 = .ok (.iconst 0, 1) := by decide +kernel
theorem dX12_whoLed_89 : decode cX12_whoLed 89 = .ok (.iload_n 3, 1) := by decide +kernel
theorem dX12_whoLed_90 : decode cX12_whoLed 90 = .ok (.iastore, 1) := by decide +kernel
theorem dX12_whoLed_91 : decode cX12_whoLed 91 = .ok (.iload 4, 2) := by decide +kernel
theorem dX12_whoLed_93 : decode cX12_whoLed 93 = .ok (.ireturn, 1) := by decide +kernel
theorem dX12_later_0 : decode cX12_later 0 = .ok (.iload_n 1, 1) := by decide +kernel
theorem dX12_later_1 : decode cX12_later 1 = .ok (.invokestatic 345, 3) := by decide +kernel
theorem dX12_later_4 : decode cX12_later 4 = .ok (.ifCond .eq 11, 3) := by decide +kernel
theorem dX12_later_7 : decode cX12_later 7 = .ok (.aload_n 0, 1) := by decide +kernel
theorem dX12_later_8 : decode cX12_later 8 = .ok (.iload_n 2, 1) := by decide +kernel
theorem dX12_later_9 : decode cX12_later 9 = .ok (.invokevirtual 132, 3) := by decide +kernel
theorem dX12_later_12 : decode cX12_later 12 = .ok (.ifCond .ne 5, 3) := by decide +kernel
theorem dX12_later_15 : decode cX12_later 15 = .ok (.iconst (-1), 1) := by decide +kernel
theorem dX12_later_16 : decode cX12_later 16 = .ok (.ireturn, 1) := by decide +kernel
theorem dX12_later_17 : decode cX12_later 17 = .ok (.aload_n 0, 1) := by decide +kernel
theorem dX12_later_18 : decode cX12_later 18 = .ok (.iload_n 1, 1) := by decide +kernel
theorem dX12_later_19 : decode cX12_later 19 = .ok (.invokevirtual 348, 3) := by decide +kernel
theorem dX12_later_22 : decode cX12_later 22 = .ok (.istore_n 3, 1) := by decide +kernel
theorem dX12_later_23 : decode cX12_later 23 = .ok (.iload_n 3, 1) := by decide +kernel
theorem dX12_later_24 : decode cX12_later 24 = .ok (.ifCond .ge 5, 3) := by decide +kernel
theorem dX12_later_27 : decode cX12_later 27 = .ok (.iload_n 3, 1) := by decide +kernel
theorem dX12_later_28 : decode cX12_later 28 = .ok (.ireturn, 1) := by decide +kernel
theorem dX12_later_29 : decode cX12_later 29 = .ok (.aload_n 0, 1) := by decide +kernel
theorem dX12_later_30 : decode cX12_later 30 = .ok (.iload_n 1, 1) := by decide +kernel
theorem dX12_later_31 : decode cX12_later 31 = .ok (.bipush 10, 2) := by decide +kernel
theorem dX12_later_33 : decode cX12_later 33 = .ok (.idiv, 1) := by decide +kernel
theorem dX12_later_34 : decode cX12_later 34 = .ok (.invokevirtual 291, 3) := by decide +kernel
theorem dX12_later_37 : decode cX12_later 37 = .ok (.aload_n 0, 1) := by decide +kernel
theorem dX12_later_38 : decode cX12_later 38 = .ok (.getfield 27, 3) := by decide +kernel
theorem dX12_later_41 : decode cX12_later 41 = .ok (.iload_n 2, 1) := by decide +kernel
theorem dX12_later_42 : decode cX12_later 42 = .ok (.iaload, 1) := by decide +kernel
theorem dX12_later_43 : decode cX12_later 43 = .ok (.istore 4, 2) := by decide +kernel
theorem dX12_later_45 : decode cX12_later 45 = .ok (.bipush (-2), 2) := by decide +kernel
theorem dX12_later_47 : decode cX12_later 47 = .ok (.istore 5, 2) := by decide +kernel
theorem dX12_later_49 : decode cX12_later 49 = .ok (.bipush 99, 2) := by decide +kernel
theorem dX12_later_51 : decode cX12_later 51 = .ok (.istore 6, 2) := by decide +kernel
theorem dX12_later_53 : decode cX12_later 53 = .ok (.iload 6, 2) := by decide +kernel
theorem dX12_later_55 : decode cX12_later 55 = .ok (.ifCond .lt 31, 3) := by decide +kernel
theorem dX12_later_58 : decode cX12_later 58 = .ok (.aload_n 0, 1) := by decide +kernel
theorem dX12_later_59 : decode cX12_later 59 = .ok (.getfield 27, 3) := by decide +kernel
theorem dX12_later_62 : decode cX12_later 62 = .ok (.iload_n 2, 1) := by decide +kernel
theorem dX12_later_63 : decode cX12_later 63 = .ok (.iload 6, 2) := by decide +kernel
theorem dX12_later_65 : decode cX12_later 65 = .ok (.iastore, 1) := by decide +kernel
theorem dX12_later_66 : decode cX12_later 66 = .ok (.aload_n 0, 1) := by decide +kernel
theorem dX12_later_67 : decode cX12_later 67 = .ok (.iload_n 1, 1) := by decide +kernel
theorem dX12_later_68 : decode cX12_later 68 = .ok (.invokevirtual 351, 3) := by decide +kernel
theorem dX12_later_71 : decode cX12_later 71 = .ok (.bipush (-2), 2) := by decide +kernel
theorem dX12_later_73 : decode cX12_later 73 = .ok (.if_icmp .ne 7, 3) := by decide +kernel
theorem dX12_later_76 : decode cX12_later 76 = .ok (.iload 6, 2) := by decide +kernel
theorem dX12_later_78 : decode cX12_later 78 = .ok (.istore 5, 2) := by decide +kernel
theorem dX12_later_80 : decode cX12_later 80 = .ok (.iinc 6 (-1), 3) := by decide +kernel
theorem dX12_later_83 : decode cX12_later 83 = .ok (.goto (-30), 3) := by decide +kernel
theorem dX12_later_86 : decode cX12_later 86 = .ok (.aload_n 0, 1) := by decide +kernel
theorem dX12_later_87 : decode cX12_later 87 = .ok (.getfield 27, 3) := by decide +kernel
theorem dX12_later_90 : decode cX12_later 90 = .ok (.iload_n 2, 1) := by decide +kernel
theorem dX12_later_91 : decode cX12_later 91 = .ok (.iload 4, 2) := by decide +kernel
theorem dX12_later_93 : decode cX12_later 93 = .ok (.iastore, 1) := by decide +kernel
theorem dX12_later_94 : decode cX12_later 94 = .ok (.iload 5, 2) := by decide +kernel
theorem dX12_later_96 : decode cX12_later 96 = .ok (.ireturn, 1) := by decide +kernel
theorem dX12_quicker_0 : decode cX12_quicker 0 = .ok (.iload_n 1, 1) := by decide +kernel
theorem dX12_quicker_1 : decode cX12_quicker 1 = .ok (.invokestatic 345, 3) := by decide +kernel
theorem dX12_quicker_4 : decode cX12_quicker 4 = .ok (.ifCond .eq 11, 3) := by decide +kernel
theorem dX12_quicker_7 : decode cX12_quicker 7 = .ok (.aload_n 0, 1) := by decide +kernel
theorem dX12_quicker_8 : decode cX12_quicker 8 = .ok (.iload_n 2, 1) := by decide +kernel
theorem dX12_quicker_9 : decode cX12_quicker 9 = .ok (.invokevirtual 132, 3) := by decide +kernel
theorem dX12_quicker_12 : decode cX12_quicker 12 = .ok (.ifCond .ne 6, 3) := by decide +kernel
theorem dX12_quicker_15 : decode cX12_quicker 15 = .ok (.ldc 152, 2) := by decide +kernel
theorem dX12_quicker_17 : decode cX12_quicker 17 = .ok (.ireturn, 1) := by decide +kernel
theorem dX12_quicker_18 : decode cX12_quicker 18 = .ok (.aload_n 0, 1) := by decide +kernel
theorem dX12_quicker_19 : decode cX12_quicker 19 = .ok (.iload_n 1, 1) := by decide +kernel
theorem dX12_quicker_20 : decode cX12_quicker 20 = .ok (.invokevirtual 348, 3) := by decide +kernel
theorem dX12_quicker_23 : decode cX12_quicker 23 = .ok (.istore_n 3, 1) := by decide +kernel
theorem dX12_quicker_24 : decode cX12_quicker 24 = .ok (.iload_n 3, 1) := by decide +kernel
theorem dX12_quicker_25 : decode cX12_quicker 25 = .ok (.ifCond .ge 5, 3) := by decide +kernel
theorem dX12_quicker_28 : decode cX12_quicker 28 = .ok (.iload_n 3, 1) := by decide +kernel
theorem dX12_quicker_29 : decode cX12_quicker 29 = .ok (.ireturn, 1) := by decide +kernel
theorem dX12_quicker_30 : decode cX12_quicker 30 = .ok (.aload_n 0, 1) := by decide +kernel
theorem dX12_quicker_31 : decode cX12_quicker 31 = .ok (.iload_n 1, 1) := by decide +kernel
theorem dX12_quicker_32 : decode cX12_quicker 32 = .ok (.bipush 10, 2) := by decide +kernel
theorem dX12_quicker_34 : decode cX12_quicker 34 = .ok (.idiv, 1) := by decide +kernel
theorem dX12_quicker_35 : decode cX12_quicker 35 = .ok (.invokevirtual 291, 3) := by decide +kernel
theorem dX12_quicker_38 : decode cX12_quicker 38 = .ok (.aload_n 0, 1) := by decide +kernel
theorem dX12_quicker_39 : decode cX12_quicker 39 = .ok (.getfield 24, 3) := by decide +kernel
theorem dX12_quicker_42 : decode cX12_quicker 42 = .ok (.iload_n 2, 1) := by decide +kernel
theorem dX12_quicker_43 : decode cX12_quicker 43 = .ok (.iaload, 1) := by decide +kernel
theorem dX12_quicker_44 : decode cX12_quicker 44 = .ok (.istore 4, 2) := by decide +kernel
theorem dX12_quicker_46 : decode cX12_quicker 46 = .ok (.bipush (-99), 2) := by decide +kernel
theorem dX12_quicker_48 : decode cX12_quicker 48 = .ok (.istore 5, 2) := by decide +kernel
theorem dX12_quicker_50 : decode cX12_quicker 50 = .ok (.bipush 9, 2) := by decide +kernel
theorem dX12_quicker_52 : decode cX12_quicker 52 = .ok (.istore 6, 2) := by decide +kernel
theorem dX12_quicker_54 : decode cX12_quicker 54 = .ok (.iload 6, 2) := by decide +kernel
theorem dX12_quicker_56 : decode cX12_quicker 56 = .ok (.bipush (-9), 2) := by decide +kernel
theorem dX12_quicker_58 : decode cX12_quicker 58 = .ok (.if_icmp .lt 31, 3) := by decide +kernel
theorem dX12_quicker_61 : decode cX12_quicker 61 = .ok (.aload_n 0, 1) := by decide +kernel
theorem dX12_quicker_62 : decode cX12_quicker 62 = .ok (.getfield 24, 3) := by decide +kernel
theorem dX12_quicker_65 : decode cX12_quicker 65 = .ok (.iload_n 2, 1) := by decide +kernel
theorem dX12_quicker_66 : decode cX12_quicker 66 = .ok (.iload 6, 2) := by decide +kernel
theorem dX12_quicker_68 : decode cX12_quicker 68 = .ok (.iastore, 1) := by decide +kernel
theorem dX12_quicker_69 : decode cX12_quicker 69 = .ok (.aload_n 0, 1) := by decide +kernel
theorem dX12_quicker_70 : decode cX12_quicker 70 = .ok (.iload_n 1, 1) := by decide +kernel
theorem dX12_quicker_71 : decode cX12_quicker 71 = .ok (.invokevirtual 351, 3) := by decide +kernel
theorem dX12_quicker_74 : decode cX12_quicker 74 = .ok (.bipush (-2), 2) := by decide +kernel
theorem dX12_quicker_76 : decode cX12_quicker 76 = .ok (.if_icmp .ne 7, 3) := by decide +kernel
theorem dX12_quicker_79 : decode cX12_quicker 79 = .ok (.iload 6, 2) := by decide +kernel
theorem dX12_quicker_81 : decode cX12_quicker 81 = .ok (.istore 5, 2) := by decide +kernel
theorem dX12_quicker_83 : decode cX12_quicker 83 = .ok (.iinc 6 (-1), 3) := by decide +kernel
theorem dX12_quicker_86 : decode cX12_quicker 86 = .ok (.goto (-32), 3) := by decide +kernel
theorem dX12_quicker_89 : decode cX12_quicker 89 = .ok (.aload_n 0, 1) := by decide +kernel
theorem dX12_quicker_90 : decode cX12_quicker 90 = .ok (.getfield 24, 3) := by decide +kernel
theorem dX12_quicker_93 : decode cX12_quicker 93 = .ok (.iload_n 2, 1) := by decide +kernel
theorem dX12_quicker_94 : decode cX12_quicker 94 = .ok (.iload 4, 2) := by decide +kernel
theorem dX12_quicker_96 : decode cX12_quicker 96 = .ok (.iastore, 1) := by decide +kernel
theorem dX12_quicker_97 : decode cX12_quicker 97 = .ok (.iload 5, 2) := by decide +kernel
theorem dX12_quicker_99 : decode cX12_quicker 99 = .ok (.ireturn, 1) := by decide +kernel
theorem dX12_drawn_0 : decode cX12_drawn 0 = .ok (.iload_n 1, 1) := by decide +kernel
theorem dX12_drawn_1 : decode cX12_drawn 1 = .ok (.invokestatic 140, 3) := by decide +kernel
theorem dX12_drawn_4 : decode cX12_drawn 4 = .ok (.ifCond .eq 39, 3) := by decide +kernel
theorem dX12_drawn_7 : decode cX12_drawn 7 = .ok (.iload_n 3, 1) := by decide +kernel
theorem dX12_drawn_8 : decode cX12_drawn 8 = .ok (.ifCond .lt 35, 3) := by decide +kernel
theorem dX12_drawn_11 : decode cX12_drawn 11 = .ok (.iload_n 3, 1) := by decide +kernel
theorem dX12_drawn_12 : decode cX12_drawn 12 = .ok (.bipush 100, 2) := by decide +kernel
theorem dX12_drawn_14 : decode cX12_drawn 14 = .ok (.idiv, 1) := by decide +kernel
theorem dX12_drawn_15 : decode cX12_drawn 15 = .ok (.iconst 1, 1) := by decide +kernel
theorem dX12_drawn_16 : decode cX12_drawn 16 = .ok (.bipush 30, 2) := by decide +kernel
theorem dX12_drawn_18 : decode cX12_drawn 18 = .ok (.invokestatic 128, 3) := by decide +kernel
theorem dX12_drawn_21 : decode cX12_drawn 21 = .ok (.ifCond .eq 22, 3) := by decide +kernel
theorem dX12_drawn_24 : decode cX12_drawn 24 = .ok (.iload_n 3, 1) := by decide +kernel
theorem dX12_drawn_25 : decode cX12_drawn 25 = .ok (.bipush 100, 2) := by decide +kernel
theorem dX12_drawn_27 : decode cX12_drawn 27 = .ok (.irem, 1) := by decide +kernel
theorem dX12_drawn_28 : decode cX12_drawn 28 = .ok (.bipush 12, 2) := by decide +kernel
theorem dX12_drawn_30 : decode cX12_drawn 30 = .ok (.if_icmp .gt 13, 3) := by decide +kernel
theorem dX12_drawn_33 : decode cX12_drawn 33 = .ok (.iload 4, 2) := by decide +kernel
theorem dX12_drawn_35 : decode cX12_drawn 35 = .ok (.iconst 0, 1) := by decide +kernel
theorem dX12_drawn_36 : decode cX12_drawn 36 = .ok (.iconst 1, 1) := by decide +kernel
theorem dX12_drawn_37 : decode cX12_drawn 37 = .ok (.invokestatic 128, 3) := by decide +kernel
theorem dX12_drawn_40 : decode cX12_drawn 40 = .ok (.ifCond .ne 5, 3) := by decide +kernel
theorem dX12_drawn_43 : decode cX12_drawn 43 = .ok (.iconst (-1), 1) := by decide +kernel
theorem dX12_drawn_44 : decode cX12_drawn 44 = .ok (.ireturn, 1) := by decide +kernel
theorem dX12_drawn_45 : decode cX12_drawn 45 = .ok (.aload_n 0, 1) := by decide +kernel
theorem dX12_drawn_46 : decode cX12_drawn 46 = .ok (.iload_n 1, 1) := by decide +kernel
theorem dX12_drawn_47 : decode cX12_drawn 47 = .ok (.iconst 0, 1) := by decide +kernel
theorem dX12_drawn_48 : decode cX12_drawn 48 = .ok (.invokevirtual 288, 3) := by decide +kernel
theorem dX12_drawn_51 : decode cX12_drawn 51 = .ok (.istore 5, 2) := by decide +kernel
theorem dX12_drawn_53 : decode cX12_drawn 53 = .ok (.iload 5, 2) := by decide +kernel
theorem dX12_drawn_55 : decode cX12_drawn 55 = .ok (.ifCond .ge 6, 3) := by decide +kernel
theorem dX12_drawn_58 : decode cX12_drawn 58 = .ok (.iload 5, 2) := by decide +kernel
theorem dX12_drawn_60 : decode cX12_drawn 60 = .ok (.ireturn, 1) := by decide +kernel
theorem dX12_drawn_61 : decode cX12_drawn 61 = .ok (.aload_n 0, 1) := by decide +kernel
theorem dX12_drawn_62 : decode cX12_drawn 62 = .ok (.iload_n 1, 1) := by decide +kernel
theorem dX12_drawn_63 : decode cX12_drawn 63 = .ok (.invokevirtual 291, 3) := by decide +kernel
theorem dX12_drawn_66 : decode cX12_drawn 66 = .ok (.aload_n 0, 1) := by decide +kernel
theorem dX12_drawn_67 : decode cX12_drawn 67 = .ok (.iload_n 2, 1) := by decide +kernel
theorem dX12_drawn_68 : decode cX12_drawn 68 = .ok (.putfield 256, 3) := by decide +kernel
theorem dX12_drawn_71 : decode cX12_drawn 71 = .ok (.aload_n 0, 1) := by decide +kernel
theorem dX12_drawn_72 : decode cX12_drawn 72 = .ok (.iload_n 3, 1) := by decide +kernel
theorem dX12_drawn_73 : decode cX12_drawn 73 = .ok (.bipush 100, 2) := by decide +kernel
theorem dX12_drawn_75 : decode cX12_drawn 75 = .ok (.irem, 1) := by decide +kernel
theorem dX12_drawn_76 : decode cX12_drawn 76 = .ok (.putfield 260, 3) := by decide +kernel
theorem dX12_drawn_79 : decode cX12_drawn 79 = .ok (.iconst 0, 1) := by decide +kernel
theorem dX12_drawn_80 : decode cX12_drawn 80 = .ok (.istore 6, 2) := by decide +kernel
theorem dX12_drawn_82 : decode cX12_drawn 82 = .ok (.iconst 0, 1) := by decide +kernel
theorem dX12_drawn_83 : decode cX12_drawn 83 = .ok (.istore 7, 2) := by decide +kernel
theorem dX12_drawn_85 : decode cX12_drawn 85 = .ok (.iconst 0, 1) := by decide +kernel
theorem dX12_drawn_86 : decode cX12_drawn 86 = .ok (.istore 8, 2) := by decide +kernel
theorem dX12_drawn_88 : decode cX12_drawn 88 = .ok (.iload 8, 2) := by decide +kernel
theorem dX12_drawn_90 : decode cX12_drawn 90 = .ok (.iload_n 3, 1) := by decide +kernel
theorem dX12_drawn_91 : decode cX12_drawn 91 = .ok (.bipush 100, 2) := by decide +kernel
theorem dX12_drawn_93 : decode cX12_drawn 93 = .ok (.idiv, 1) := by decide +kernel
theorem dX12_drawn_94 : decode cX12_drawn 94 = .ok (.if_icmp .ge 35, 3) := by decide +kernel
theorem dX12_drawn_97 : decode cX12_drawn 97 = .ok (.aload_n 0, 1) := by decide +kernel
theorem dX12_drawn_98 : decode cX12_drawn 98 = .ok (.iconst 1, 1) := by decide +kernel
theorem dX12_drawn_99 : decode cX12_drawn 99 = .ok (.invokevirtual 278, 3) := by decide +kernel
theorem dX12_drawn_102 : decode cX12_drawn 102 = .ok (.aload_n 0, 1) := by decide +kernel
theorem dX12_drawn_103 : decode cX12_drawn 103 = .ok (.invokevirtual 282, 3) := by decide +kernel
theorem dX12_drawn_106 : decode cX12_drawn 106 = .ok (.istore 9, 2) := by decide +kernel
theorem dX12_drawn_108 : decode cX12_drawn 108 = .ok (.iload 6, 2) := by decide +kernel
theorem dX12_drawn_110 : decode cX12_drawn 110 = .ok (.iload 9, 2) := by decide +kernel
theorem dX12_drawn_112 : decode cX12_drawn 112 = .ok (.iadd, 1) := by decide +kernel
theorem dX12_drawn_113 : decode cX12_drawn 113 = .ok (.istore 6, 2) := by decide +kernel
theorem dX12_drawn_115 : decode cX12_drawn 115 = .ok (.iload 9, 2) := by decide +kernel
theorem dX12_drawn_117 : decode cX12_drawn 117 = .ok (.ifCond .ne 6, 3) := by decide +kernel
theorem dX12_drawn_120 : decode cX12_drawn 120 = .ok (.iinc 7 1, 3) := by decide +kernel
theorem dX12_drawn_123 : decode cX12_drawn 123 = .ok (.iinc 8 1, 3) := by decide +kernel
theorem dX12_drawn_126 : decode cX12_drawn 126 = .ok (.goto (-38), 3) := by decide +kernel
theorem dX12_drawn_129 : decode cX12_drawn 129 = .ok (.iload 4, 2) := by decide +kernel
theorem dX12_drawn_131 : decode cX12_drawn 131 = .ok (.ifCond .ne 8, 3) := by decide +kernel
theorem dX12_drawn_134 : decode cX12_drawn 134 = .ok (.iload 6, 2) := by decide +kernel
theorem dX12_drawn_136 : decode cX12_drawn 136 = .ok (.goto 5, 3) := by decide +kernel
theorem dX12_drawn_139 : decode cX12_drawn 139 = .ok (.iload 7, 2) := by decide +kernel
theorem dX12_drawn_141 : decode cX12_drawn 141 = .ok (.ireturn, 1) := by decide +kernel
theorem dX12_swim_0 : decode cX12_swim 0 = .ok (.iload_n 1, 1) := by decide +kernel
theorem dX12_swim_1 : decode cX12_swim 1 = .ok (.invokestatic 140, 3) := by decide +kernel
theorem dX12_swim_4 : decode cX12_swim 4 = .ok (.ifCond .ne 5, 3) := by decide +kernel
theorem dX12_swim_7 : decode cX12_swim 7 = .ok (.iconst (-1), 1) := by decide +kernel
theorem dX12_swim_8 : decode cX12_swim 8 = .ok (.ireturn, 1) := by decide +kernel
theorem dX12_swim_9 : decode cX12_swim 9 = .ok (.aload_n 0, 1) := by decide +kernel
theorem dX12_swim_10 : decode cX12_swim 10 = .ok (.iload_n 1, 1) := by decide +kernel
theorem dX12_swim_11 : decode cX12_swim 11 = .ok (.iconst 0, 1) := by decide +kernel
theorem dX12_swim_12 : decode cX12_swim 12 = .ok (.invokevirtual 288, 3) := by decide +kernel
theorem dX12_swim_15 : decode cX12_swim 15 = .ok (.istore_n 2, 1) := by decide +kernel
theorem dX12_swim_16 : decode cX12_swim 16 = .ok (.iload_n 2, 1) := by decide +kernel
theorem dX12_swim_17 : decode cX12_swim 17 = .ok (.ifCond .ge 5, 3) := by decide +kernel
theorem dX12_swim_20 : decode cX12_swim 20 = .ok (.iload_n 2, 1) := by decide +kernel
theorem dX12_swim_21 : decode cX12_swim 21 = .ok (.ireturn, 1) := by decide +kernel
theorem dX12_swim_22 : decode cX12_swim 22 = .ok (.aload_n 0, 1) := by decide +kernel
theorem dX12_swim_23 : decode cX12_swim 23 = .ok (.iload_n 1, 1) := by decide +kernel
theorem dX12_swim_24 : decode cX12_swim 24 = .ok (.invokevirtual 291, 3) := by decide +kernel
theorem dX12_swim_27 : decode cX12_swim 27 = .ok (.aload_n 0, 1) := by decide +kernel
theorem dX12_swim_28 : decode cX12_swim 28 = .ok (.invokevirtual 295, 3) := by decide +kernel
theorem dX12_swim_31 : decode cX12_swim 31 = .ok (.istore_n 3, 1) := by decide +kernel
theorem dX12_swim_32 : decode cX12_swim 32 = .ok (.iconst 0, 1) := by decide +kernel
theorem dX12_swim_33 : decode cX12_swim 33 = .ok (.istore 4, 2) := by decide +kernel
theorem dX12_swim_35 : decode cX12_swim 35 = .ok (.iconst 0, 1) := by decide +kernel
theorem dX12_swim_36 : decode cX12_swim 36 = .ok (.istore 5, 2) := by decide +kernel
theorem dX12_swim_38 : decode cX12_swim 38 = .ok (.iload 5, 2) := by decide +kernel
theorem dX12_swim_40 : decode cX12_swim 40 = .ok (.aload_n 0, 1) := by decide +kernel
theorem dX12_swim_41 : decode cX12_swim 41 = .ok (.getfield 253, 3) := by decide +kernel
theorem dX12_swim_44 : decode cX12_swim 44 = .ok (.if_icmp .ge 25, 3) := by decide +kernel
theorem dX12_swim_47 : decode cX12_swim 47 = .ok (.aload_n 0, 1) := by decide +kernel
theorem dX12_swim_48 : decode cX12_swim 48 = .ok (.getfield 103, 3) := by decide +kernel
theorem dX12_swim_51 : decode cX12_swim 51 = .ok (.iload 5, 2) := by decide +kernel
theorem dX12_swim_53 : decode cX12_swim 53 = .ok (.iaload, 1) := by decide +kernel
theorem dX12_swim_54 : decode cX12_swim 54 = .ok (.invokestatic 304, 3) := by decide +kernel
theorem dX12_swim_57 : decode cX12_swim 57 = .ok (.ifCond .eq 6, 3) := by decide +kernel
theorem dX12_swim_60 : decode cX12_swim 60 = .ok (.iinc 4 1, 3) := by decide +kernel
theorem dX12_swim_63 : decode cX12_swim 63 = .ok (.iinc 5 1, 3) := by decide +kernel
theorem dX12_swim_66 : decode cX12_swim 66 = .ok (.goto (-28), 3) := by decide +kernel
theorem dX12_swim_69 : decode cX12_swim 69 = .ok (.aload_n 0, 1) := by decide +kernel
theorem dX12_swim_70 : decode cX12_swim 70 = .ok (.getfield 72, 3) := by decide +kernel
theorem dX12_swim_73 : decode cX12_swim 73 = .ok (.iconst 0, 1) := by decide +kernel
theorem dX12_swim_74 : decode cX12_swim 74 = .ok (.dup2, 1) := by decide +kernel
theorem dX12_swim_75 : decode cX12_swim 75 = .ok (.iaload, 1) := by decide +kernel
theorem dX12_swim_76 : decode cX12_swim 76 = .ok (.iconst 1, 1) := by decide +kernel
theorem dX12_swim_77 : decode cX12_swim 77 = .ok (.iadd, 1) := by decide +kernel
theorem dX12_swim_78 : decode cX12_swim 78 = .ok (.iastore, 1) := by decide +kernel
theorem dX12_swim_79 : decode cX12_swim 79 = .ok (.aload_n 0, 1) := by decide +kernel
theorem dX12_swim_80 : decode cX12_swim 80 = .ok (.getfield 72, 3) := by decide +kernel
theorem dX12_swim_83 : decode cX12_swim 83 = .ok (.iconst 1, 1) := by decide +kernel
theorem dX12_swim_84 : decode cX12_swim 84 = .ok (.dup2, 1) := by decide +kernel
theorem dX12_swim_85 : decode cX12_swim 85 = .ok (.iaload, 1) := by decide +kernel
theorem dX12_swim_86 : decode cX12_swim 86 = .ok (.aload_n 0, 1) := by decide +kernel
theorem dX12_swim_87 : decode cX12_swim 87 = .ok (.getfield 253, 3) := by decide +kernel
theorem dX12_swim_90 : decode cX12_swim 90 = .ok (.iadd, 1) := by decide +kernel
theorem dX12_swim_91 : decode cX12_swim 91 = .ok (.iastore, 1) := by decide +kernel
theorem dX12_swim_92 : decode cX12_swim 92 = .ok (.aload_n 0, 1) := by decide +kernel
theorem dX12_swim_93 : decode cX12_swim 93 = .ok (.getfield 72, 3) := by decide +kernel
theorem dX12_swim_96 : decode cX12_swim 96 = .ok (.iconst 2, 1) := by decide +kernel
theorem dX12_swim_97 : decode cX12_swim 97 = .ok (.dup2, 1) := by decide +kernel
theorem dX12_swim_98 : decode cX12_swim 98 = .ok (.iaload, 1) := by decide +kernel
theorem dX12_swim_99 : decode cX12_swim 99 = .ok (.iload_n 3, 1) := by decide +kernel
theorem dX12_swim_100 : decode cX12_swim 100 = .ok (.iadd, 1) := by decide +kernel
theorem dX12_swim_101 : decode cX12_swim 101 = .ok (.iastore, 1) := by decide +kernel
theorem dX12_swim_102 : decode cX12_swim 102 = .ok (.iconst 0, 1) := by decide +kernel
theorem dX12_swim_103 : decode cX12_swim 103 = .ok (.istore 5, 2) := by decide +kernel
theorem dX12_swim_105 : decode cX12_swim 105 = .ok (.iload 5, 2) := by decide +kernel
theorem dX12_swim_107 : decode cX12_swim 107 = .ok (.aload_n 0, 1) := by decide +kernel
theorem dX12_swim_108 : decode cX12_swim 108 = .ok (.getfield 125, 3) := by decide +kernel
theorem dX12_swim_111 : decode cX12_swim 111 = .ok (.if_icmp .ge 91, 3) := by decide +kernel
theorem dX12_swim_114 : decode cX12_swim 114 = .ok (.aload_n 0, 1) := by decide +kernel
theorem dX12_swim_115 : decode cX12_swim 115 = .ok (.aload_n 0, 1) := by decide +kernel
theorem dX12_swim_116 : decode cX12_swim 116 = .ok (.getfield 21, 3) := by decide +kernel
theorem dX12_swim_119 : decode cX12_swim 119 = .ok (.iload 5, 2) := by decide +kernel
theorem dX12_swim_121 : decode cX12_swim 121 = .ok (.iaload, 1) := by decide +kernel
theorem dX12_swim_122 : decode cX12_swim 122 = .ok (.invokevirtual 307, 3) := by decide +kernel
theorem dX12_swim_125 : decode cX12_swim 125 = .ok (.bipush (-2), 2) := by decide +kernel
theorem dX12_swim_127 : decode cX12_swim 127 = .ok (.if_icmp .eq 24, 3) := by decide +kernel
theorem dX12_swim_130 : decode cX12_swim 130 = .ok (.aload_n 0, 1) := by decide +kernel
theorem dX12_swim_131 : decode cX12_swim 131 = .ok (.getfield 36, 3) := by decide +kernel
theorem dX12_swim_134 : decode cX12_swim 134 = .ok (.iload 5, 2) := by decide +kernel
theorem dX12_swim_136 : decode cX12_swim 136 = .ok (.dup2, 1) := by decide +kernel
theorem dX12_swim_137 : decode cX12_swim 137 = .ok (.iaload, 1) := by decide +kernel
theorem dX12_swim_138 : decode cX12_swim 138 = .ok (.iconst 1, 1) := by decide +kernel
theorem dX12_swim_139 : decode cX12_swim 139 = .ok (.iadd, 1) := by decide +kernel
theorem dX12_swim_140 : decode cX12_swim 140 = .ok (.iastore, 1) := by decide +kernel
theorem dX12_swim_141 : decode cX12_swim 141 = .ok (.aload_n 0, 1) := by decide +kernel
theorem dX12_swim_142 : decode cX12_swim 142 = .ok (.getfield 72, 3) := by decide +kernel
theorem dX12_swim_145 : decode cX12_swim 145 = .ok (.iconst 3, 1) := by decide +kernel
theorem dX12_swim_146 : decode cX12_swim 146 = .ok (.dup2, 1) := by decide +kernel
theorem dX12_swim_147 : decode cX12_swim 147 = .ok (.iaload, 1) := by decide +kernel
theorem dX12_swim_148 : decode cX12_swim 148 = .ok (.iconst 1, 1) := by decide +kernel
theorem dX12_swim_149 : decode cX12_swim 149 = .ok (.iadd, 1) := by decide +kernel
theorem dX12_swim_150 : decode cX12_swim 150 = .ok (.iastore, 1) := by decide +kernel
theorem dX12_swim_151 : decode cX12_swim 151 = .ok (.aload_n 0, 1) := by decide +kernel
theorem dX12_swim_152 : decode cX12_swim 152 = .ok (.getfield 33, 3) := by decide +kernel
theorem dX12_swim_155 : decode cX12_swim 155 = .ok (.iload 5, 2) := by decide +kernel
theorem dX12_swim_157 : decode cX12_swim 157 = .ok (.dup2, 1) := by decide +kernel
theorem dX12_swim_158 : decode cX12_swim 158 = .ok (.iaload, 1) := by decide +kernel
theorem dX12_swim_159 : decode cX12_swim 159 = .ok (.iload 4, 2) := by decide +kernel
theorem dX12_swim_161 : decode cX12_swim 161 = .ok (.iadd, 1) := by decide +kernel
theorem dX12_swim_162 : decode cX12_swim 162 = .ok (.iastore, 1) := by decide +kernel
theorem dX12_swim_163 : decode cX12_swim 163 = .ok (.aload_n 0, 1) := by decide +kernel
theorem dX12_swim_164 : decode cX12_swim 164 = .ok (.getfield 33, 3) := by decide +kernel
theorem dX12_swim_167 : decode cX12_swim 167 = .ok (.iload 5, 2) := by decide +kernel
theorem dX12_swim_169 : decode cX12_swim 169 = .ok (.iaload, 1) := by decide +kernel
theorem dX12_swim_170 : decode cX12_swim 170 = .ok (.bipush 100, 2) := by decide +kernel
theorem dX12_swim_172 : decode cX12_swim 172 = .ok (.if_icmp .ge 6, 3) := by decide +kernel
theorem dX12_swim_175 : decode cX12_swim 175 = .ok (.goto 21, 3) := by decide +kernel
theorem dX12_swim_178 : decode cX12_swim 178 = .ok (.aload_n 0, 1) := by decide +kernel
theorem dX12_swim_179 : decode cX12_swim 179 = .ok (.getfield 33, 3) := by decide +kernel
theorem dX12_swim_182 : decode cX12_swim 182 = .ok (.iload 5, 2) := by decide +kernel
theorem dX12_swim_184 : decode cX12_swim 184 = .ok (.iconst 0, 1) := by decide +kernel
theorem dX12_swim_185 : decode cX12_swim 185 = .ok (.iastore, 1) := by decide +kernel
theorem dX12_swim_186 : decode cX12_swim 186 = .ok (.aload_n 0, 1) := by decide +kernel
theorem dX12_swim_187 : decode cX12_swim 187 = .ok (.getfield 72, 3) := by decide +kernel
theorem dX12_swim_190 : decode cX12_swim 190 = .ok (.iconst 4, 1) := by decide +kernel
theorem dX12_swim_191 : decode cX12_swim 191 = .ok (.dup2, 1) := by decide +kernel
theorem dX12_swim_192 : decode cX12_swim 192 = .ok (.iaload, 1) := by decide +kernel
theorem dX12_swim_193 : decode cX12_swim 193 = .ok (.iconst 1, 1) := by decide +kernel
theorem dX12_swim_194 : decode cX12_swim 194 = .ok (.iadd, 1) := by decide +kernel
theorem dX12_swim_195 : decode cX12_swim 195 = .ok (.iastore, 1) := by decide +kernel
theorem dX12_swim_196 : decode cX12_swim 196 = .ok (.iinc 5 1, 3) := by decide +kernel
theorem dX12_swim_199 : decode cX12_swim 199 = .ok (.goto (-94), 3) := by decide +kernel
theorem dX12_swim_202 : decode cX12_swim 202 = .ok (.iload_n 3, 1) := by decide +kernel
theorem dX12_swim_203 : decode cX12_swim 203 = .ok (.ireturn, 1) := by decide +kernel
theorem dX12_led_0 : decode cX12_led 0 = .ok (.iload_n 1, 1) := by decide +kernel
theorem dX12_led_1 : decode cX12_led 1 = .ok (.iconst 0, 1) := by decide +kernel
theorem dX12_led_2 : decode cX12_led 2 = .ok (.iconst 4, 1) := by decide +kernel
theorem dX12_led_3 : decode cX12_led 3 = .ok (.invokestatic 128, 3) := by decide +kernel
theorem dX12_led_6 : decode cX12_led 6 = .ok (.ifCond .eq 12, 3) := by decide +kernel
theorem dX12_led_9 : decode cX12_led 9 = .ok (.aload_n 0, 1) := by decide +kernel
theorem dX12_led_10 : decode cX12_led 10 = .ok (.getfield 72, 3) := by decide +kernel
theorem dX12_led_13 : decode cX12_led 13 = .ok (.iload_n 1, 1) := by decide +kernel
theorem dX12_led_14 : decode cX12_led 14 = .ok (.iaload, 1) := by decide +kernel
theorem dX12_led_15 : decode cX12_led 15 = .ok (.goto 4, 3) := by decide +kernel
theorem dX12_led_18 : decode cX12_led 18 = .ok (.iconst (-1), 1) := by decide +kernel
theorem dX12_led_19 : decode cX12_led 19 = .ok (.ireturn, 1) := by decide +kernel
theorem dX12_image_0 : decode cX12_image 0 = .ok (.aload_n 0, 1) := by decide +kernel
theorem dX12_image_1 : decode cX12_image 1 = .ok (.iconst 1, 1) := by decide +kernel
theorem dX12_image_2 : decode cX12_image 2 = .ok (.putfield 354, 3) := by decide +kernel
theorem dX12_image_5 : decode cX12_image 5 = .ok (.aload_n 0, 1) := by decide +kernel
theorem dX12_image_6 : decode cX12_image 6 = .ok (.aload_n 0, 1) := by decide +kernel
theorem dX12_image_7 : decode cX12_image 7 = .ok (.getfield 125, 3) := by decide +kernel
theorem dX12_image_10 : decode cX12_image 10 = .ok (.putfield 357, 3) := by decide +kernel
theorem dX12_image_13 : decode cX12_image 13 = .ok (.iconst 0, 1) := by decide +kernel
theorem dX12_image_14 : decode cX12_image 14 = .ok (.istore_n 1, 1) := by decide +kernel
theorem dX12_image_15 : decode cX12_image 15 = .ok (.iload_n 1, 1) := by decide +kernel
theorem dX12_image_16 : decode cX12_image 16 = .ok (.bipush 8, 2) := by decide +kernel
theorem dX12_image_18 : decode cX12_image 18 = .ok (.if_icmp .ge 33, 3) := by decide +kernel
theorem dX12_image_21 : decode cX12_image 21 = .ok (.aload_n 0, 1) := by decide +kernel
theorem dX12_image_22 : decode cX12_image 22 = .ok (.getfield 75, 3) := by decide +kernel
theorem dX12_image_25 : decode cX12_image 25 = .ok (.iload_n 1, 1) := by decide +kernel
theorem dX12_image_26 : decode cX12_image 26 = .ok (.aload_n 0, 1) := by decide +kernel
theorem dX12_image_27 : decode cX12_image 27 = .ok (.getfield 33, 3) := by decide +kernel
theorem dX12_image_30 : decode cX12_image 30 = .ok (.iload_n 1, 1) := by decide +kernel
theorem dX12_image_31 : decode cX12_image 31 = .ok (.iaload, 1) := by decide +kernel
theorem dX12_image_32 : decode cX12_image 32 = .ok (.iastore, 1) := by decide +kernel
theorem dX12_image_33 : decode cX12_image 33 = .ok (.aload_n 0, 1) := by decide +kernel
theorem dX12_image_34 : decode cX12_image 34 = .ok (.getfield 78, 3) := by decide +kernel
theorem dX12_image_37 : decode cX12_image 37 = .ok (.iload_n 1, 1) := by decide +kernel
theorem dX12_image_38 : decode cX12_image 38 = .ok (.aload_n 0, 1) := by decide +kernel
theorem dX12_image_39 : decode cX12_image 39 = .ok (.getfield 36, 3) := by decide +kernel
theorem dX12_image_42 : decode cX12_image 42 = .ok (.iload_n 1, 1) := by decide +kernel
theorem dX12_image_43 : decode cX12_image 43 = .ok (.iaload, 1) := by decide +kernel
theorem dX12_image_44 : decode cX12_image 44 = .ok (.iastore, 1) := by decide +kernel
theorem dX12_image_45 : decode cX12_image 45 = .ok (.iinc 1 1, 3) := by decide +kernel
theorem dX12_image_48 : decode cX12_image 48 = .ok (.goto (-33), 3) := by decide +kernel
theorem dX12_image_51 : decode cX12_image 51 = .ok (.iconst 0, 1) := by decide +kernel
theorem dX12_image_52 : decode cX12_image 52 = .ok (.istore_n 1, 1) := by decide +kernel
theorem dX12_image_53 : decode cX12_image 53 = .ok (.iload_n 1, 1) := by decide +kernel
theorem dX12_image_54 : decode cX12_image 54 = .ok (.iconst 5, 1) := by decide +kernel
theorem dX12_image_55 : decode cX12_image 55 = .ok (.if_icmp .ge 21, 3) := by decide +kernel
theorem dX12_image_58 : decode cX12_image 58 = .ok (.aload_n 0, 1) := by decide +kernel
theorem dX12_image_59 : decode cX12_image 59 = .ok (.getfield 81, 3) := by decide +kernel
theorem dX12_image_62 : decode cX12_image 62 = .ok (.iload_n 1, 1) := by decide +kernel
theorem dX12_image_63 : decode cX12_image 63 = .ok (.aload_n 0, 1) := by decide +kernel
theorem dX12_image_64 : decode cX12_image 64 = .ok (.getfield 72, 3) := by decide +kernel
theorem dX12_image_67 : decode cX12_image 67 = .ok (.iload_n 1, 1) := by decide +kernel
theorem dX12_image_68 : decode cX12_image 68 = .ok (.iaload, 1) := by decide +kernel
theorem dX12_image_69 : decode cX12_image 69 = .ok (.iastore, 1) := by decide +kernel
theorem dX12_image_70 : decode cX12_image 70 = .ok (.iinc 1 1, 3) := by decide +kernel
theorem dX12_image_73 : decode cX12_image 73 = .ok (.goto (-20), 3) := by decide +kernel
theorem dX12_image_76 : decode cX12_image 76 = .ok (.aload_n 0, 1) := by decide +kernel
theorem dX12_image_77 : decode cX12_image 77 = .ok (.getfield 72, 3) := by decide +kernel
theorem dX12_image_80 : decode cX12_image 80 = .ok (.iconst 0, 1) := by decide +kernel
theorem dX12_image_81 : decode cX12_image 81 = .ok (.iaload, 1) := by decide +kernel
theorem dX12_image_82 : decode cX12_image 82 = .ok (.ireturn, 1) := by decide +kernel
theorem dX12_back_0 : decode cX12_back 0 = .ok (.aload_n 0, 1) := by decide +kernel
theorem dX12_back_1 : decode cX12_back 1 = .ok (.getfield 354, 3) := by decide +kernel
theorem dX12_back_4 : decode cX12_back 4 = .ok (.ifCond .ne 6, 3) := by decide +kernel
theorem dX12_back_7 : decode cX12_back 7 = .ok (.bipush (-5), 2) := by decide +kernel
theorem dX12_back_9 : decode cX12_back 9 = .ok (.ireturn, 1) := by decide +kernel
theorem dX12_back_10 : decode cX12_back 10 = .ok (.iconst 0, 1) := by decide +kernel
theorem dX12_back_11 : decode cX12_back 11 = .ok (.istore_n 1, 1) := by decide +kernel
theorem dX12_back_12 : decode cX12_back 12 = .ok (.iload_n 1, 1) := by decide +kernel
theorem dX12_back_13 : decode cX12_back 13 = .ok (.bipush 8, 2) := by decide +kernel
theorem dX12_back_15 : decode cX12_back 15 = .ok (.if_icmp .ge 57, 3) := by decide +kernel
theorem dX12_back_18 : decode cX12_back 18 = .ok (.aload_n 0, 1) := by decide +kernel
theorem dX12_back_19 : decode cX12_back 19 = .ok (.getfield 33, 3) := by decide +kernel
theorem dX12_back_22 : decode cX12_back 22 = .ok (.iload_n 1, 1) := by decide +kernel
theorem dX12_back_23 : decode cX12_back 23 = .ok (.iload_n 1, 1) := by decide +kernel
theorem dX12_back_24 : decode cX12_back 24 = .ok (.aload_n 0, 1) := by decide +kernel
theorem dX12_back_25 : decode cX12_back 25 = .ok (.getfield 357, 3) := by decide +kernel
theorem dX12_back_28 : decode cX12_back 28 = .ok (.if_icmp .ge 12, 3) := by decide +kernel
theorem dX12_back_31 : decode cX12_back 31 = .ok (.aload_n 0, 1) := by decide +kernel
theorem dX12_back_32 : decode cX12_back 32 = .ok (.getfield 75, 3) := by decide +kernel
theorem dX12_back_35 : decode cX12_back 35 = .ok (.iload_n 1, 1) := by decide +kernel
theorem dX12_back_36 : decode cX12_back 36 = .ok (.iaload, 1) := by decide +kernel
theorem dX12_back_37 : decode cX12_back 37 = .ok (.goto 4, 3) := by decide +kernel
theorem dX12_back_40 : decode cX12_back 40 = .ok (.iconst 0, 1) := by decide +kernel
theorem dX12_back_41 : decode cX12_back 41 = .ok (.iastore, 1) := by decide +kernel
theorem dX12_back_42 : decode cX12_back 42 = .ok (.aload_n 0, 1) := by decide +kernel
theorem dX12_back_43 : decode cX12_back 43 = .ok (.getfield 36, 3) := by decide +kernel
theorem dX12_back_46 : decode cX12_back 46 = .ok (.iload_n 1, 1) := by decide +kernel
theorem dX12_back_47 : decode cX12_back 47 = .ok (.iload_n 1, 1) := by decide +kernel
theorem dX12_back_48 : decode cX12_back 48 = .ok (.aload_n 0, 1) := by decide +kernel
theorem dX12_back_49 : decode cX12_back 49 = .ok (.getfield 357, 3) := by decide +kernel
theorem dX12_back_52 : decode cX12_back 52 = .ok (.if_icmp .ge 12, 3) := by decide +kernel
theorem dX12_back_55 : decode cX12_back 55 = .ok (.aload_n 0, 1) := by decide +kernel
theorem dX12_back_56 : decode cX12_back 56 = .ok (.getfield 78, 3) := by decide +kernel
theorem dX12_back_59 : decode cX12_back 59 = .ok (.iload_n 1, 1) := by decide +kernel
theorem dX12_back_60 : decode cX12_back 60 = .ok (.iaload, 1) := by decide +kernel
theorem dX12_back_61 : decode cX12_back 61 = .ok (.goto 4, 3) := by decide +kernel
theorem dX12_back_64 : decode cX12_back 64 = .ok (.iconst 0, 1) := by decide +kernel
theorem dX12_back_65 : decode cX12_back 65 = .ok (.iastore, 1) := by decide +kernel
theorem dX12_back_66 : decode cX12_back 66 = .ok (.iinc 1 1, 3) := by decide +kernel
theorem dX12_back_69 : decode cX12_back 69 = .ok (.goto (-57), 3) := by decide +kernel
theorem dX12_back_72 : decode cX12_back 72 = .ok (.iconst 0, 1) := by decide +kernel
theorem dX12_back_73 : decode cX12_back 73 = .ok (.istore_n 1, 1) := by decide +kernel
theorem dX12_back_74 : decode cX12_back 74 = .ok (.iload_n 1, 1) := by decide +kernel
theorem dX12_back_75 : decode cX12_back 75 = .ok (.iconst 5, 1) := by decide +kernel
theorem dX12_back_76 : decode cX12_back 76 = .ok (.if_icmp .ge 21, 3) := by decide +kernel
theorem dX12_back_79 : decode cX12_back 79 = .ok (.aload_n 0, 1) := by decide +kernel
theorem dX12_back_80 : decode cX12_back 80 = .ok (.getfield 72, 3) := by decide +kernel
theorem dX12_back_83 : decode cX12_back 83 = .ok (.iload_n 1, 1) := by decide +kernel
theorem dX12_back_84 : decode cX12_back 84 = .ok (.aload_n 0, 1) := by decide +kernel
theorem dX12_back_85 : decode cX12_back 85 = .ok (.getfield 81, 3) := by decide +kernel
theorem dX12_back_88 : decode cX12_back 88 = .ok (.iload_n 1, 1) := by decide +kernel
theorem dX12_back_89 : decode cX12_back 89 = .ok (.iaload, 1) := by decide +kernel
theorem dX12_back_90 : decode cX12_back 90 = .ok (.iastore, 1) := by decide +kernel
theorem dX12_back_91 : decode cX12_back 91 = .ok (.iinc 1 1, 3) := by decide +kernel
theorem dX12_back_94 : decode cX12_back 94 = .ok (.goto (-20), 3) := by decide +kernel
theorem dX12_back_97 : decode cX12_back 97 = .ok (.aload_n 0, 1) := by decide +kernel
theorem dX12_back_98 : decode cX12_back 98 = .ok (.getfield 72, 3) := by decide +kernel
theorem dX12_back_101 : decode cX12_back 101 = .ok (.iconst 0, 1) := by decide +kernel
theorem dX12_back_102 : decode cX12_back 102 = .ok (.iaload, 1) := by decide +kernel
theorem dX12_back_103 : decode cX12_back 103 = .ok (.ireturn, 1) := by decide +kernel
theorem dX12_above_0 : decode cX12_above 0 = .ok (.iload_n 0, 1) := by decide +kernel
theorem dX12_above_1 : decode cX12_above 1 = .ok (.tableswitch 43 3 7 #[35, 37, 39, 43, 41], 35) := by decide +kernel
theorem dX12_above_36 : decode cX12_above 36 = .ok (.iconst 2, 1) := by decide +kernel
theorem dX12_above_37 : decode cX12_above 37 = .ok (.ireturn, 1) := by decide +kernel
theorem dX12_above_38 : decode cX12_above 38 = .ok (.iconst 1, 1) := by decide +kernel
theorem dX12_above_39 : decode cX12_above 39 = .ok (.ireturn, 1) := by decide +kernel
theorem dX12_above_40 : decode cX12_above 40 = .ok (.iconst 3, 1) := by decide +kernel
theorem dX12_above_41 : decode cX12_above 41 = .ok (.ireturn, 1) := by decide +kernel
theorem dX12_above_42 : decode cX12_above 42 = .ok (.iconst 4, 1) := by decide +kernel
theorem dX12_above_43 : decode cX12_above 43 = .ok (.ireturn, 1) := by decide +kernel
theorem dX12_above_44 : decode cX12_above 44 = .ok (.iconst 0, 1) := by decide +kernel
theorem dX12_above_45 : decode cX12_above 45 = .ok (.ireturn, 1) := by decide +kernel
theorem dX12_ran_0 : decode cX12_ran 0 = .ok (.aload_n 0, 1) := by decide +kernel
theorem dX12_ran_1 : decode cX12_ran 1 = .ok (.getfield 360, 3) := by decide +kernel
theorem dX12_ran_4 : decode cX12_ran 4 = .ok (.bipush 24, 2) := by decide +kernel
theorem dX12_ran_6 : decode cX12_ran 6 = .ok (.if_icmp .ge 13, 3) := by decide +kernel
theorem dX12_ran_9 : decode cX12_ran 9 = .ok (.aload_n 0, 1) := by decide +kernel
theorem dX12_ran_10 : decode cX12_ran 10 = .ok (.getfield 90, 3) := by decide +kernel
theorem dX12_ran_13 : decode cX12_ran 13 = .ok (.aload_n 0, 1) := by decide +kernel
theorem dX12_ran_14 : decode cX12_ran 14 = .ok (.getfield 360, 3) := by decide +kernel
theorem dX12_ran_17 : decode cX12_ran 17 = .ok (.iload_n 1, 1) := by decide +kernel
theorem dX12_ran_18 : decode cX12_ran 18 = .ok (.iastore, 1) := by decide +kernel
theorem dX12_ran_19 : decode cX12_ran 19 = .ok (.aload_n 0, 1) := by decide +kernel
theorem dX12_ran_20 : decode cX12_ran 20 = .ok (.dup, 1) := by decide +kernel
theorem dX12_ran_21 : decode cX12_ran 21 = .ok (.getfield 360, 3) := by decide +kernel
theorem dX12_ran_24 : decode cX12_ran 24 = .ok (.iconst 1, 1) := by decide +kernel
theorem dX12_ran_25 : decode cX12_ran 25 = .ok (.iadd, 1) := by decide +kernel
theorem dX12_ran_26 : decode cX12_ran 26 = .ok (.putfield 360, 3) := by decide +kernel
theorem dX12_ran_29 : decode cX12_ran 29 = .ok (.return_, 1) := by decide +kernel
theorem dX12_countsBy_0 : decode cX12_countsBy 0 = .ok (.iload_n 2, 1) := by decide +kernel
theorem dX12_countsBy_1 : decode cX12_countsBy 1 = .ok (.lookupswitch 76 #[(0, 35), (1, 44), (6, 60)], 35) := by decide +kernel
theorem dX12_countsBy_36 : decode cX12_countsBy 36 = .ok (.aload_n 0, 1) := by decide +kernel
theorem dX12_countsBy_37 : decode cX12_countsBy 37 = .ok (.iconst 1, 1) := by decide +kernel
theorem dX12_countsBy_38 : decode cX12_countsBy 38 = .ok (.invokevirtual 363, 3) := by decide +kernel
theorem dX12_countsBy_41 : decode cX12_countsBy 41 = .ok (.iload_n 3, 1) := by decide +kernel
theorem dX12_countsBy_42 : decode cX12_countsBy 42 = .ok (.iload_n 1, 1) := by decide +kernel
theorem dX12_countsBy_43 : decode cX12_countsBy 43 = .ok (.iadd, 1) := by decide +kernel
theorem dX12_countsBy_44 : decode cX12_countsBy 44 = .ok (.ireturn, 1) := by decide +kernel
theorem dX12_countsBy_45 : decode cX12_countsBy 45 = .ok (.aload_n 0, 1) := by decide +kernel
theorem dX12_countsBy_46 : decode cX12_countsBy 46 = .ok (.bipush 20, 2) := by decide +kernel
theorem dX12_countsBy_48 : decode cX12_countsBy 48 = .ok (.invokevirtual 363, 3) := by decide +kernel
theorem dX12_countsBy_51 : decode cX12_countsBy 51 = .ok (.aload_n 0, 1) := by decide +kernel
theorem dX12_countsBy_52 : decode cX12_countsBy 52 = .ok (.iload_n 1, 1) := by decide +kernel
theorem dX12_countsBy_53 : decode cX12_countsBy 53 = .ok (.iconst 0, 1) := by decide +kernel
theorem dX12_countsBy_54 : decode cX12_countsBy 54 = .ok (.iload_n 3, 1) := by decide +kernel
theorem dX12_countsBy_55 : decode cX12_countsBy 55 = .ok (.invokevirtual 366, 3) := by decide +kernel
theorem dX12_countsBy_58 : decode cX12_countsBy 58 = .ok (.iconst 3, 1) := by decide +kernel
theorem dX12_countsBy_59 : decode cX12_countsBy 59 = .ok (.iadd, 1) := by decide +kernel
theorem dX12_countsBy_60 : decode cX12_countsBy 60 = .ok (.ireturn, 1) := by decide +kernel
theorem dX12_countsBy_61 : decode cX12_countsBy 61 = .ok (.aload_n 0, 1) := by decide +kernel
theorem dX12_countsBy_62 : decode cX12_countsBy 62 = .ok (.bipush 70, 2) := by decide +kernel
theorem dX12_countsBy_64 : decode cX12_countsBy 64 = .ok (.invokevirtual 363, 3) := by decide +kernel
theorem dX12_countsBy_67 : decode cX12_countsBy 67 = .ok (.aload_n 0, 1) := by decide +kernel
theorem dX12_countsBy_68 : decode cX12_countsBy 68 = .ok (.iload_n 1, 1) := by decide +kernel
theorem dX12_countsBy_69 : decode cX12_countsBy 69 = .ok (.iconst 0, 1) := by decide +kernel
theorem dX12_countsBy_70 : decode cX12_countsBy 70 = .ok (.iload_n 3, 1) := by decide +kernel
theorem dX12_countsBy_71 : decode cX12_countsBy 71 = .ok (.invokevirtual 366, 3) := by decide +kernel
theorem dX12_countsBy_74 : decode cX12_countsBy 74 = .ok (.iconst 2, 1) := by decide +kernel
theorem dX12_countsBy_75 : decode cX12_countsBy 75 = .ok (.imul, 1) := by decide +kernel
theorem dX12_countsBy_76 : decode cX12_countsBy 76 = .ok (.ireturn, 1) := by decide +kernel
theorem dX12_countsBy_77 : decode cX12_countsBy 77 = .ok (.aload_n 0, 1) := by decide +kernel
theorem dX12_countsBy_78 : decode cX12_countsBy 78 = .ok (.iload_n 1, 1) := by decide +kernel
theorem dX12_countsBy_79 : decode cX12_countsBy 79 = .ok (.iload_n 2, 1) := by decide +kernel
theorem dX12_countsBy_80 : decode cX12_countsBy 80 = .ok (.invokestatic 369, 3) := by decide +kernel
theorem dX12_countsBy_83 : decode cX12_countsBy 83 = .ok (.iload_n 3, 1) := by decide +kernel
theorem dX12_countsBy_84 : decode cX12_countsBy 84 = .ok (.invokevirtual 366, 3) := by decide +kernel
theorem dX12_countsBy_87 : decode cX12_countsBy 87 = .ok (.ireturn, 1) := by decide +kernel
theorem dX12_turnsBy_0 : decode cX12_turnsBy 0 = .ok (.iload_n 2, 1) := by decide +kernel
theorem dX12_turnsBy_1 : decode cX12_turnsBy 1 = .ok (.tableswitch 130 0 7 #[47, 130, 68, 83, 130, 130, 130, 99], 47) := by decide +kernel
theorem dX12_turnsBy_48 : decode cX12_turnsBy 48 = .ok (.aload_n 0, 1) := by decide +kernel
theorem dX12_turnsBy_49 : decode cX12_turnsBy 49 = .ok (.bipush 10, 2) := by decide +kernel
theorem dX12_turnsBy_51 : decode cX12_turnsBy 51 = .ok (.invokevirtual 363, 3) := by decide +kernel
theorem dX12_turnsBy_54 : decode cX12_turnsBy 54 = .ok (.aload_n 0, 1) := by decide +kernel
theorem dX12_turnsBy_55 : decode cX12_turnsBy 55 = .ok (.iload_n 1, 1) := by decide +kernel
theorem dX12_turnsBy_56 : decode cX12_turnsBy 56 = .ok (.aload_n 0, 1) := by decide +kernel
theorem dX12_turnsBy_57 : decode cX12_turnsBy 57 = .ok (.getfield 87, 3) := by decide +kernel
theorem dX12_turnsBy_60 : decode cX12_turnsBy 60 = .ok (.iload_n 1, 1) := by decide +kernel
theorem dX12_turnsBy_61 : decode cX12_turnsBy 61 = .ok (.iaload, 1) := by decide +kernel
theorem dX12_turnsBy_62 : decode cX12_turnsBy 62 = .ok (.iload_n 3, 1) := by decide +kernel
theorem dX12_turnsBy_63 : decode cX12_turnsBy 63 = .ok (.invokevirtual 366, 3) := by decide +kernel
theorem dX12_turnsBy_66 : decode cX12_turnsBy 66 = .ok (.iconst 2, 1) := by decide +kernel
theorem dX12_turnsBy_67 : decode cX12_turnsBy 67 = .ok (.imul, 1) := by decide +kernel
theorem dX12_turnsBy_68 : decode cX12_turnsBy 68 = .ok (.ireturn, 1) := by decide +kernel
theorem dX12_turnsBy_69 : decode cX12_turnsBy 69 = .ok (.aload_n 0, 1) := by decide +kernel
theorem dX12_turnsBy_70 : decode cX12_turnsBy 70 = .ok (.bipush 30, 2) := by decide +kernel
theorem dX12_turnsBy_72 : decode cX12_turnsBy 72 = .ok (.invokevirtual 363, 3) := by decide +kernel
theorem dX12_turnsBy_75 : decode cX12_turnsBy 75 = .ok (.aload_n 0, 1) := by decide +kernel
theorem dX12_turnsBy_76 : decode cX12_turnsBy 76 = .ok (.iload_n 1, 1) := by decide +kernel
theorem dX12_turnsBy_77 : decode cX12_turnsBy 77 = .ok (.iconst 0, 1) := by decide +kernel
theorem dX12_turnsBy_78 : decode cX12_turnsBy 78 = .ok (.iload_n 3, 1) := by decide +kernel
theorem dX12_turnsBy_79 : decode cX12_turnsBy 79 = .ok (.invokevirtual 372, 3) := by decide +kernel
theorem dX12_turnsBy_82 : decode cX12_turnsBy 82 = .ok (.ineg, 1) := by decide +kernel
theorem dX12_turnsBy_83 : decode cX12_turnsBy 83 = .ok (.ireturn, 1) := by decide +kernel
theorem dX12_turnsBy_84 : decode cX12_turnsBy 84 = .ok (.aload_n 0, 1) := by decide +kernel
theorem dX12_turnsBy_85 : decode cX12_turnsBy 85 = .ok (.bipush 41, 2) := by decide +kernel
theorem dX12_turnsBy_87 : decode cX12_turnsBy 87 = .ok (.invokevirtual 363, 3) := by decide +kernel
theorem dX12_turnsBy_90 : decode cX12_turnsBy 90 = .ok (.aload_n 0, 1) := by decide +kernel
theorem dX12_turnsBy_91 : decode cX12_turnsBy 91 = .ok (.iload_n 1, 1) := by decide +kernel
theorem dX12_turnsBy_92 : decode cX12_turnsBy 92 = .ok (.iconst 2, 1) := by decide +kernel
theorem dX12_turnsBy_93 : decode cX12_turnsBy 93 = .ok (.iload_n 3, 1) := by decide +kernel
theorem dX12_turnsBy_94 : decode cX12_turnsBy 94 = .ok (.iconst 1, 1) := by decide +kernel
theorem dX12_turnsBy_95 : decode cX12_turnsBy 95 = .ok (.iadd, 1) := by decide +kernel
theorem dX12_turnsBy_96 : decode cX12_turnsBy 96 = .ok (.invokevirtual 372, 3) := by decide +kernel
theorem dX12_turnsBy_99 : decode cX12_turnsBy 99 = .ok (.ireturn, 1) := by decide +kernel
theorem dX12_turnsBy_100 : decode cX12_turnsBy 100 = .ok (.aload_n 0, 1) := by decide +kernel
theorem dX12_turnsBy_101 : decode cX12_turnsBy 101 = .ok (.bipush 80, 2) := by decide +kernel
theorem dX12_turnsBy_103 : decode cX12_turnsBy 103 = .ok (.invokevirtual 363, 3) := by decide +kernel
theorem dX12_turnsBy_106 : decode cX12_turnsBy 106 = .ok (.aload_n 0, 1) := by decide +kernel
theorem dX12_turnsBy_107 : decode cX12_turnsBy 107 = .ok (.iload_n 1, 1) := by decide +kernel
theorem dX12_turnsBy_108 : decode cX12_turnsBy 108 = .ok (.iconst 4, 1) := by decide +kernel
theorem dX12_turnsBy_109 : decode cX12_turnsBy 109 = .ok (.iload_n 3, 1) := by decide +kernel
theorem dX12_turnsBy_110 : decode cX12_turnsBy 110 = .ok (.invokevirtual 372, 3) := by decide +kernel
theorem dX12_turnsBy_113 : decode cX12_turnsBy 113 = .ok (.istore 4, 2) := by decide +kernel
theorem dX12_turnsBy_115 : decode cX12_turnsBy 115 = .ok (.iload 4, 2) := by decide +kernel
theorem dX12_turnsBy_117 : decode cX12_turnsBy 117 = .ok (.aload_n 0, 1) := by decide +kernel
theorem dX12_turnsBy_118 : decode cX12_turnsBy 118 = .ok (.iload_n 1, 1) := by decide +kernel
theorem dX12_turnsBy_119 : decode cX12_turnsBy 119 = .ok (.aload_n 0, 1) := by decide +kernel
theorem dX12_turnsBy_120 : decode cX12_turnsBy 120 = .ok (.getfield 87, 3) := by decide +kernel
theorem dX12_turnsBy_123 : decode cX12_turnsBy 123 = .ok (.iload_n 1, 1) := by decide +kernel
theorem dX12_turnsBy_124 : decode cX12_turnsBy 124 = .ok (.iaload, 1) := by decide +kernel
theorem dX12_turnsBy_125 : decode cX12_turnsBy 125 = .ok (.iconst 2, 1) := by decide +kernel
theorem dX12_turnsBy_126 : decode cX12_turnsBy 126 = .ok (.invokevirtual 375, 3) := by decide +kernel
theorem dX12_turnsBy_129 : decode cX12_turnsBy 129 = .ok (.iadd, 1) := by decide +kernel
theorem dX12_turnsBy_130 : decode cX12_turnsBy 130 = .ok (.ireturn, 1) := by decide +kernel
theorem dX12_turnsBy_131 : decode cX12_turnsBy 131 = .ok (.aload_n 0, 1) := by decide +kernel
theorem dX12_turnsBy_132 : decode cX12_turnsBy 132 = .ok (.iload_n 1, 1) := by decide +kernel
theorem dX12_turnsBy_133 : decode cX12_turnsBy 133 = .ok (.iload_n 2, 1) := by decide +kernel
theorem dX12_turnsBy_134 : decode cX12_turnsBy 134 = .ok (.invokestatic 369, 3) := by decide +kernel
theorem dX12_turnsBy_137 : decode cX12_turnsBy 137 = .ok (.iload_n 3, 1) := by decide +kernel
theorem dX12_turnsBy_138 : decode cX12_turnsBy 138 = .ok (.invokevirtual 372, 3) := by decide +kernel
theorem dX12_turnsBy_141 : decode cX12_turnsBy 141 = .ok (.ireturn, 1) := by decide +kernel
theorem dX12_sinksBy_0 : decode cX12_sinksBy 0 = .ok (.iload_n 2, 1) := by decide +kernel
theorem dX12_sinksBy_1 : decode cX12_sinksBy 1 = .ok (.tableswitch 92 0 4 #[35, 92, 92, 45, 61], 35) := by decide +kernel
theorem dX12_sinksBy_36 : decode cX12_sinksBy 36 = .ok (.aload_n 0, 1) := by decide +kernel
theorem dX12_sinksBy_37 : decode cX12_sinksBy 37 = .ok (.bipush 11, 2) := by decide +kernel
theorem dX12_sinksBy_39 : decode cX12_sinksBy 39 = .ok (.invokevirtual 363, 3) := by decide +kernel
theorem dX12_sinksBy_42 : decode cX12_sinksBy 42 = .ok (.iload_n 3, 1) := by decide +kernel
theorem dX12_sinksBy_43 : decode cX12_sinksBy 43 = .ok (.iload_n 1, 1) := by decide +kernel
theorem dX12_sinksBy_44 : decode cX12_sinksBy 44 = .ok (.ixor, 1) := by decide +kernel
theorem dX12_sinksBy_45 : decode cX12_sinksBy 45 = .ok (.ireturn, 1) := by decide +kernel
theorem dX12_sinksBy_46 : decode cX12_sinksBy 46 = .ok (.aload_n 0, 1) := by decide +kernel
theorem dX12_sinksBy_47 : decode cX12_sinksBy 47 = .ok (.bipush 40, 2) := by decide +kernel
theorem dX12_sinksBy_49 : decode cX12_sinksBy 49 = .ok (.invokevirtual 363, 3) := by decide +kernel
theorem dX12_sinksBy_52 : decode cX12_sinksBy 52 = .ok (.aload_n 0, 1) := by decide +kernel
theorem dX12_sinksBy_53 : decode cX12_sinksBy 53 = .ok (.iload_n 1, 1) := by decide +kernel
theorem dX12_sinksBy_54 : decode cX12_sinksBy 54 = .ok (.iconst 2, 1) := by decide +kernel
theorem dX12_sinksBy_55 : decode cX12_sinksBy 55 = .ok (.iload_n 3, 1) := by decide +kernel
theorem dX12_sinksBy_56 : decode cX12_sinksBy 56 = .ok (.invokevirtual 375, 3) := by decide +kernel
theorem dX12_sinksBy_59 : decode cX12_sinksBy 59 = .ok (.iconst 3, 1) := by decide +kernel
theorem dX12_sinksBy_60 : decode cX12_sinksBy 60 = .ok (.imul, 1) := by decide +kernel
theorem dX12_sinksBy_61 : decode cX12_sinksBy 61 = .ok (.ireturn, 1) := by decide +kernel
theorem dX12_sinksBy_62 : decode cX12_sinksBy 62 = .ok (.aload_n 0, 1) := by decide +kernel
theorem dX12_sinksBy_63 : decode cX12_sinksBy 63 = .ok (.bipush 50, 2) := by decide +kernel
theorem dX12_sinksBy_65 : decode cX12_sinksBy 65 = .ok (.invokevirtual 363, 3) := by decide +kernel
theorem dX12_sinksBy_68 : decode cX12_sinksBy 68 = .ok (.aload_n 0, 1) := by decide +kernel
theorem dX12_sinksBy_69 : decode cX12_sinksBy 69 = .ok (.iload_n 1, 1) := by decide +kernel
theorem dX12_sinksBy_70 : decode cX12_sinksBy 70 = .ok (.iconst 1, 1) := by decide +kernel
theorem dX12_sinksBy_71 : decode cX12_sinksBy 71 = .ok (.iload_n 3, 1) := by decide +kernel
theorem dX12_sinksBy_72 : decode cX12_sinksBy 72 = .ok (.invokevirtual 375, 3) := by decide +kernel
theorem dX12_sinksBy_75 : decode cX12_sinksBy 75 = .ok (.istore 4, 2) := by decide +kernel
theorem dX12_sinksBy_77 : decode cX12_sinksBy 77 = .ok (.iload 4, 2) := by decide +kernel
theorem dX12_sinksBy_79 : decode cX12_sinksBy 79 = .ok (.aload_n 0, 1) := by decide +kernel
theorem dX12_sinksBy_80 : decode cX12_sinksBy 80 = .ok (.iload_n 1, 1) := by decide +kernel
theorem dX12_sinksBy_81 : decode cX12_sinksBy 81 = .ok (.aload_n 0, 1) := by decide +kernel
theorem dX12_sinksBy_82 : decode cX12_sinksBy 82 = .ok (.getfield 87, 3) := by decide +kernel
theorem dX12_sinksBy_85 : decode cX12_sinksBy 85 = .ok (.iload_n 1, 1) := by decide +kernel
theorem dX12_sinksBy_86 : decode cX12_sinksBy 86 = .ok (.iaload, 1) := by decide +kernel
theorem dX12_sinksBy_87 : decode cX12_sinksBy 87 = .ok (.iconst 2, 1) := by decide +kernel
theorem dX12_sinksBy_88 : decode cX12_sinksBy 88 = .ok (.invokevirtual 366, 3) := by decide +kernel
theorem dX12_sinksBy_91 : decode cX12_sinksBy 91 = .ok (.isub, 1) := by decide +kernel
theorem dX12_sinksBy_92 : decode cX12_sinksBy 92 = .ok (.ireturn, 1) := by decide +kernel
theorem dX12_sinksBy_93 : decode cX12_sinksBy 93 = .ok (.aload_n 0, 1) := by decide +kernel
theorem dX12_sinksBy_94 : decode cX12_sinksBy 94 = .ok (.iload_n 1, 1) := by decide +kernel
theorem dX12_sinksBy_95 : decode cX12_sinksBy 95 = .ok (.iload_n 2, 1) := by decide +kernel
theorem dX12_sinksBy_96 : decode cX12_sinksBy 96 = .ok (.invokestatic 369, 3) := by decide +kernel
theorem dX12_sinksBy_99 : decode cX12_sinksBy 99 = .ok (.iload_n 3, 1) := by decide +kernel
theorem dX12_sinksBy_100 : decode cX12_sinksBy 100 = .ok (.invokevirtual 375, 3) := by decide +kernel
theorem dX12_sinksBy_103 : decode cX12_sinksBy 103 = .ok (.ireturn, 1) := by decide +kernel
theorem dX12_tells_0 : decode cX12_tells 0 = .ok (.iload_n 2, 1) := by decide +kernel
theorem dX12_tells_1 : decode cX12_tells 1 = .ok (.lookupswitch 102 #[(0, 35), (5, 70), (7, 86)], 35) := by decide +kernel
theorem dX12_tells_36 : decode cX12_tells 36 = .ok (.aload_n 0, 1) := by decide +kernel
theorem dX12_tells_37 : decode cX12_tells 37 = .ok (.iconst 2, 1) := by decide +kernel
theorem dX12_tells_38 : decode cX12_tells 38 = .ok (.invokevirtual 363, 3) := by decide +kernel
theorem dX12_tells_41 : decode cX12_tells 41 = .ok (.aload_n 0, 1) := by decide +kernel
theorem dX12_tells_42 : decode cX12_tells 42 = .ok (.iload_n 1, 1) := by decide +kernel
theorem dX12_tells_43 : decode cX12_tells 43 = .ok (.aload_n 0, 1) := by decide +kernel
theorem dX12_tells_44 : decode cX12_tells 44 = .ok (.getfield 87, 3) := by decide +kernel
theorem dX12_tells_47 : decode cX12_tells 47 = .ok (.iload_n 1, 1) := by decide +kernel
theorem dX12_tells_48 : decode cX12_tells 48 = .ok (.iaload, 1) := by decide +kernel
theorem dX12_tells_49 : decode cX12_tells 49 = .ok (.iload_n 3, 1) := by decide +kernel
theorem dX12_tells_50 : decode cX12_tells 50 = .ok (.invokevirtual 372, 3) := by decide +kernel
theorem dX12_tells_53 : decode cX12_tells 53 = .ok (.istore 4, 2) := by decide +kernel
theorem dX12_tells_55 : decode cX12_tells 55 = .ok (.iload 4, 2) := by decide +kernel
theorem dX12_tells_57 : decode cX12_tells 57 = .ok (.aload_n 0, 1) := by decide +kernel
theorem dX12_tells_58 : decode cX12_tells 58 = .ok (.iload_n 1, 1) := by decide +kernel
theorem dX12_tells_59 : decode cX12_tells 59 = .ok (.aload_n 0, 1) := by decide +kernel
theorem dX12_tells_60 : decode cX12_tells 60 = .ok (.getfield 87, 3) := by decide +kernel
theorem dX12_tells_63 : decode cX12_tells 63 = .ok (.iload_n 1, 1) := by decide +kernel
theorem dX12_tells_64 : decode cX12_tells 64 = .ok (.iaload, 1) := by decide +kernel
theorem dX12_tells_65 : decode cX12_tells 65 = .ok (.iconst 1, 1) := by decide +kernel
theorem dX12_tells_66 : decode cX12_tells 66 = .ok (.invokevirtual 375, 3) := by decide +kernel
theorem dX12_tells_69 : decode cX12_tells 69 = .ok (.isub, 1) := by decide +kernel
theorem dX12_tells_70 : decode cX12_tells 70 = .ok (.ireturn, 1) := by decide +kernel
theorem dX12_tells_71 : decode cX12_tells 71 = .ok (.aload_n 0, 1) := by decide +kernel
theorem dX12_tells_72 : decode cX12_tells 72 = .ok (.bipush 60, 2) := by decide +kernel
theorem dX12_tells_74 : decode cX12_tells 74 = .ok (.invokevirtual 363, 3) := by decide +kernel
theorem dX12_tells_77 : decode cX12_tells 77 = .ok (.aload_n 0, 1) := by decide +kernel
theorem dX12_tells_78 : decode cX12_tells 78 = .ok (.iload_n 1, 1) := by decide +kernel
theorem dX12_tells_79 : decode cX12_tells 79 = .ok (.iconst 3, 1) := by decide +kernel
theorem dX12_tells_80 : decode cX12_tells 80 = .ok (.iload_n 3, 1) := by decide +kernel
theorem dX12_tells_81 : decode cX12_tells 81 = .ok (.invokevirtual 378, 3) := by decide +kernel
theorem dX12_tells_84 : decode cX12_tells 84 = .ok (.iconst 5, 1) := by decide +kernel
theorem dX12_tells_85 : decode cX12_tells 85 = .ok (.ixor, 1) := by decide +kernel
theorem dX12_tells_86 : decode cX12_tells 86 = .ok (.ireturn, 1) := by decide +kernel
theorem dX12_tells_87 : decode cX12_tells 87 = .ok (.aload_n 0, 1) := by decide +kernel
theorem dX12_tells_88 : decode cX12_tells 88 = .ok (.bipush 81, 2) := by decide +kernel
theorem dX12_tells_90 : decode cX12_tells 90 = .ok (.invokevirtual 363, 3) := by decide +kernel
theorem dX12_tells_93 : decode cX12_tells 93 = .ok (.aload_n 0, 1) := by decide +kernel
theorem dX12_tells_94 : decode cX12_tells 94 = .ok (.iload_n 1, 1) := by decide +kernel
theorem dX12_tells_95 : decode cX12_tells 95 = .ok (.iconst 4, 1) := by decide +kernel
theorem dX12_tells_96 : decode cX12_tells 96 = .ok (.iload_n 3, 1) := by decide +kernel
theorem dX12_tells_97 : decode cX12_tells 97 = .ok (.invokevirtual 378, 3) := by decide +kernel
theorem dX12_tells_100 : decode cX12_tells 100 = .ok (.iconst 1, 1) := by decide +kernel
theorem dX12_tells_101 : decode cX12_tells 101 = .ok (.isub, 1) := by decide +kernel
theorem dX12_tells_102 : decode cX12_tells 102 = .ok (.ireturn, 1) := by decide +kernel
theorem dX12_tells_103 : decode cX12_tells 103 = .ok (.aload_n 0, 1) := by decide +kernel
theorem dX12_tells_104 : decode cX12_tells 104 = .ok (.iload_n 1, 1) := by decide +kernel
theorem dX12_tells_105 : decode cX12_tells 105 = .ok (.iload_n 2, 1) := by decide +kernel
theorem dX12_tells_106 : decode cX12_tells 106 = .ok (.invokestatic 369, 3) := by decide +kernel
theorem dX12_tells_109 : decode cX12_tells 109 = .ok (.iload_n 3, 1) := by decide +kernel
theorem dX12_tells_110 : decode cX12_tells 110 = .ok (.invokevirtual 378, 3) := by decide +kernel
theorem dX12_tells_113 : decode cX12_tells 113 = .ok (.ireturn, 1) := by decide +kernel
theorem dX12_body_0 : decode cX12_body 0 = .ok (.iload_n 1, 1) := by decide +kernel
theorem dX12_body_1 : decode cX12_body 1 = .ok (.iconst 0, 1) := by decide +kernel
theorem dX12_body_2 : decode cX12_body 2 = .ok (.bipush 7, 2) := by decide +kernel
theorem dX12_body_4 : decode cX12_body 4 = .ok (.invokestatic 128, 3) := by decide +kernel
theorem dX12_body_7 : decode cX12_body 7 = .ok (.ifCond .ne 5, 3) := by decide +kernel
theorem dX12_body_10 : decode cX12_body 10 = .ok (.iconst (-1), 1) := by decide +kernel
theorem dX12_body_11 : decode cX12_body 11 = .ok (.ireturn, 1) := by decide +kernel
theorem dX12_body_12 : decode cX12_body 12 = .ok (.aload_n 0, 1) := by decide +kernel
theorem dX12_body_13 : decode cX12_body 13 = .ok (.getfield 381, 3) := by decide +kernel
theorem dX12_body_16 : decode cX12_body 16 = .ok (.bipush 50, 2) := by decide +kernel
theorem dX12_body_18 : decode cX12_body 18 = .ok (.if_icmp .ne 6, 3) := by decide +kernel
theorem dX12_body_21 : decode cX12_body 21 = .ok (.bipush (-3), 2) := by decide +kernel
theorem dX12_body_23 : decode cX12_body 23 = .ok (.ireturn, 1) := by decide +kernel
theorem dX12_body_24 : decode cX12_body 24 = .ok (.aload_n 0, 1) := by decide +kernel
theorem dX12_body_25 : decode cX12_body 25 = .ok (.getfield 87, 3) := by decide +kernel
theorem dX12_body_28 : decode cX12_body 28 = .ok (.aload_n 0, 1) := by decide +kernel
theorem dX12_body_29 : decode cX12_body 29 = .ok (.getfield 381, 3) := by decide +kernel
theorem dX12_body_32 : decode cX12_body 32 = .ok (.iload_n 1, 1) := by decide +kernel
theorem dX12_body_33 : decode cX12_body 33 = .ok (.iastore, 1) := by decide +kernel
theorem dX12_body_34 : decode cX12_body 34 = .ok (.aload_n 0, 1) := by decide +kernel
theorem dX12_body_35 : decode cX12_body 35 = .ok (.dup, 1) := by decide +kernel
theorem dX12_body_36 : decode cX12_body 36 = .ok (.getfield 381, 3) := by decide +kernel
theorem dX12_body_39 : decode cX12_body 39 = .ok (.dup_x1, 1) := by decide +kernel
theorem dX12_body_40 : decode cX12_body 40 = .ok (.iconst 1, 1) := by decide +kernel
theorem dX12_body_41 : decode cX12_body 41 = .ok (.iadd, 1) := by decide +kernel
theorem dX12_body_42 : decode cX12_body 42 = .ok (.putfield 381, 3) := by decide +kernel
theorem dX12_body_45 : decode cX12_body 45 = .ok (.ireturn, 1) := by decide +kernel
theorem dX12_act_0 : decode cX12_act 0 = .ok (.aload_n 0, 1) := by decide +kernel
theorem dX12_act_1 : decode cX12_act 1 = .ok (.iconst 0, 1) := by decide +kernel
theorem dX12_act_2 : decode cX12_act 2 = .ok (.putfield 360, 3) := by decide +kernel
theorem dX12_act_5 : decode cX12_act 5 = .ok (.iload_n 1, 1) := by decide +kernel
theorem dX12_act_6 : decode cX12_act 6 = .ok (.iconst 0, 1) := by decide +kernel
theorem dX12_act_7 : decode cX12_act 7 = .ok (.aload_n 0, 1) := by decide +kernel
theorem dX12_act_8 : decode cX12_act 8 = .ok (.getfield 381, 3) := by decide +kernel
theorem dX12_act_11 : decode cX12_act 11 = .ok (.iconst 1, 1) := by decide +kernel
theorem dX12_act_12 : decode cX12_act 12 = .ok (.isub, 1) := by decide +kernel
theorem dX12_act_13 : decode cX12_act 13 = .ok (.invokestatic 128, 3) := by decide +kernel
theorem dX12_act_16 : decode cX12_act 16 = .ok (.ifCond .eq 12, 3) := by decide +kernel
theorem dX12_act_19 : decode cX12_act 19 = .ok (.iload_n 2, 1) := by decide +kernel
theorem dX12_act_20 : decode cX12_act 20 = .ok (.iconst 0, 1) := by decide +kernel
theorem dX12_act_21 : decode cX12_act 21 = .ok (.iconst 3, 1) := by decide +kernel
theorem dX12_act_22 : decode cX12_act 22 = .ok (.invokestatic 128, 3) := by decide +kernel
theorem dX12_act_25 : decode cX12_act 25 = .ok (.ifCond .ne 5, 3) := by decide +kernel
theorem dX12_act_28 : decode cX12_act 28 = .ok (.iconst 0, 1) := by decide +kernel
theorem dX12_act_29 : decode cX12_act 29 = .ok (.ireturn, 1) := by decide +kernel
theorem dX12_act_30 : decode cX12_act 30 = .ok (.aload_n 0, 1) := by decide +kernel
theorem dX12_act_31 : decode cX12_act 31 = .ok (.getfield 87, 3) := by decide +kernel
theorem dX12_act_34 : decode cX12_act 34 = .ok (.iload_n 1, 1) := by decide +kernel
theorem dX12_act_35 : decode cX12_act 35 = .ok (.iaload, 1) := by decide +kernel
theorem dX12_act_36 : decode cX12_act 36 = .ok (.istore 4, 2) := by decide +kernel
theorem dX12_act_38 : decode cX12_act 38 = .ok (.iload_n 2, 1) := by decide +kernel
theorem dX12_act_39 : decode cX12_act 39 = .ok (.ifCond .ne 14, 3) := by decide +kernel
theorem dX12_act_42 : decode cX12_act 42 = .ok (.aload_n 0, 1) := by decide +kernel
theorem dX12_act_43 : decode cX12_act 43 = .ok (.iload_n 1, 1) := by decide +kernel
theorem dX12_act_44 : decode cX12_act 44 = .ok (.iload 4, 2) := by decide +kernel
theorem dX12_act_46 : decode cX12_act 46 = .ok (.iload_n 3, 1) := by decide +kernel
theorem dX12_act_47 : decode cX12_act 47 = .ok (.invokevirtual 366, 3) := by decide +kernel
theorem dX12_act_50 : decode cX12_act 50 = .ok (.goto 43, 3) := by decide +kernel
theorem dX12_act_53 : decode cX12_act 53 = .ok (.iload_n 2, 1) := by decide +kernel
theorem dX12_act_54 : decode cX12_act 54 = .ok (.iconst 1, 1) := by decide +kernel
theorem dX12_act_55 : decode cX12_act 55 = .ok (.if_icmp .ne 14, 3) := by decide +kernel
theorem dX12_act_58 : decode cX12_act 58 = .ok (.aload_n 0, 1) := by decide +kernel
theorem dX12_act_59 : decode cX12_act 59 = .ok (.iload_n 1, 1) := by decide +kernel
theorem dX12_act_60 : decode cX12_act 60 = .ok (.iload 4, 2) := by decide +kernel
theorem dX12_act_62 : decode cX12_act 62 = .ok (.iload_n 3, 1) := by decide +kernel
theorem dX12_act_63 : decode cX12_act 63 = .ok (.invokevirtual 372, 3) := by decide +kernel
theorem dX12_act_66 : decode cX12_act 66 = .ok (.goto 27, 3) := by decide +kernel
theorem dX12_act_69 : decode cX12_act 69 = .ok (.iload_n 2, 1) := by decide +kernel
theorem dX12_act_70 : decode cX12_act 70 = .ok (.iconst 2, 1) := by decide +kernel
theorem dX12_act_71 : decode cX12_act 71 = .ok (.if_icmp .ne 14, 3) := by decide +kernel
theorem dX12_act_74 : decode cX12_act 74 = .ok (.aload_n 0, 1) := by decide +kernel
theorem dX12_act_75 : decode cX12_act 75 = .ok (.iload_n 1, 1) := by decide +kernel
theorem dX12_act_76 : decode cX12_act 76 = .ok (.iload 4, 2) := by decide +kernel
theorem dX12_act_78 : decode cX12_act 78 = .ok (.iload_n 3, 1) := by decide +kernel
theorem dX12_act_79 : decode cX12_act 79 = .ok (.invokevirtual 375, 3) := by decide +kernel
theorem dX12_act_82 : decode cX12_act 82 = .ok (.goto 11, 3) := by decide +kernel
theorem dX12_act_85 : decode cX12_act 85 = .ok (.aload_n 0, 1) := by decide +kernel
theorem dX12_act_86 : decode cX12_act 86 = .ok (.iload_n 1, 1) := by decide +kernel
theorem dX12_act_87 : decode cX12_act 87 = .ok (.iload 4, 2) := by decide +kernel
theorem dX12_act_89 : decode cX12_act 89 = .ok (.iload_n 3, 1) := by decide +kernel
theorem dX12_act_90 : decode cX12_act 90 = .ok (.invokevirtual 378, 3) := by decide +kernel
theorem dX12_act_93 : decode cX12_act 93 = .ok (.ireturn, 1) := by decide +kernel
theorem dX12_trace_0 : decode cX12_trace 0 = .ok (.iload_n 1, 1) := by decide +kernel
theorem dX12_trace_1 : decode cX12_trace 1 = .ok (.iconst 0, 1) := by decide +kernel
theorem dX12_trace_2 : decode cX12_trace 2 = .ok (.bipush 24, 2) := by decide +kernel
theorem dX12_trace_4 : decode cX12_trace 4 = .ok (.aload_n 0, 1) := by decide +kernel
theorem dX12_trace_5 : decode cX12_trace 5 = .ok (.getfield 360, 3) := by decide +kernel
theorem dX12_trace_8 : decode cX12_trace 8 = .ok (.invokestatic 232, 3) := by decide +kernel
theorem dX12_trace_11 : decode cX12_trace 11 = .ok (.iconst 1, 1) := by decide +kernel
theorem dX12_trace_12 : decode cX12_trace 12 = .ok (.isub, 1) := by decide +kernel
theorem dX12_trace_13 : decode cX12_trace 13 = .ok (.invokestatic 128, 3) := by decide +kernel
theorem dX12_trace_16 : decode cX12_trace 16 = .ok (.ifCond .eq 12, 3) := by decide +kernel
theorem dX12_trace_19 : decode cX12_trace 19 = .ok (.aload_n 0, 1) := by decide +kernel
theorem dX12_trace_20 : decode cX12_trace 20 = .ok (.getfield 90, 3) := by decide +kernel
theorem dX12_trace_23 : decode cX12_trace 23 = .ok (.iload_n 1, 1) := by decide +kernel
theorem dX12_trace_24 : decode cX12_trace 24 = .ok (.iaload, 1) := by decide +kernel
theorem dX12_trace_25 : decode cX12_trace 25 = .ok (.goto 4, 3) := by decide +kernel
theorem dX12_trace_28 : decode cX12_trace 28 = .ok (.iconst (-1), 1) := by decide +kernel
theorem dX12_trace_29 : decode cX12_trace 29 = .ok (.ireturn, 1) := by decide +kernel
theorem dX12_keep_0 : decode cX12_keep 0 = .ok (.iload_n 1, 1) := by decide +kernel
theorem dX12_keep_1 : decode cX12_keep 1 = .ok (.invokestatic 140, 3) := by decide +kernel
theorem dX12_keep_4 : decode cX12_keep 4 = .ok (.ifCond .eq 17, 3) := by decide +kernel
theorem dX12_keep_7 : decode cX12_keep 7 = .ok (.iload_n 2, 1) := by decide +kernel
theorem dX12_keep_8 : decode cX12_keep 8 = .ok (.iconst (-1), 1) := by decide +kernel
theorem dX12_keep_9 : decode cX12_keep 9 = .ok (.aload_n 0, 1) := by decide +kernel
theorem dX12_keep_10 : decode cX12_keep 10 = .ok (.getfield 381, 3) := by decide +kernel
theorem dX12_keep_13 : decode cX12_keep 13 = .ok (.iconst 1, 1) := by decide +kernel
theorem dX12_keep_14 : decode cX12_keep 14 = .ok (.isub, 1) := by decide +kernel
theorem dX12_keep_15 : decode cX12_keep 15 = .ok (.invokestatic 128, 3) := by decide +kernel
theorem dX12_keep_18 : decode cX12_keep 18 = .ok (.ifCond .ne 5, 3) := by decide +kernel
theorem dX12_keep_21 : decode cX12_keep 21 = .ok (.iconst (-1), 1) := by decide +kernel
theorem dX12_keep_22 : decode cX12_keep 22 = .ok (.ireturn, 1) := by decide +kernel
theorem dX12_keep_23 : decode cX12_keep 23 = .ok (.aload_n 0, 1) := by decide +kernel
theorem dX12_keep_24 : decode cX12_keep 24 = .ok (.getfield 93, 3) := by decide +kernel
theorem dX12_keep_27 : decode cX12_keep 27 = .ok (.iload_n 1, 1) := by decide +kernel
theorem dX12_keep_28 : decode cX12_keep 28 = .ok (.iload_n 2, 1) := by decide +kernel
theorem dX12_keep_29 : decode cX12_keep 29 = .ok (.ifCond .ge 7, 3) := by decide +kernel
theorem dX12_keep_32 : decode cX12_keep 32 = .ok (.iconst (-1), 1) := by decide +kernel
theorem dX12_keep_33 : decode cX12_keep 33 = .ok (.goto 7, 3) := by decide +kernel
theorem dX12_keep_36 : decode cX12_keep 36 = .ok (.bipush 10, 2) := by decide +kernel
theorem dX12_keep_38 : decode cX12_keep 38 = .ok (.iload_n 2, 1) := by decide +kernel
theorem dX12_keep_39 : decode cX12_keep 39 = .ok (.iadd, 1) := by decide +kernel
theorem dX12_keep_40 : decode cX12_keep 40 = .ok (.iastore, 1) := by decide +kernel
theorem dX12_keep_41 : decode cX12_keep 41 = .ok (.aload_n 0, 1) := by decide +kernel
theorem dX12_keep_42 : decode cX12_keep 42 = .ok (.getfield 96, 3) := by decide +kernel
theorem dX12_keep_45 : decode cX12_keep 45 = .ok (.iload_n 1, 1) := by decide +kernel
theorem dX12_keep_46 : decode cX12_keep 46 = .ok (.iconst 0, 1) := by decide +kernel
theorem dX12_keep_47 : decode cX12_keep 47 = .ok (.iastore, 1) := by decide +kernel
theorem dX12_keep_48 : decode cX12_keep 48 = .ok (.iconst 1, 1) := by decide +kernel
theorem dX12_keep_49 : decode cX12_keep 49 = .ok (.ireturn, 1) := by decide +kernel
theorem dX12_row_0 : decode cX12_row 0 = .ok (.iload_n 1, 1) := by decide +kernel
theorem dX12_row_1 : decode cX12_row 1 = .ok (.invokestatic 140, 3) := by decide +kernel
theorem dX12_row_4 : decode cX12_row 4 = .ok (.ifCond .eq 18, 3) := by decide +kernel
theorem dX12_row_7 : decode cX12_row 7 = .ok (.iload_n 2, 1) := by decide +kernel
theorem dX12_row_8 : decode cX12_row 8 = .ok (.iconst 0, 1) := by decide +kernel
theorem dX12_row_9 : decode cX12_row 9 = .ok (.iconst 4, 1) := by decide +kernel
theorem dX12_row_10 : decode cX12_row 10 = .ok (.invokestatic 128, 3) := by decide +kernel
theorem dX12_row_13 : decode cX12_row 13 = .ok (.ifCond .eq 9, 3) := by decide +kernel
theorem dX12_row_16 : decode cX12_row 16 = .ok (.iload_n 3, 1) := by decide +kernel
theorem dX12_row_17 : decode cX12_row 17 = .ok (.bipush 60, 2) := by decide +kernel
theorem dX12_row_19 : decode cX12_row 19 = .ok (.if_icmp .le 5, 3) := by decide +kernel
theorem dX12_row_22 : decode cX12_row 22 = .ok (.iconst (-1), 1) := by decide +kernel
theorem dX12_row_23 : decode cX12_row 23 = .ok (.ireturn, 1) := by decide +kernel
theorem dX12_row_24 : decode cX12_row 24 = .ok (.iload_n 3, 1) := by decide +kernel
theorem dX12_row_25 : decode cX12_row 25 = .ok (.ifCond .ge 6, 3) := by decide +kernel
theorem dX12_row_28 : decode cX12_row 28 = .ok (.bipush (-14), 2) := by decide +kernel
theorem dX12_row_30 : decode cX12_row 30 = .ok (.ireturn, 1) := by decide +kernel
theorem dX12_row_31 : decode cX12_row 31 = .ok (.aload_n 0, 1) := by decide +kernel
theorem dX12_row_32 : decode cX12_row 32 = .ok (.getfield 93, 3) := by decide +kernel
theorem dX12_row_35 : decode cX12_row 35 = .ok (.iload_n 1, 1) := by decide +kernel
theorem dX12_row_36 : decode cX12_row 36 = .ok (.iload_n 2, 1) := by decide +kernel
theorem dX12_row_37 : decode cX12_row 37 = .ok (.iastore, 1) := by decide +kernel
theorem dX12_row_38 : decode cX12_row 38 = .ok (.aload_n 0, 1) := by decide +kernel
theorem dX12_row_39 : decode cX12_row 39 = .ok (.getfield 96, 3) := by decide +kernel
theorem dX12_row_42 : decode cX12_row 42 = .ok (.iload_n 1, 1) := by decide +kernel
theorem dX12_row_43 : decode cX12_row 43 = .ok (.iload_n 3, 1) := by decide +kernel
theorem dX12_row_44 : decode cX12_row 44 = .ok (.iastore, 1) := by decide +kernel
theorem dX12_row_45 : decode cX12_row 45 = .ok (.iconst 0, 1) := by decide +kernel
theorem dX12_row_46 : decode cX12_row 46 = .ok (.istore 4, 2) := by decide +kernel
theorem dX12_row_48 : decode cX12_row 48 = .ok (.iload 4, 2) := by decide +kernel
theorem dX12_row_50 : decode cX12_row 50 = .ok (.bipush 60, 2) := by decide +kernel
theorem dX12_row_52 : decode cX12_row 52 = .ok (.if_icmp .ge 22, 3) := by decide +kernel
theorem dX12_row_55 : decode cX12_row 55 = .ok (.aload_n 0, 1) := by decide +kernel
theorem dX12_row_56 : decode cX12_row 56 = .ok (.getfield 99, 3) := by decide +kernel
theorem dX12_row_59 : decode cX12_row 59 = .ok (.bipush 60, 2) := by decide +kernel
theorem dX12_row_61 : decode cX12_row 61 = .ok (.iload_n 1, 1) := by decide +kernel
theorem dX12_row_62 : decode cX12_row 62 = .ok (.imul, 1) := by decide +kernel
theorem dX12_row_63 : decode cX12_row 63 = .ok (.iload 4, 2) := by decide +kernel
theorem dX12_row_65 : decode cX12_row 65 = .ok (.iadd, 1) := by decide +kernel
theorem dX12_row_66 : decode cX12_row 66 = .ok (.lconst 0, 1) := by decide +kernel
theorem dX12_row_67 : decode cX12_row 67 = .ok (.lastore, 1) := by decide +kernel
theorem dX12_row_68 : decode cX12_row 68 = .ok (.iinc 4 1, 3) := by decide +kernel
theorem dX12_row_71 : decode cX12_row 71 = .ok (.goto (-23), 3) := by decide +kernel
theorem dX12_row_74 : decode cX12_row 74 = .ok (.iconst 1, 1) := by decide +kernel
theorem dX12_row_75 : decode cX12_row 75 = .ok (.ireturn, 1) := by decide +kernel
theorem dX12_isRow_0 : decode cX12_isRow 0 = .ok (.aload_n 0, 1) := by decide +kernel
theorem dX12_isRow_1 : decode cX12_isRow 1 = .ok (.getfield 93, 3) := by decide +kernel
theorem dX12_isRow_4 : decode cX12_isRow 4 = .ok (.iload_n 1, 1) := by decide +kernel
theorem dX12_isRow_5 : decode cX12_isRow 5 = .ok (.iaload, 1) := by decide +kernel
theorem dX12_isRow_6 : decode cX12_isRow 6 = .ok (.iconst 0, 1) := by decide +kernel
theorem dX12_isRow_7 : decode cX12_isRow 7 = .ok (.iconst 4, 1) := by decide +kernel
theorem dX12_isRow_8 : decode cX12_isRow 8 = .ok (.invokestatic 128, 3) := by decide +kernel
theorem dX12_isRow_11 : decode cX12_isRow 11 = .ok (.ireturn, 1) := by decide +kernel
theorem dX12_kept_0 : decode cX12_kept 0 = .ok (.iload_n 0, 1) := by decide +kernel
theorem dX12_kept_1 : decode cX12_kept 1 = .ok (.tableswitch 47 0 3 #[31, 36, 41, 45], 31) := by decide +kernel
theorem dX12_kept_32 : decode cX12_kept 32 = .ok (.lload_n 1, 1) := by decide +kernel
theorem dX12_kept_33 : decode cX12_kept 33 = .ok (.l2i, 1) := by decide +kernel
theorem dX12_kept_34 : decode cX12_kept 34 = .ok (.i2b, 1) := by decide +kernel
theorem dX12_kept_35 : decode cX12_kept 35 = .ok (.i2l, 1) := by decide +kernel
theorem dX12_kept_36 : decode cX12_kept 36 = .ok (.lreturn, 1) := by decide +kernel
theorem dX12_kept_37 : decode cX12_kept 37 = .ok (.lload_n 1, 1) := by decide +kernel
theorem dX12_kept_38 : decode cX12_kept 38 = .ok (.l2i, 1) := by decide +kernel
theorem dX12_kept_39 : decode cX12_kept 39 = .ok (.i2s, 1) := by decide +kernel
theorem dX12_kept_40 : decode cX12_kept 40 = .ok (.i2l, 1) := by decide +kernel
theorem dX12_kept_41 : decode cX12_kept 41 = .ok (.lreturn, 1) := by decide +kernel
theorem dX12_kept_42 : decode cX12_kept 42 = .ok (.lload_n 1, 1) := by decide +kernel
theorem dX12_kept_43 : decode cX12_kept 43 = .ok (.l2i, 1) := by decide +kernel
theorem dX12_kept_44 : decode cX12_kept 44 = .ok (.i2l, 1) := by decide +kernel
theorem dX12_kept_45 : decode cX12_kept 45 = .ok (.lreturn, 1) := by decide +kernel
theorem dX12_kept_46 : decode cX12_kept 46 = .ok (.lload_n 1, 1) := by decide +kernel
theorem dX12_kept_47 : decode cX12_kept 47 = .ok (.lreturn, 1) := by decide +kernel
theorem dX12_kept_48 : decode cX12_kept 48 = .ok (.lload_n 1, 1) := by decide +kernel
theorem dX12_kept_49 : decode cX12_kept 49 = .ok (.lconst 0, 1) := by decide +kernel
theorem dX12_kept_50 : decode cX12_kept 50 = .ok (.lcmp, 1) := by decide +kernel
theorem dX12_kept_51 : decode cX12_kept 51 = .ok (.ifCond .eq 7, 3) := by decide +kernel
theorem dX12_kept_54 : decode cX12_kept 54 = .ok (.lconst 1, 1) := by decide +kernel
theorem dX12_kept_55 : decode cX12_kept 55 = .ok (.goto 4, 3) := by decide +kernel
theorem dX12_kept_58 : decode cX12_kept 58 = .ok (.lconst 0, 1) := by decide +kernel
theorem dX12_kept_59 : decode cX12_kept 59 = .ok (.lreturn, 1) := by decide +kernel
theorem dX12_put_0 : decode cX12_put 0 = .ok (.iload_n 1, 1) := by decide +kernel
theorem dX12_put_1 : decode cX12_put 1 = .ok (.invokestatic 140, 3) := by decide +kernel
theorem dX12_put_4 : decode cX12_put 4 = .ok (.ifCond .ne 5, 3) := by decide +kernel
theorem dX12_put_7 : decode cX12_put 7 = .ok (.iconst (-1), 1) := by decide +kernel
theorem dX12_put_8 : decode cX12_put 8 = .ok (.ireturn, 1) := by decide +kernel
theorem dX12_put_9 : decode cX12_put 9 = .ok (.aload_n 0, 1) := by decide +kernel
theorem dX12_put_10 : decode cX12_put 10 = .ok (.getfield 93, 3) := by decide +kernel
theorem dX12_put_13 : decode cX12_put 13 = .ok (.iload_n 1, 1) := by decide +kernel
theorem dX12_put_14 : decode cX12_put 14 = .ok (.iaload, 1) := by decide +kernel
theorem dX12_put_15 : decode cX12_put 15 = .ok (.iconst (-1), 1) := by decide +kernel
theorem dX12_put_16 : decode cX12_put 16 = .ok (.if_icmp .ne 6, 3) := by decide +kernel
theorem dX12_put_19 : decode cX12_put 19 = .ok (.bipush (-11), 2) := by decide +kernel
theorem dX12_put_21 : decode cX12_put 21 = .ok (.ireturn, 1) := by decide +kernel
theorem dX12_put_22 : decode cX12_put 22 = .ok (.aload_n 0, 1) := by decide +kernel
theorem dX12_put_23 : decode cX12_put 23 = .ok (.iload_n 1, 1) := by decide +kernel
theorem dX12_put_24 : decode cX12_put 24 = .ok (.invokevirtual 384, 3) := by decide +kernel
theorem dX12_put_27 : decode cX12_put 27 = .ok (.ifCond .ne 6, 3) := by decide +kernel
theorem dX12_put_30 : decode cX12_put 30 = .ok (.bipush (-12), 2) := by decide +kernel
theorem dX12_put_32 : decode cX12_put 32 = .ok (.ireturn, 1) := by decide +kernel
theorem dX12_put_33 : decode cX12_put 33 = .ok (.iload_n 2, 1) := by decide +kernel
theorem dX12_put_34 : decode cX12_put 34 = .ok (.iconst 0, 1) := by decide +kernel
theorem dX12_put_35 : decode cX12_put 35 = .ok (.aload_n 0, 1) := by decide +kernel
theorem dX12_put_36 : decode cX12_put 36 = .ok (.getfield 96, 3) := by decide +kernel
theorem dX12_put_39 : decode cX12_put 39 = .ok (.iload_n 1, 1) := by decide +kernel
theorem dX12_put_40 : decode cX12_put 40 = .ok (.iaload, 1) := by decide +kernel
theorem dX12_put_41 : decode cX12_put 41 = .ok (.iconst 1, 1) := by decide +kernel
theorem dX12_put_42 : decode cX12_put 42 = .ok (.isub, 1) := by decide +kernel
theorem dX12_put_43 : decode cX12_put 43 = .ok (.invokestatic 128, 3) := by decide +kernel
theorem dX12_put_46 : decode cX12_put 46 = .ok (.ifCond .ne 6, 3) := by decide +kernel
theorem dX12_put_49 : decode cX12_put 49 = .ok (.bipush (-13), 2) := by decide +kernel
theorem dX12_put_51 : decode cX12_put 51 = .ok (.ireturn, 1) := by decide +kernel
theorem dX12_put_52 : decode cX12_put 52 = .ok (.aload_n 0, 1) := by decide +kernel
theorem dX12_put_53 : decode cX12_put 53 = .ok (.getfield 99, 3) := by decide +kernel
theorem dX12_put_56 : decode cX12_put 56 = .ok (.bipush 60, 2) := by decide +kernel
theorem dX12_put_58 : decode cX12_put 58 = .ok (.iload_n 1, 1) := by decide +kernel
theorem dX12_put_59 : decode cX12_put 59 = .ok (.imul, 1) := by decide +kernel
theorem dX12_put_60 : decode cX12_put 60 = .ok (.iload_n 2, 1) := by decide +kernel
theorem dX12_put_61 : decode cX12_put 61 = .ok (.iadd, 1) := by decide +kernel
theorem dX12_put_62 : decode cX12_put 62 = .ok (.aload_n 0, 1) := by decide +kernel
theorem dX12_put_63 : decode cX12_put 63 = .ok (.getfield 93, 3) := by decide +kernel
theorem dX12_put_66 : decode cX12_put 66 = .ok (.iload_n 1, 1) := by decide +kernel
theorem dX12_put_67 : decode cX12_put 67 = .ok (.iaload, 1) := by decide +kernel
theorem dX12_put_68 : decode cX12_put 68 = .ok (.lload_n 3, 1) := by decide +kernel
theorem dX12_put_69 : decode cX12_put 69 = .ok (.invokestatic 387, 3) := by decide +kernel
theorem dX12_put_72 : decode cX12_put 72 = .ok (.lastore, 1) := by decide +kernel
theorem dX12_put_73 : decode cX12_put 73 = .ok (.iconst 1, 1) := by decide +kernel
theorem dX12_put_74 : decode cX12_put 74 = .ok (.ireturn, 1) := by decide +kernel
theorem dX12_element_0 : decode cX12_element 0 = .ok (.iload_n 1, 1) := by decide +kernel
theorem dX12_element_1 : decode cX12_element 1 = .ok (.invokestatic 140, 3) := by decide +kernel
theorem dX12_element_4 : decode cX12_element 4 = .ok (.ifCond .eq 41, 3) := by decide +kernel
theorem dX12_element_7 : decode cX12_element 7 = .ok (.aload_n 0, 1) := by decide +kernel
theorem dX12_element_8 : decode cX12_element 8 = .ok (.iload_n 1, 1) := by decide +kernel
theorem dX12_element_9 : decode cX12_element 9 = .ok (.invokevirtual 384, 3) := by decide +kernel
theorem dX12_element_12 : decode cX12_element 12 = .ok (.ifCond .eq 33, 3) := by decide +kernel
theorem dX12_element_15 : decode cX12_element 15 = .ok (.iload_n 2, 1) := by decide +kernel
theorem dX12_element_16 : decode cX12_element 16 = .ok (.iconst 0, 1) := by decide +kernel
theorem dX12_element_17 : decode cX12_element 17 = .ok (.aload_n 0, 1) := by decide +kernel
theorem dX12_element_18 : decode cX12_element 18 = .ok (.getfield 96, 3) := by decide +kernel
theorem dX12_element_21 : decode cX12_element 21 = .ok (.iload_n 1, 1) := by decide +kernel
theorem dX12_element_22 : decode cX12_element 22 = .ok (.iaload, 1) := by decide +kernel
theorem dX12_element_23 : decode cX12_element 23 = .ok (.iconst 1, 1) := by decide +kernel
theorem dX12_element_24 : decode cX12_element 24 = .ok (.isub, 1) := by decide +kernel
theorem dX12_element_25 : decode cX12_element 25 = .ok (.invokestatic 128, 3) := by decide +kernel
theorem dX12_element_28 : decode cX12_element 28 = .ok (.ifCond .eq 17, 3) := by decide +kernel
theorem dX12_element_31 : decode cX12_element 31 = .ok (.aload_n 0, 1) := by decide +kernel
theorem dX12_element_32 : decode cX12_element 32 = .ok (.getfield 99, 3) := by decide +kernel
theorem dX12_element_35 : decode cX12_element 35 = .ok (.bipush 60, 2) := by decide +kernel
theorem dX12_element_37 : decode cX12_element 37 = .ok (.iload_n 1, 1) := by decide +kernel
theorem dX12_element_38 : decode cX12_element 38 = .ok (.imul, 1) := by decide +kernel
theorem dX12_element_39 : decode cX12_element 39 = .ok (.iload_n 2, 1) := by decide +kernel
theorem dX12_element_40 : decode cX12_element 40 = .ok (.iadd, 1) := by decide +kernel
theorem dX12_element_41 : decode cX12_element 41 = .ok (.laload, 1) := by decide +kernel
theorem dX12_element_42 : decode cX12_element 42 = .ok (.goto 6, 3) := by decide +kernel
theorem dX12_element_45 : decode cX12_element 45 = .ok (.ldc2_w 391, 3) := by decide +kernel
theorem dX12_element_48 : decode cX12_element 48 = .ok (.lreturn, 1) := by decide +kernel
theorem dX12_shift_0 : decode cX12_shift 0 = .ok (.iload_n 1, 1) := by decide +kernel
theorem dX12_shift_1 : decode cX12_shift 1 = .ok (.invokestatic 140, 3) := by decide +kernel
theorem dX12_shift_4 : decode cX12_shift 4 = .ok (.ifCond .eq 10, 3) := by decide +kernel
theorem dX12_shift_7 : decode cX12_shift 7 = .ok (.iload_n 3, 1) := by decide +kernel
theorem dX12_shift_8 : decode cX12_shift 8 = .ok (.invokestatic 140, 3) := by decide +kernel
theorem dX12_shift_11 : decode cX12_shift 11 = .ok (.ifCond .ne 5, 3) := by decide +kernel
theorem dX12_shift_14 : decode cX12_shift 14 = .ok (.iconst (-1), 1) := by decide +kernel
theorem dX12_shift_15 : decode cX12_shift 15 = .ok (.ireturn, 1) := by decide +kernel
theorem dX12_shift_16 : decode cX12_shift 16 = .ok (.aload_n 0, 1) := by decide +kernel
theorem dX12_shift_17 : decode cX12_shift 17 = .ok (.getfield 93, 3) := by decide +kernel
theorem dX12_shift_20 : decode cX12_shift 20 = .ok (.iload_n 1, 1) := by decide +kernel
theorem dX12_shift_21 : decode cX12_shift 21 = .ok (.iaload, 1) := by decide +kernel
theorem dX12_shift_22 : decode cX12_shift 22 = .ok (.iconst (-1), 1) := by decide +kernel
theorem dX12_shift_23 : decode cX12_shift 23 = .ok (.if_icmp .eq 13, 3) := by decide +kernel
theorem dX12_shift_26 : decode cX12_shift 26 = .ok (.aload_n 0, 1) := by decide +kernel
theorem dX12_shift_27 : decode cX12_shift 27 = .ok (.getfield 93, 3) := by decide +kernel
theorem dX12_shift_30 : decode cX12_shift 30 = .ok (.iload_n 3, 1) := by decide +kernel
theorem dX12_shift_31 : decode cX12_shift 31 = .ok (.iaload, 1) := by decide +kernel
theorem dX12_shift_32 : decode cX12_shift 32 = .ok (.iconst (-1), 1) := by decide +kernel
theorem dX12_shift_33 : decode cX12_shift 33 = .ok (.if_icmp .ne 6, 3) := by decide +kernel
theorem dX12_shift_36 : decode cX12_shift 36 = .ok (.bipush (-11), 2) := by decide +kernel
theorem dX12_shift_38 : decode cX12_shift 38 = .ok (.ireturn, 1) := by decide +kernel
theorem dX12_shift_39 : decode cX12_shift 39 = .ok (.aload_n 0, 1) := by decide +kernel
theorem dX12_shift_40 : decode cX12_shift 40 = .ok (.iload_n 1, 1) := by decide +kernel
theorem dX12_shift_41 : decode cX12_shift 41 = .ok (.invokevirtual 384, 3) := by decide +kernel
theorem dX12_shift_44 : decode cX12_shift 44 = .ok (.ifCond .eq 26, 3) := by decide +kernel
theorem dX12_shift_47 : decode cX12_shift 47 = .ok (.aload_n 0, 1) := by decide +kernel
theorem dX12_shift_48 : decode cX12_shift 48 = .ok (.iload_n 3, 1) := by decide +kernel
theorem dX12_shift_49 : decode cX12_shift 49 = .ok (.invokevirtual 384, 3) := by decide +kernel
theorem dX12_shift_52 : decode cX12_shift 52 = .ok (.ifCond .eq 18, 3) := by decide +kernel
theorem dX12_shift_55 : decode cX12_shift 55 = .ok (.aload_n 0, 1) := by decide +kernel
theorem dX12_shift_56 : decode cX12_shift 56 = .ok (.getfield 93, 3) := by decide +kernel
theorem dX12_shift_59 : decode cX12_shift 59 = .ok (.iload_n 1, 1) := by decide +kernel
theorem dX12_shift_60 : decode cX12_shift 60 = .ok (.iaload, 1) := by decide +kernel
theorem dX12_shift_61 : decode cX12_shift 61 = .ok (.aload_n 0, 1) := by decide +kernel
theorem dX12_shift_62 : decode cX12_shift 62 = .ok (.getfield 93, 3) := by decide +kernel
theorem dX12_shift_65 : decode cX12_shift 65 = .ok (.iload_n 3, 1) := by decide +kernel
theorem dX12_shift_66 : decode cX12_shift 66 = .ok (.iaload, 1) := by decide +kernel
theorem dX12_shift_67 : decode cX12_shift 67 = .ok (.if_icmp .eq 6, 3) := by decide +kernel
theorem dX12_shift_70 : decode cX12_shift 70 = .ok (.bipush (-12), 2) := by decide +kernel
theorem dX12_shift_72 : decode cX12_shift 72 = .ok (.ireturn, 1) := by decide +kernel
theorem dX12_shift_73 : decode cX12_shift 73 = .ok (.iload 5, 2) := by decide +kernel
theorem dX12_shift_75 : decode cX12_shift 75 = .ok (.ifCond .lt 47, 3) := by decide +kernel
theorem dX12_shift_78 : decode cX12_shift 78 = .ok (.iload_n 2, 1) := by decide +kernel
theorem dX12_shift_79 : decode cX12_shift 79 = .ok (.ifCond .lt 43, 3) := by decide +kernel
theorem dX12_shift_82 : decode cX12_shift 82 = .ok (.iload 4, 2) := by decide +kernel
theorem dX12_shift_84 : decode cX12_shift 84 = .ok (.ifCond .lt 38, 3) := by decide +kernel
theorem dX12_shift_87 : decode cX12_shift 87 = .ok (.iload_n 2, 1) := by decide +kernel
theorem dX12_shift_88 : decode cX12_shift 88 = .ok (.i2l, 1) := by decide +kernel
theorem dX12_shift_89 : decode cX12_shift 89 = .ok (.iload 5, 2) := by decide +kernel
theorem dX12_shift_91 : decode cX12_shift 91 = .ok (.i2l, 1) := by decide +kernel
theorem dX12_shift_92 : decode cX12_shift 92 = .ok (.ladd, 1) := by decide +kernel
theorem dX12_shift_93 : decode cX12_shift 93 = .ok (.aload_n 0, 1) := by decide +kernel
theorem dX12_shift_94 : decode cX12_shift 94 = .ok (.getfield 96, 3) := by decide +kernel
theorem dX12_shift_97 : decode cX12_shift 97 = .ok (.iload_n 1, 1) := by decide +kernel
theorem dX12_shift_98 : decode cX12_shift 98 = .ok (.iaload, 1) := by decide +kernel
theorem dX12_shift_99 : decode cX12_shift 99 = .ok (.i2l, 1) := by decide +kernel
theorem dX12_shift_100 : decode cX12_shift 100 = .ok (.lcmp, 1) := by decide +kernel
theorem dX12_shift_101 : decode cX12_shift 101 = .ok (.ifCond .gt 21, 3) := by decide +kernel
theorem dX12_shift_104 : decode cX12_shift 104 = .ok (.iload 4, 2) := by decide +kernel
theorem dX12_shift_106 : decode cX12_shift 106 = .ok (.i2l, 1) := by decide +kernel
theorem dX12_shift_107 : decode cX12_shift 107 = .ok (.iload 5, 2) := by decide +kernel
theorem dX12_shift_109 : decode cX12_shift 109 = .ok (.i2l, 1) := by decide +kernel
theorem dX12_shift_110 : decode cX12_shift 110 = .ok (.ladd, 1) := by decide +kernel
theorem dX12_shift_111 : decode cX12_shift 111 = .ok (.aload_n 0, 1) := by decide +kernel
theorem dX12_shift_112 : decode cX12_shift 112 = .ok (.getfield 96, 3) := by decide +kernel
theorem dX12_shift_115 : decode cX12_shift 115 = .ok (.iload_n 3, 1) := by decide +kernel
theorem dX12_shift_116 : decode cX12_shift 116 = .ok (.iaload, 1) := by decide +kernel
theorem dX12_shift_117 : decode cX12_shift 117 = .ok (.i2l, 1) := by decide +kernel
theorem dX12_shift_118 : decode cX12_shift 118 = .ok (.lcmp, 1) := by decide +kernel
theorem dX12_shift_119 : decode cX12_shift 119 = .ok (.ifCond .le 6, 3) := by decide +kernel
theorem dX12_shift_122 : decode cX12_shift 122 = .ok (.bipush (-13), 2) := by decide +kernel
theorem dX12_shift_124 : decode cX12_shift 124 = .ok (.ireturn, 1) := by decide +kernel
theorem dX12_shift_125 : decode cX12_shift 125 = .ok (.iload_n 1, 1) := by decide +kernel
theorem dX12_shift_126 : decode cX12_shift 126 = .ok (.iload_n 3, 1) := by decide +kernel
theorem dX12_shift_127 : decode cX12_shift 127 = .ok (.if_icmp .ne 58, 3) := by decide +kernel
theorem dX12_shift_130 : decode cX12_shift 130 = .ok (.iload_n 2, 1) := by decide +kernel
theorem dX12_shift_131 : decode cX12_shift 131 = .ok (.iload 4, 2) := by decide +kernel
theorem dX12_shift_133 : decode cX12_shift 133 = .ok (.if_icmp .ge 52, 3) := by decide +kernel
theorem dX12_shift_136 : decode cX12_shift 136 = .ok (.iload 5, 2) := by decide +kernel
theorem dX12_shift_138 : decode cX12_shift 138 = .ok (.iconst 1, 1) := by decide +kernel
theorem dX12_shift_139 : decode cX12_shift 139 = .ok (.isub, 1) := by decide +kernel
theorem dX12_shift_140 : decode cX12_shift 140 = .ok (.istore 6, 2) := by decide +kernel
theorem dX12_shift_142 : decode cX12_shift 142 = .ok (.iload 6, 2) := by decide +kernel
theorem dX12_shift_144 : decode cX12_shift 144 = .ok (.ifCond .lt 38, 3) := by decide +kernel
theorem dX12_shift_147 : decode cX12_shift 147 = .ok (.aload_n 0, 1) := by decide +kernel
theorem dX12_shift_148 : decode cX12_shift 148 = .ok (.getfield 99, 3) := by decide +kernel
theorem dX12_shift_151 : decode cX12_shift 151 = .ok (.bipush 60, 2) := by decide +kernel
theorem dX12_shift_153 : decode cX12_shift 153 = .ok (.iload_n 3, 1) := by decide +kernel
theorem dX12_shift_154 : decode cX12_shift 154 = .ok (.imul, 1) := by decide +kernel
theorem dX12_shift_155 : decode cX12_shift 155 = .ok (.iload 4, 2) := by decide +kernel
theorem dX12_shift_157 : decode cX12_shift 157 = .ok (.iadd, 1) := by decide +kernel
theorem dX12_shift_158 : decode cX12_shift 158 = .ok (.iload 6, 2) := by decide +kernel
theorem dX12_shift_160 : decode cX12_shift 160 = .ok (.iadd, 1) := by decide +kernel
theorem dX12_shift_161 : decode cX12_shift 161 = .ok (.aload_n 0, 1) := by decide +kernel
theorem dX12_shift_162 : decode cX12_shift 162 = .ok (.getfield 99, 3) := by decide +kernel
theorem dX12_shift_165 : decode cX12_shift 165 = .ok (.bipush 60, 2) := by decide +kernel
theorem dX12_shift_167 : decode cX12_shift 167 = .ok (.iload_n 1, 1) := by decide +kernel
theorem dX12_shift_168 : decode cX12_shift 168 = .ok (.imul, 1) := by decide +kernel
theorem dX12_shift_169 : decode cX12_shift 169 = .ok (.iload_n 2, 1) := by decide +kernel
theorem dX12_shift_170 : decode cX12_shift 170 = .ok (.iadd, 1) := by decide +kernel
theorem dX12_shift_171 : decode cX12_shift 171 = .ok (.iload 6, 2) := by decide +kernel
theorem dX12_shift_173 : decode cX12_shift 173 = .ok (.iadd, 1) := by decide +kernel
theorem dX12_shift_174 : decode cX12_shift 174 = .ok (.laload, 1) := by decide +kernel
theorem dX12_shift_175 : decode cX12_shift 175 = .ok (.lastore, 1) := by decide +kernel
theorem dX12_shift_176 : decode cX12_shift 176 = .ok (.iinc 6 (-1), 3) := by decide +kernel
theorem dX12_shift_179 : decode cX12_shift 179 = .ok (.goto (-37), 3) := by decide +kernel
theorem dX12_shift_182 : decode cX12_shift 182 = .ok (.goto 48, 3) := by decide +kernel
theorem dX12_shift_185 : decode cX12_shift 185 = .ok (.iconst 0, 1) := by decide +kernel
theorem dX12_shift_186 : decode cX12_shift 186 = .ok (.istore 6, 2) := by decide +kernel
theorem dX12_shift_188 : decode cX12_shift 188 = .ok (.iload 6, 2) := by decide +kernel
theorem dX12_shift_190 : decode cX12_shift 190 = .ok (.iload 5, 2) := by decide +kernel
theorem dX12_shift_192 : decode cX12_shift 192 = .ok (.if_icmp .ge 38, 3) := by decide +kernel
theorem dX12_shift_195 : decode cX12_shift 195 = .ok (.aload_n 0, 1) := by decide +kernel
theorem dX12_shift_196 : decode cX12_shift 196 = .ok (.getfield 99, 3) := by decide +kernel
theorem dX12_shift_199 : decode cX12_shift 199 = .ok (.bipush 60, 2) := by decide +kernel
theorem dX12_shift_201 : decode cX12_shift 201 = .ok (.iload_n 3, 1) := by decide +kernel
theorem dX12_shift_202 : decode cX12_shift 202 = .ok (.imul, 1) := by decide +kernel
theorem dX12_shift_203 : decode cX12_shift 203 = .ok (.iload 4, 2) := by decide +kernel
theorem dX12_shift_205 : decode cX12_shift 205 = .ok (.iadd, 1) := by decide +kernel
theorem dX12_shift_206 : decode cX12_shift 206 = .ok (.iload 6, 2) := by decide +kernel
theorem dX12_shift_208 : decode cX12_shift 208 = .ok (.iadd, 1) := by decide +kernel
theorem dX12_shift_209 : decode cX12_shift 209 = .ok (.aload_n 0, 1) := by decide +kernel
theorem dX12_shift_210 : decode cX12_shift 210 = .ok (.getfield 99, 3) := by decide +kernel
theorem dX12_shift_213 : decode cX12_shift 213 = .ok (.bipush 60, 2) := by decide +kernel
theorem dX12_shift_215 : decode cX12_shift 215 = .ok (.iload_n 1, 1) := by decide +kernel
theorem dX12_shift_216 : decode cX12_shift 216 = .ok (.imul, 1) := by decide +kernel
theorem dX12_shift_217 : decode cX12_shift 217 = .ok (.iload_n 2, 1) := by decide +kernel
theorem dX12_shift_218 : decode cX12_shift 218 = .ok (.iadd, 1) := by decide +kernel
theorem dX12_shift_219 : decode cX12_shift 219 = .ok (.iload 6, 2) := by decide +kernel
theorem dX12_shift_221 : decode cX12_shift 221 = .ok (.iadd, 1) := by decide +kernel
theorem dX12_shift_222 : decode cX12_shift 222 = .ok (.laload, 1) := by decide +kernel
theorem dX12_shift_223 : decode cX12_shift 223 = .ok (.lastore, 1) := by decide +kernel
theorem dX12_shift_224 : decode cX12_shift 224 = .ok (.iinc 6 1, 3) := by decide +kernel
theorem dX12_shift_227 : decode cX12_shift 227 = .ok (.goto (-39), 3) := by decide +kernel
theorem dX12_shift_230 : decode cX12_shift 230 = .ok (.iload 5, 2) := by decide +kernel
theorem dX12_shift_232 : decode cX12_shift 232 = .ok (.ireturn, 1) := by decide +kernel
theorem dX12_taken_0 : decode cX12_taken 0 = .ok (.iload_n 1, 1) := by decide +kernel
theorem dX12_taken_1 : decode cX12_taken 1 = .ok (.invokestatic 140, 3) := by decide +kernel
theorem dX12_taken_4 : decode cX12_taken 4 = .ok (.ifCond .eq 13, 3) := by decide +kernel
theorem dX12_taken_7 : decode cX12_taken 7 = .ok (.iload_n 2, 1) := by decide +kernel
theorem dX12_taken_8 : decode cX12_taken 8 = .ok (.iconst 0, 1) := by decide +kernel
theorem dX12_taken_9 : decode cX12_taken 9 = .ok (.bipush 7, 2) := by decide +kernel
theorem dX12_taken_11 : decode cX12_taken 11 = .ok (.invokestatic 128, 3) := by decide +kernel
theorem dX12_taken_14 : decode cX12_taken 14 = .ok (.ifCond .ne 5, 3) := by decide +kernel
theorem dX12_taken_17 : decode cX12_taken 17 = .ok (.iconst (-1), 1) := by decide +kernel
theorem dX12_taken_18 : decode cX12_taken 18 = .ok (.ireturn, 1) := by decide +kernel
theorem dX12_taken_19 : decode cX12_taken 19 = .ok (.aload_n 0, 1) := by decide +kernel
theorem dX12_taken_20 : decode cX12_taken 20 = .ok (.getfield 93, 3) := by decide +kernel
theorem dX12_taken_23 : decode cX12_taken 23 = .ok (.iload_n 1, 1) := by decide +kernel
theorem dX12_taken_24 : decode cX12_taken 24 = .ok (.iaload, 1) := by decide +kernel
theorem dX12_taken_25 : decode cX12_taken 25 = .ok (.iconst (-1), 1) := by decide +kernel
theorem dX12_taken_26 : decode cX12_taken 26 = .ok (.if_icmp .ne 6, 3) := by decide +kernel
theorem dX12_taken_29 : decode cX12_taken 29 = .ok (.bipush (-11), 2) := by decide +kernel
theorem dX12_taken_31 : decode cX12_taken 31 = .ok (.ireturn, 1) := by decide +kernel
theorem dX12_taken_32 : decode cX12_taken 32 = .ok (.aload_n 0, 1) := by decide +kernel
theorem dX12_taken_33 : decode cX12_taken 33 = .ok (.iload_n 1, 1) := by decide +kernel
theorem dX12_taken_34 : decode cX12_taken 34 = .ok (.invokevirtual 384, 3) := by decide +kernel
theorem dX12_taken_37 : decode cX12_taken 37 = .ok (.ifCond .eq 6, 3) := by decide +kernel
theorem dX12_taken_40 : decode cX12_taken 40 = .ok (.bipush (-12), 2) := by decide +kernel
theorem dX12_taken_42 : decode cX12_taken 42 = .ok (.ireturn, 1) := by decide +kernel
theorem dX12_taken_43 : decode cX12_taken 43 = .ok (.aload_n 0, 1) := by decide +kernel
theorem dX12_taken_44 : decode cX12_taken 44 = .ok (.getfield 87, 3) := by decide +kernel
theorem dX12_taken_47 : decode cX12_taken 47 = .ok (.aload_n 0, 1) := by decide +kernel
theorem dX12_taken_48 : decode cX12_taken 48 = .ok (.getfield 93, 3) := by decide +kernel
theorem dX12_taken_51 : decode cX12_taken 51 = .ok (.iload_n 1, 1) := by decide +kernel
theorem dX12_taken_52 : decode cX12_taken 52 = .ok (.iaload, 1) := by decide +kernel
theorem dX12_taken_53 : decode cX12_taken 53 = .ok (.bipush 10, 2) := by decide +kernel
theorem dX12_taken_55 : decode cX12_taken 55 = .ok (.isub, 1) := by decide +kernel
theorem dX12_taken_56 : decode cX12_taken 56 = .ok (.iaload, 1) := by decide +kernel
theorem dX12_taken_57 : decode cX12_taken 57 = .ok (.istore_n 3, 1) := by decide +kernel
theorem dX12_taken_58 : decode cX12_taken 58 = .ok (.iload_n 3, 1) := by decide +kernel
theorem dX12_taken_59 : decode cX12_taken 59 = .ok (.istore 4, 2) := by decide +kernel
theorem dX12_taken_61 : decode cX12_taken 61 = .ok (.iload 4, 2) := by decide +kernel
theorem dX12_taken_63 : decode cX12_taken 63 = .ok (.iload_n 2, 1) := by decide +kernel
theorem dX12_taken_64 : decode cX12_taken 64 = .ok (.if_icmp .eq 18, 3) := by decide +kernel
theorem dX12_taken_67 : decode cX12_taken 67 = .ok (.iload 4, 2) := by decide +kernel
theorem dX12_taken_69 : decode cX12_taken 69 = .ok (.ifCond .le 13, 3) := by decide +kernel
theorem dX12_taken_72 : decode cX12_taken 72 = .ok (.iload 4, 2) := by decide +kernel
theorem dX12_taken_74 : decode cX12_taken 74 = .ok (.invokestatic 369, 3) := by decide +kernel
theorem dX12_taken_77 : decode cX12_taken 77 = .ok (.istore 4, 2) := by decide +kernel
theorem dX12_taken_79 : decode cX12_taken 79 = .ok (.goto (-18), 3) := by decide +kernel
theorem dX12_taken_82 : decode cX12_taken 82 = .ok (.iload 4, 2) := by decide +kernel
theorem dX12_taken_84 : decode cX12_taken 84 = .ok (.iload_n 2, 1) := by decide +kernel
theorem dX12_taken_85 : decode cX12_taken 85 = .ok (.if_icmp .ne 7, 3) := by decide +kernel
theorem dX12_taken_88 : decode cX12_taken 88 = .ok (.iload_n 3, 1) := by decide +kernel
theorem dX12_taken_89 : decode cX12_taken 89 = .ok (.goto 5, 3) := by decide +kernel
theorem dX12_taken_92 : decode cX12_taken 92 = .ok (.bipush (-12), 2) := by decide +kernel
theorem dX12_taken_94 : decode cX12_taken 94 = .ok (.ireturn, 1) := by decide +kernel
theorem dX12_count_0 : decode cX12_count 0 = .ok (.iload_n 1, 1) := by decide +kernel
theorem dX12_count_1 : decode cX12_count 1 = .ok (.tableswitch 60 0 4 #[35, 40, 45, 50, 55], 35) := by decide +kernel
theorem dX12_count_36 : decode cX12_count 36 = .ok (.aload_n 0, 1) := by decide +kernel
theorem dX12_count_37 : decode cX12_count 37 = .ok (.getfield 125, 3) := by decide +kernel
theorem dX12_count_40 : decode cX12_count 40 = .ok (.ireturn, 1) := by decide +kernel
theorem dX12_count_41 : decode cX12_count 41 = .ok (.aload_n 0, 1) := by decide +kernel
theorem dX12_count_42 : decode cX12_count 42 = .ok (.getfield 167, 3) := by decide +kernel
theorem dX12_count_45 : decode cX12_count 45 = .ok (.ireturn, 1) := by decide +kernel
theorem dX12_count_46 : decode cX12_count 46 = .ok (.aload_n 0, 1) := by decide +kernel
theorem dX12_count_47 : decode cX12_count 47 = .ok (.getfield 161, 3) := by decide +kernel
theorem dX12_count_50 : decode cX12_count 50 = .ok (.ireturn, 1) := by decide +kernel
theorem dX12_count_51 : decode cX12_count 51 = .ok (.aload_n 0, 1) := by decide +kernel
theorem dX12_count_52 : decode cX12_count 52 = .ok (.getfield 381, 3) := by decide +kernel
theorem dX12_count_55 : decode cX12_count 55 = .ok (.ireturn, 1) := by decide +kernel
theorem dX12_count_56 : decode cX12_count 56 = .ok (.aload_n 0, 1) := by decide +kernel
theorem dX12_count_57 : decode cX12_count 57 = .ok (.getfield 360, 3) := by decide +kernel
theorem dX12_count_60 : decode cX12_count 60 = .ok (.ireturn, 1) := by decide +kernel
theorem dX12_count_61 : decode cX12_count 61 = .ok (.iconst (-1), 1) := by decide +kernel
theorem dX12_count_62 : decode cX12_count 62 = .ok (.ireturn, 1) := by decide +kernel
theorem dJ11_isValidCodePoint_9a6ad_0 : decode cJ11_isValidCodePoint_9a6ad 0 = .ok (.iload_n 0, 1) := by decide +kernel
theorem dJ11_isValidCodePoint_9a6ad_1 : decode cJ11_isValidCodePoint_9a6ad 1 = .ok (.bipush 16, 2) := by decide +kernel
theorem dJ11_isValidCodePoint_9a6ad_3 : decode cJ11_isValidCodePoint_9a6ad 3 = .ok (.iushr, 1) := by decide +kernel
theorem dJ11_isValidCodePoint_9a6ad_4 : decode cJ11_isValidCodePoint_9a6ad 4 = .ok (.istore_n 1, 1) := by decide +kernel
theorem dJ11_isValidCodePoint_9a6ad_5 : decode cJ11_isValidCodePoint_9a6ad 5 = .ok (.iload_n 1, 1) := by decide +kernel
theorem dJ11_isValidCodePoint_9a6ad_6 : decode cJ11_isValidCodePoint_9a6ad 6 = .ok (.bipush 17, 2) := by decide +kernel
theorem dJ11_isValidCodePoint_9a6ad_8 : decode cJ11_isValidCodePoint_9a6ad 8 = .ok (.if_icmp .ge 7, 3) := by decide +kernel
theorem dJ11_isValidCodePoint_9a6ad_11 : decode cJ11_isValidCodePoint_9a6ad 11 = .ok (.iconst 1, 1) := by decide +kernel
theorem dJ11_isValidCodePoint_9a6ad_12 : decode cJ11_isValidCodePoint_9a6ad 12 = .ok (.goto 4, 3) := by decide +kernel
theorem dJ11_isValidCodePoint_9a6ad_15 : decode cJ11_isValidCodePoint_9a6ad 15 = .ok (.iconst 0, 1) := by decide +kernel
theorem dJ11_isValidCodePoint_9a6ad_16 : decode cJ11_isValidCodePoint_9a6ad 16 = .ok (.ireturn, 1) := by decide +kernel
theorem dJ11_highSurrogate_5068e_0 : decode cJ11_highSurrogate_5068e 0 = .ok (.iload_n 0, 1) := by decide +kernel
theorem dJ11_highSurrogate_5068e_1 : decode cJ11_highSurrogate_5068e 1 = .ok (.bipush 10, 2) := by decide +kernel
theorem dJ11_highSurrogate_5068e_3 : decode cJ11_highSurrogate_5068e 3 = .ok (.iushr, 1) := by decide +kernel
theorem dJ11_highSurrogate_5068e_4 : decode cJ11_highSurrogate_5068e 4 = .ok (.ldc 110, 2) := by decide +kernel
theorem dJ11_highSurrogate_5068e_6 : decode cJ11_highSurrogate_5068e 6 = .ok (.iadd, 1) := by decide +kernel
theorem dJ11_highSurrogate_5068e_7 : decode cJ11_highSurrogate_5068e 7 = .ok (.i2c, 1) := by decide +kernel
theorem dJ11_highSurrogate_5068e_8 : decode cJ11_highSurrogate_5068e 8 = .ok (.ireturn, 1) := by decide +kernel
theorem dJ11_lowSurrogate_5068e_0 : decode cJ11_lowSurrogate_5068e 0 = .ok (.iload_n 0, 1) := by decide +kernel
theorem dJ11_lowSurrogate_5068e_1 : decode cJ11_lowSurrogate_5068e 1 = .ok (.sipush 1023, 3) := by decide +kernel
theorem dJ11_lowSurrogate_5068e_4 : decode cJ11_lowSurrogate_5068e 4 = .ok (.iand, 1) := by decide +kernel
theorem dJ11_lowSurrogate_5068e_5 : decode cJ11_lowSurrogate_5068e 5 = .ok (.ldc 76, 2) := by decide +kernel
theorem dJ11_lowSurrogate_5068e_7 : decode cJ11_lowSurrogate_5068e 7 = .ok (.iadd, 1) := by decide +kernel
theorem dJ11_lowSurrogate_5068e_8 : decode cJ11_lowSurrogate_5068e 8 = .ok (.i2c, 1) := by decide +kernel
theorem dJ11_lowSurrogate_5068e_9 : decode cJ11_lowSurrogate_5068e 9 = .ok (.ireturn, 1) := by decide +kernel
theorem dJ6_bitCount_0f7a4_0 : decode cJ6_bitCount_0f7a4 0 = .ok (.iload_n 0, 1) := by decide +kernel
theorem dJ6_bitCount_0f7a4_1 : decode cJ6_bitCount_0f7a4 1 = .ok (.iload_n 0, 1) := by decide +kernel
theorem dJ6_bitCount_0f7a4_2 : decode cJ6_bitCount_0f7a4 2 = .ok (.iconst 1, 1) := by decide +kernel
theorem dJ6_bitCount_0f7a4_3 : decode cJ6_bitCount_0f7a4 3 = .ok (.iushr, 1) := by decide +kernel
theorem dJ6_bitCount_0f7a4_4 : decode cJ6_bitCount_0f7a4 4 = .ok (.ldc_w 265, 3) := by decide +kernel
theorem dJ6_bitCount_0f7a4_7 : decode cJ6_bitCount_0f7a4 7 = .ok (.iand, 1) := by decide +kernel
theorem dJ6_bitCount_0f7a4_8 : decode cJ6_bitCount_0f7a4 8 = .ok (.isub, 1) := by decide +kernel
theorem dJ6_bitCount_0f7a4_9 : decode cJ6_bitCount_0f7a4 9 = .ok (.istore_n 0, 1) := by decide +kernel
theorem dJ6_bitCount_0f7a4_10 : decode cJ6_bitCount_0f7a4 10 = .ok (.iload_n 0, 1) := by decide +kernel
theorem dJ6_bitCount_0f7a4_11 : decode cJ6_bitCount_0f7a4 11 = .ok (.ldc_w 266, 3) := by decide +kernel
theorem dJ6_bitCount_0f7a4_14 : decode cJ6_bitCount_0f7a4 14 = .ok (.iand, 1) := by decide +kernel
theorem dJ6_bitCount_0f7a4_15 : decode cJ6_bitCount_0f7a4 15 = .ok (.iload_n 0, 1) := by decide +kernel
theorem dJ6_bitCount_0f7a4_16 : decode cJ6_bitCount_0f7a4 16 = .ok (.iconst 2, 1) := by decide +kernel
theorem dJ6_bitCount_0f7a4_17 : decode cJ6_bitCount_0f7a4 17 = .ok (.iushr, 1) := by decide +kernel
theorem dJ6_bitCount_0f7a4_18 : decode cJ6_bitCount_0f7a4 18 = .ok (.ldc_w 266, 3) := by decide +kernel
theorem dJ6_bitCount_0f7a4_21 : decode cJ6_bitCount_0f7a4 21 = .ok (.iand, 1) := by decide +kernel
theorem dJ6_bitCount_0f7a4_22 : decode cJ6_bitCount_0f7a4 22 = .ok (.iadd, 1) := by decide +kernel
theorem dJ6_bitCount_0f7a4_23 : decode cJ6_bitCount_0f7a4 23 = .ok (.istore_n 0, 1) := by decide +kernel
theorem dJ6_bitCount_0f7a4_24 : decode cJ6_bitCount_0f7a4 24 = .ok (.iload_n 0, 1) := by decide +kernel
theorem dJ6_bitCount_0f7a4_25 : decode cJ6_bitCount_0f7a4 25 = .ok (.iload_n 0, 1) := by decide +kernel
theorem dJ6_bitCount_0f7a4_26 : decode cJ6_bitCount_0f7a4 26 = .ok (.iconst 4, 1) := by decide +kernel
theorem dJ6_bitCount_0f7a4_27 : decode cJ6_bitCount_0f7a4 27 = .ok (.iushr, 1) := by decide +kernel
theorem dJ6_bitCount_0f7a4_28 : decode cJ6_bitCount_0f7a4 28 = .ok (.iadd, 1) := by decide +kernel
theorem dJ6_bitCount_0f7a4_29 : decode cJ6_bitCount_0f7a4 29 = .ok (.ldc_w 267, 3) := by decide +kernel
theorem dJ6_bitCount_0f7a4_32 : decode cJ6_bitCount_0f7a4 32 = .ok (.iand, 1) := by decide +kernel
theorem dJ6_bitCount_0f7a4_33 : decode cJ6_bitCount_0f7a4 33 = .ok (.istore_n 0, 1) := by decide +kernel
theorem dJ6_bitCount_0f7a4_34 : decode cJ6_bitCount_0f7a4 34 = .ok (.iload_n 0, 1) := by decide +kernel
theorem dJ6_bitCount_0f7a4_35 : decode cJ6_bitCount_0f7a4 35 = .ok (.iload_n 0, 1) := by decide +kernel
theorem dJ6_bitCount_0f7a4_36 : decode cJ6_bitCount_0f7a4 36 = .ok (.bipush 8, 2) := by decide +kernel
theorem dJ6_bitCount_0f7a4_38 : decode cJ6_bitCount_0f7a4 38 = .ok (.iushr, 1) := by decide +kernel
theorem dJ6_bitCount_0f7a4_39 : decode cJ6_bitCount_0f7a4 39 = .ok (.iadd, 1) := by decide +kernel
theorem dJ6_bitCount_0f7a4_40 : decode cJ6_bitCount_0f7a4 40 = .ok (.istore_n 0, 1) := by decide +kernel
theorem dJ6_bitCount_0f7a4_41 : decode cJ6_bitCount_0f7a4 41 = .ok (.iload_n 0, 1) := by decide +kernel
theorem dJ6_bitCount_0f7a4_42 : decode cJ6_bitCount_0f7a4 42 = .ok (.iload_n 0, 1) := by decide +kernel
theorem dJ6_bitCount_0f7a4_43 : decode cJ6_bitCount_0f7a4 43 = .ok (.bipush 16, 2) := by decide +kernel
theorem dJ6_bitCount_0f7a4_45 : decode cJ6_bitCount_0f7a4 45 = .ok (.iushr, 1) := by decide +kernel
theorem dJ6_bitCount_0f7a4_46 : decode cJ6_bitCount_0f7a4 46 = .ok (.iadd, 1) := by decide +kernel
theorem dJ6_bitCount_0f7a4_47 : decode cJ6_bitCount_0f7a4 47 = .ok (.istore_n 0, 1) := by decide +kernel
theorem dJ6_bitCount_0f7a4_48 : decode cJ6_bitCount_0f7a4 48 = .ok (.iload_n 0, 1) := by decide +kernel
theorem dJ6_bitCount_0f7a4_49 : decode cJ6_bitCount_0f7a4 49 = .ok (.bipush 63, 2) := by decide +kernel
theorem dJ6_bitCount_0f7a4_51 : decode cJ6_bitCount_0f7a4 51 = .ok (.iand, 1) := by decide +kernel
theorem dJ6_bitCount_0f7a4_52 : decode cJ6_bitCount_0f7a4 52 = .ok (.ireturn, 1) := by decide +kernel
theorem dJ9_abs_0f7a4_0 : decode cJ9_abs_0f7a4 0 = .ok (.iload_n 0, 1) := by decide +kernel
theorem dJ9_abs_0f7a4_1 : decode cJ9_abs_0f7a4 1 = .ok (.ifCond .ge 8, 3) := by decide +kernel
theorem dJ9_abs_0f7a4_4 : decode cJ9_abs_0f7a4 4 = .ok (.iload_n 0, 1) := by decide +kernel
theorem dJ9_abs_0f7a4_5 : decode cJ9_abs_0f7a4 5 = .ok (.ineg, 1) := by decide +kernel
theorem dJ9_abs_0f7a4_6 : decode cJ9_abs_0f7a4 6 = .ok (.goto 4, 3) := by decide +kernel
theorem dJ9_abs_0f7a4_9 : decode cJ9_abs_0f7a4 9 = .ok (.iload_n 0, 1) := by decide +kernel
theorem dJ9_abs_0f7a4_10 : decode cJ9_abs_0f7a4 10 = .ok (.ireturn, 1) := by decide +kernel
theorem dJ9_max_7cf53_0 : decode cJ9_max_7cf53 0 = .ok (.iload_n 0, 1) := by decide +kernel
theorem dJ9_max_7cf53_1 : decode cJ9_max_7cf53 1 = .ok (.iload_n 1, 1) := by decide +kernel
theorem dJ9_max_7cf53_2 : decode cJ9_max_7cf53 2 = .ok (.if_icmp .lt 7, 3) := by decide +kernel
theorem dJ9_max_7cf53_5 : decode cJ9_max_7cf53 5 = .ok (.iload_n 0, 1) := by decide +kernel
theorem dJ9_max_7cf53_6 : decode cJ9_max_7cf53 6 = .ok (.goto 4, 3) := by decide +kernel
theorem dJ9_max_7cf53_9 : decode cJ9_max_7cf53 9 = .ok (.iload_n 1, 1) := by decide +kernel
theorem dJ9_max_7cf53_10 : decode cJ9_max_7cf53 10 = .ok (.ireturn, 1) := by decide +kernel
theorem dJ9_min_7cf53_0 : decode cJ9_min_7cf53 0 = .ok (.iload_n 0, 1) := by decide +kernel
theorem dJ9_min_7cf53_1 : decode cJ9_min_7cf53 1 = .ok (.iload_n 1, 1) := by decide +kernel
theorem dJ9_min_7cf53_2 : decode cJ9_min_7cf53 2 = .ok (.if_icmp .gt 7, 3) := by decide +kernel
theorem dJ9_min_7cf53_5 : decode cJ9_min_7cf53 5 = .ok (.iload_n 0, 1) := by decide +kernel
theorem dJ9_min_7cf53_6 : decode cJ9_min_7cf53 6 = .ok (.goto 4, 3) := by decide +kernel
theorem dJ9_min_7cf53_9 : decode cJ9_min_7cf53 9 = .ok (.iload_n 1, 1) := by decide +kernel
theorem dJ9_min_7cf53_10 : decode cJ9_min_7cf53 10 = .ok (.ireturn, 1) := by decide +kernel
theorem dJ0_length_8abf5_0 : decode cJ0_length_8abf5 0 = .ok (.aload_n 0, 1) := by decide +kernel
theorem dJ0_length_8abf5_1 : decode cJ0_length_8abf5 1 = .ok (.getfield 9, 3) := by decide +kernel
theorem dJ0_length_8abf5_4 : decode cJ0_length_8abf5 4 = .ok (.arraylength, 1) := by decide +kernel
theorem dJ0_length_8abf5_5 : decode cJ0_length_8abf5 5 = .ok (.aload_n 0, 1) := by decide +kernel
theorem dJ0_length_8abf5_6 : decode cJ0_length_8abf5 6 = .ok (.invokevirtual 335, 3) := by decide +kernel
theorem dJ0_length_8abf5_9 : decode cJ0_length_8abf5 9 = .ok (.ishr, 1) := by decide +kernel
theorem dJ0_length_8abf5_10 : decode cJ0_length_8abf5 10 = .ok (.ireturn, 1) := by decide +kernel
theorem dJ0_indexOf_0f7a4_0 : decode cJ0_indexOf_0f7a4 0 = .ok (.aload_n 0, 1) := by decide +kernel
theorem dJ0_indexOf_0f7a4_1 : decode cJ0_indexOf_0f7a4 1 = .ok (.iload_n 1, 1) := by decide +kernel
theorem dJ0_indexOf_0f7a4_2 : decode cJ0_indexOf_0f7a4 2 = .ok (.iconst 0, 1) := by decide +kernel
theorem dJ0_indexOf_0f7a4_3 : decode cJ0_indexOf_0f7a4 3 = .ok (.invokevirtual 633, 3) := by decide +kernel
theorem dJ0_indexOf_0f7a4_6 : decode cJ0_indexOf_0f7a4 6 = .ok (.ireturn, 1) := by decide +kernel
theorem dJ0_indexOf_7cf53_0 : decode cJ0_indexOf_7cf53 0 = .ok (.aload_n 0, 1) := by decide +kernel
theorem dJ0_indexOf_7cf53_1 : decode cJ0_indexOf_7cf53 1 = .ok (.invokevirtual 492, 3) := by decide +kernel
theorem dJ0_indexOf_7cf53_4 : decode cJ0_indexOf_7cf53 4 = .ok (.ifCond .eq 19, 3) := by decide +kernel
theorem dJ0_indexOf_7cf53_7 : decode cJ0_indexOf_7cf53 7 = .ok (.aload_n 0, 1) := by decide +kernel
theorem dJ0_indexOf_7cf53_8 : decode cJ0_indexOf_7cf53 8 = .ok (.getfield 9, 3) := by decide +kernel
theorem dJ0_indexOf_7cf53_11 : decode cJ0_indexOf_7cf53 11 = .ok (.iload_n 1, 1) := by decide +kernel
theorem dJ0_indexOf_7cf53_12 : decode cJ0_indexOf_7cf53 12 = .ok (.iload_n 2, 1) := by decide +kernel
theorem dJ0_indexOf_7cf53_13 : decode cJ0_indexOf_7cf53 13 = .ok (.aload_n 0, 1) := by decide +kernel
theorem dJ0_indexOf_7cf53_14 : decode cJ0_indexOf_7cf53 14 = .ok (.invokevirtual 505, 3) := by decide +kernel
theorem dJ0_indexOf_7cf53_17 : decode cJ0_indexOf_7cf53 17 = .ok (.invokestatic 637, 3) := by decide +kernel
theorem dJ0_indexOf_7cf53_20 : decode cJ0_indexOf_7cf53 20 = .ok (.goto 16, 3) := by decide +kernel
theorem dJ0_indexOf_7cf53_23 : decode cJ0_indexOf_7cf53 23 = .ok (.aload_n 0, 1) := by decide +kernel
theorem dJ0_indexOf_7cf53_24 : decode cJ0_indexOf_7cf53 24 = .ok (.getfield 9, 3) := by decide +kernel
theorem dJ0_indexOf_7cf53_27 : decode cJ0_indexOf_7cf53 27 = .ok (.iload_n 1, 1) := by decide +kernel
theorem dJ0_indexOf_7cf53_28 : decode cJ0_indexOf_7cf53 28 = .ok (.iload_n 2, 1) := by decide +kernel
theorem dJ0_indexOf_7cf53_29 : decode cJ0_indexOf_7cf53 29 = .ok (.aload_n 0, 1) := by decide +kernel
theorem dJ0_indexOf_7cf53_30 : decode cJ0_indexOf_7cf53 30 = .ok (.invokevirtual 505, 3) := by decide +kernel
theorem dJ0_indexOf_7cf53_33 : decode cJ0_indexOf_7cf53 33 = .ok (.invokestatic 640, 3) := by decide +kernel
theorem dJ0_indexOf_7cf53_36 : decode cJ0_indexOf_7cf53 36 = .ok (.ireturn, 1) := by decide +kernel
theorem dJ0_coder_7d493_0 : decode cJ0_coder_7d493 0 = .ok (.getstatic 38, 3) := by decide +kernel
theorem dJ0_coder_7d493_3 : decode cJ0_coder_7d493 3 = .ok (.ifCond .eq 10, 3) := by decide +kernel
theorem dJ0_coder_7d493_6 : decode cJ0_coder_7d493 6 = .ok (.aload_n 0, 1) := by decide +kernel
theorem dJ0_coder_7d493_7 : decode cJ0_coder_7d493 7 = .ok (.getfield 15, 3) := by decide +kernel
theorem dJ0_coder_7d493_10 : decode cJ0_coder_7d493 10 = .ok (.goto 4, 3) := by decide +kernel
theorem dJ0_coder_7d493_13 : decode cJ0_coder_7d493 13 = .ok (.iconst 1, 1) := by decide +kernel
theorem dJ0_coder_7d493_14 : decode cJ0_coder_7d493 14 = .ok (.ireturn, 1) := by decide +kernel
theorem dJ0_isLatin1_aae02_0 : decode cJ0_isLatin1_aae02 0 = .ok (.getstatic 38, 3) := by decide +kernel
theorem dJ0_isLatin1_aae02_3 : decode cJ0_isLatin1_aae02 3 = .ok (.ifCond .eq 14, 3) := by decide +kernel
theorem dJ0_isLatin1_aae02_6 : decode cJ0_isLatin1_aae02 6 = .ok (.aload_n 0, 1) := by decide +kernel
theorem dJ0_isLatin1_aae02_7 : decode cJ0_isLatin1_aae02 7 = .ok (.getfield 15, 3) := by decide +kernel
theorem dJ0_isLatin1_aae02_10 : decode cJ0_isLatin1_aae02 10 = .ok (.ifCond .ne 7, 3) := by decide +kernel
theorem dJ0_isLatin1_aae02_13 : decode cJ0_isLatin1_aae02 13 = .ok (.iconst 1, 1) := by decide +kernel
theorem dJ0_isLatin1_aae02_14 : decode cJ0_isLatin1_aae02 14 = .ok (.goto 4, 3) := by decide +kernel
theorem dJ0_isLatin1_aae02_17 : decode cJ0_isLatin1_aae02 17 = .ok (.iconst 0, 1) := by decide +kernel
theorem dJ0_isLatin1_aae02_18 : decode cJ0_isLatin1_aae02 18 = .ok (.ireturn, 1) := by decide +kernel
theorem dJ0_checkBoundsBeginEnd_23922_0 : decode cJ0_checkBoundsBeginEnd_23922 0 = .ok (.iload_n 0, 1) := by decide +kernel
theorem dJ0_checkBoundsBeginEnd_23922_1 : decode cJ0_checkBoundsBeginEnd_23922 1 = .ok (.iload_n 1, 1) := by decide +kernel
theorem dJ0_checkBoundsBeginEnd_23922_2 : decode cJ0_checkBoundsBeginEnd_23922 2 = .ok (.iload_n 2, 1) := by decide +kernel
theorem dJ0_checkBoundsBeginEnd_23922_3 : decode cJ0_checkBoundsBeginEnd_23922 3 = .ok (.getstatic 1053, 3) := by decide +kernel
theorem dJ0_checkBoundsBeginEnd_23922_6 : decode cJ0_checkBoundsBeginEnd_23922 6 = .ok (.invokestatic 1062, 3) := by decide +kernel
theorem dJ0_checkBoundsBeginEnd_23922_9 : decode cJ0_checkBoundsBeginEnd_23922 9 = .ok (.pop, 1) := by decide +kernel
theorem dJ0_checkBoundsBeginEnd_23922_10 : decode cJ0_checkBoundsBeginEnd_23922 10 = .ok (.return_, 1) := by decide +kernel
theorem dJ1_canEncode_9a6ad_0 : decode cJ1_canEncode_9a6ad 0 = .ok (.iload_n 0, 1) := by decide +kernel
theorem dJ1_canEncode_9a6ad_1 : decode cJ1_canEncode_9a6ad 1 = .ok (.ifCond .lt 14, 3) := by decide +kernel
theorem dJ1_canEncode_9a6ad_4 : decode cJ1_canEncode_9a6ad 4 = .ok (.iload_n 0, 1) := by decide +kernel
theorem dJ1_canEncode_9a6ad_5 : decode cJ1_canEncode_9a6ad 5 = .ok (.sipush 255, 3) := by decide +kernel
theorem dJ1_canEncode_9a6ad_8 : decode cJ1_canEncode_9a6ad 8 = .ok (.if_icmp .gt 7, 3) := by decide +kernel
theorem dJ1_canEncode_9a6ad_11 : decode cJ1_canEncode_9a6ad 11 = .ok (.iconst 1, 1) := by decide +kernel
theorem dJ1_canEncode_9a6ad_12 : decode cJ1_canEncode_9a6ad 12 = .ok (.goto 4, 3) := by decide +kernel
theorem dJ1_canEncode_9a6ad_15 : decode cJ1_canEncode_9a6ad 15 = .ok (.iconst 0, 1) := by decide +kernel
theorem dJ1_canEncode_9a6ad_16 : decode cJ1_canEncode_9a6ad 16 = .ok (.ireturn, 1) := by decide +kernel
theorem dJ1_indexOf_4cfef_0 : decode cJ1_indexOf_4cfef 0 = .ok (.iload_n 1, 1) := by decide +kernel
theorem dJ1_indexOf_4cfef_1 : decode cJ1_indexOf_4cfef 1 = .ok (.invokestatic 88, 3) := by decide +kernel
theorem dJ1_indexOf_4cfef_4 : decode cJ1_indexOf_4cfef 4 = .ok (.ifCond .ne 5, 3) := by decide +kernel
theorem dJ1_indexOf_4cfef_7 : decode cJ1_indexOf_4cfef 7 = .ok (.iconst (-1), 1) := by decide +kernel
theorem dJ1_indexOf_4cfef_8 : decode cJ1_indexOf_4cfef 8 = .ok (.ireturn, 1) := by decide +kernel
theorem dJ1_indexOf_4cfef_9 : decode cJ1_indexOf_4cfef 9 = .ok (.iload_n 2, 1) := by decide +kernel
theorem dJ1_indexOf_4cfef_10 : decode cJ1_indexOf_4cfef 10 = .ok (.iconst 0, 1) := by decide +kernel
theorem dJ1_indexOf_4cfef_11 : decode cJ1_indexOf_4cfef 11 = .ok (.invokestatic 92, 3) := by decide +kernel
theorem dJ1_indexOf_4cfef_14 : decode cJ1_indexOf_4cfef 14 = .ok (.istore_n 2, 1) := by decide +kernel
theorem dJ1_indexOf_4cfef_15 : decode cJ1_indexOf_4cfef 15 = .ok (.iload_n 3, 1) := by decide +kernel
theorem dJ1_indexOf_4cfef_16 : decode cJ1_indexOf_4cfef 16 = .ok (.aload_n 0, 1) := by decide +kernel
theorem dJ1_indexOf_4cfef_17 : decode cJ1_indexOf_4cfef 17 = .ok (.arraylength, 1) := by decide +kernel
theorem dJ1_indexOf_4cfef_18 : decode cJ1_indexOf_4cfef 18 = .ok (.invokestatic 38, 3) := by decide +kernel
theorem dJ1_indexOf_4cfef_21 : decode cJ1_indexOf_4cfef 21 = .ok (.istore_n 3, 1) := by decide +kernel
theorem dJ1_indexOf_4cfef_22 : decode cJ1_indexOf_4cfef 22 = .ok (.iload_n 2, 1) := by decide +kernel
theorem dJ1_indexOf_4cfef_23 : decode cJ1_indexOf_4cfef 23 = .ok (.iload_n 3, 1) := by decide +kernel
theorem dJ1_indexOf_4cfef_24 : decode cJ1_indexOf_4cfef 24 = .ok (.if_icmp .lt 5, 3) := by decide +kernel
theorem dJ1_indexOf_4cfef_27 : decode cJ1_indexOf_4cfef 27 = .ok (.iconst (-1), 1) := by decide +kernel
theorem dJ1_indexOf_4cfef_28 : decode cJ1_indexOf_4cfef 28 = .ok (.ireturn, 1) := by decide +kernel
theorem dJ1_indexOf_4cfef_29 : decode cJ1_indexOf_4cfef 29 = .ok (.aload_n 0, 1) := by decide +kernel
theorem dJ1_indexOf_4cfef_30 : decode cJ1_indexOf_4cfef 30 = .ok (.iload_n 1, 1) := by decide +kernel
theorem dJ1_indexOf_4cfef_31 : decode cJ1_indexOf_4cfef 31 = .ok (.iload_n 2, 1) := by decide +kernel
theorem dJ1_indexOf_4cfef_32 : decode cJ1_indexOf_4cfef 32 = .ok (.iload_n 3, 1) := by decide +kernel
theorem dJ1_indexOf_4cfef_33 : decode cJ1_indexOf_4cfef 33 = .ok (.invokestatic 95, 3) := by decide +kernel
theorem dJ1_indexOf_4cfef_36 : decode cJ1_indexOf_4cfef 36 = .ok (.ireturn, 1) := by decide +kernel
theorem dJ1_indexOfChar_4cfef_0 : decode cJ1_indexOfChar_4cfef 0 = .ok (.iload_n 1, 1) := by decide +kernel
theorem dJ1_indexOfChar_4cfef_1 : decode cJ1_indexOfChar_4cfef 1 = .ok (.i2b, 1) := by decide +kernel
theorem dJ1_indexOfChar_4cfef_2 : decode cJ1_indexOfChar_4cfef 2 = .ok (.istore 4, 2) := by decide +kernel
theorem dJ1_indexOfChar_4cfef_4 : decode cJ1_indexOfChar_4cfef 4 = .ok (.iload_n 2, 1) := by decide +kernel
theorem dJ1_indexOfChar_4cfef_5 : decode cJ1_indexOfChar_4cfef 5 = .ok (.istore 5, 2) := by decide +kernel
theorem dJ1_indexOfChar_4cfef_7 : decode cJ1_indexOfChar_4cfef 7 = .ok (.iload 5, 2) := by decide +kernel
theorem dJ1_indexOfChar_4cfef_9 : decode cJ1_indexOfChar_4cfef 9 = .ok (.iload_n 3, 1) := by decide +kernel
theorem dJ1_indexOfChar_4cfef_10 : decode cJ1_indexOfChar_4cfef 10 = .ok (.if_icmp .ge 21, 3) := by decide +kernel
theorem dJ1_indexOfChar_4cfef_13 : decode cJ1_indexOfChar_4cfef 13 = .ok (.aload_n 0, 1) := by decide +kernel
theorem dJ1_indexOfChar_4cfef_14 : decode cJ1_indexOfChar_4cfef 14 = .ok (.iload 5, 2) := by decide +kernel
theorem dJ1_indexOfChar_4cfef_16 : decode cJ1_indexOfChar_4cfef 16 = .ok (.baload, 1) := by decide +kernel
theorem dJ1_indexOfChar_4cfef_17 : decode cJ1_indexOfChar_4cfef 17 = .ok (.iload 4, 2) := by decide +kernel
theorem dJ1_indexOfChar_4cfef_19 : decode cJ1_indexOfChar_4cfef 19 = .ok (.if_icmp .ne 6, 3) := by decide +kernel
theorem dJ1_indexOfChar_4cfef_22 : decode cJ1_indexOfChar_4cfef 22 = .ok (.iload 5, 2) := by decide +kernel
theorem dJ1_indexOfChar_4cfef_24 : decode cJ1_indexOfChar_4cfef 24 = .ok (.ireturn, 1) := by decide +kernel
theorem dJ1_indexOfChar_4cfef_25 : decode cJ1_indexOfChar_4cfef 25 = .ok (.iinc 5 1, 3) := by decide +kernel
theorem dJ1_indexOfChar_4cfef_28 : decode cJ1_indexOfChar_4cfef 28 = .ok (.goto (-21), 3) := by decide +kernel
theorem dJ1_indexOfChar_4cfef_31 : decode cJ1_indexOfChar_4cfef 31 = .ok (.iconst (-1), 1) := by decide +kernel
theorem dJ1_indexOfChar_4cfef_32 : decode cJ1_indexOfChar_4cfef 32 = .ok (.ireturn, 1) := by decide +kernel
theorem dJ2_getChar_3b067_0 : decode cJ2_getChar_3b067 0 = .ok (.getstatic 44, 3) := by decide +kernel
theorem dJ2_getChar_3b067_3 : decode cJ2_getChar_3b067 3 = .ok (.ifCond .ne 25, 3) := by decide +kernel
theorem dJ2_getChar_3b067_6 : decode cJ2_getChar_3b067 6 = .ok (.iload_n 1, 1) := by decide +kernel
theorem dJ2_getChar_3b067_7 : decode cJ2_getChar_3b067 7 = .ok (.ifCond .lt 11, 3) := by decide +kernel
theorem dJ2_getChar_3b067_10 : decode cJ2_getChar_3b067 10 = .ok (.iload_n 1, 1) := by decide +kernel
theorem dJ2_getChar_3b067_11 : decode cJ2_getChar_3b067 11 = .ok (.aload_n 0, 1) := by decide +kernel
theorem dJ2_getChar_3b067_12 : decode cJ2_getChar_3b067 12 = .ok (.invokestatic 48, 3) := by decide +kernel
theorem dJ2_getChar_3b067_15 : decode cJ2_getChar_3b067 15 = .ok (.if_icmp .lt 13, 3) := by decide +kernel
theorem dJ2_getChar_3b067_18 : decode cJ2_getChar_3b067 18 = .ok (.new 52, 3) := by decide +kernel
theorem dJ2_getChar_3b067_21 : decode cJ2_getChar_3b067 21 = .ok (.dup, 1) := by decide +kernel
theorem dJ2_getChar_3b067_22 : decode cJ2_getChar_3b067 22 = .ok (.ldc 54, 2) := by decide +kernel
theorem dJ2_getChar_3b067_24 : decode cJ2_getChar_3b067 24 = .ok (.invokespecial 56, 3) := by decide +kernel
theorem dJ2_getChar_3b067_27 : decode cJ2_getChar_3b067 27 = .ok (.athrow, 1) := by decide +kernel
theorem dJ2_getChar_3b067_28 : decode cJ2_getChar_3b067 28 = .ok (.iload_n 1, 1) := by decide +kernel
theorem dJ2_getChar_3b067_29 : decode cJ2_getChar_3b067 29 = .ok (.iconst 1, 1) := by decide +kernel
theorem dJ2_getChar_3b067_30 : decode cJ2_getChar_3b067 30 = .ok (.ishl, 1) := by decide +kernel
theorem dJ2_getChar_3b067_31 : decode cJ2_getChar_3b067 31 = .ok (.istore_n 1, 1) := by decide +kernel
theorem dJ2_getChar_3b067_32 : decode cJ2_getChar_3b067 32 = .ok (.aload_n 0, 1) := by decide +kernel
theorem dJ2_getChar_3b067_33 : decode cJ2_getChar_3b067 33 = .ok (.iload_n 1, 1) := by decide +kernel
theorem dJ2_getChar_3b067_34 : decode cJ2_getChar_3b067 34 = .ok (.iinc 1 1, 3) := by decide +kernel
theorem dJ2_getChar_3b067_37 : decode cJ2_getChar_3b067 37 = .ok (.baload, 1) := by decide +kernel
theorem dJ2_getChar_3b067_38 : decode cJ2_getChar_3b067 38 = .ok (.sipush 255, 3) := by decide +kernel
theorem dJ2_getChar_3b067_41 : decode cJ2_getChar_3b067 41 = .ok (.iand, 1) := by decide +kernel
theorem dJ2_getChar_3b067_42 : decode cJ2_getChar_3b067 42 = .ok (.getstatic 59, 3) := by decide +kernel
theorem dJ2_getChar_3b067_45 : decode cJ2_getChar_3b067 45 = .ok (.ishl, 1) := by decide +kernel
theorem dJ2_getChar_3b067_46 : decode cJ2_getChar_3b067 46 = .ok (.aload_n 0, 1) := by decide +kernel
theorem dJ2_getChar_3b067_47 : decode cJ2_getChar_3b067 47 = .ok (.iload_n 1, 1) := by decide +kernel
theorem dJ2_getChar_3b067_48 : decode cJ2_getChar_3b067 48 = .ok (.baload, 1) := by decide +kernel
theorem dJ2_getChar_3b067_49 : decode cJ2_getChar_3b067 49 = .ok (.sipush 255, 3) := by decide +kernel
theorem dJ2_getChar_3b067_52 : decode cJ2_getChar_3b067 52 = .ok (.iand, 1) := by decide +kernel
theorem dJ2_getChar_3b067_53 : decode cJ2_getChar_3b067 53 = .ok (.getstatic 63, 3) := by decide +kernel
theorem dJ2_getChar_3b067_56 : decode cJ2_getChar_3b067 56 = .ok (.ishl, 1) := by decide +kernel
theorem dJ2_getChar_3b067_57 : decode cJ2_getChar_3b067 57 = .ok (.ior, 1) := by decide +kernel
theorem dJ2_getChar_3b067_58 : decode cJ2_getChar_3b067 58 = .ok (.i2c, 1) := by decide +kernel
theorem dJ2_getChar_3b067_59 : decode cJ2_getChar_3b067 59 = .ok (.ireturn, 1) := by decide +kernel
theorem dJ2_length_9d52b_0 : decode cJ2_length_9d52b 0 = .ok (.aload_n 0, 1) := by decide +kernel
theorem dJ2_length_9d52b_1 : decode cJ2_length_9d52b 1 = .ok (.arraylength, 1) := by decide +kernel
theorem dJ2_length_9d52b_2 : decode cJ2_length_9d52b 2 = .ok (.iconst 1, 1) := by decide +kernel
theorem dJ2_length_9d52b_3 : decode cJ2_length_9d52b 3 = .ok (.ishr, 1) := by decide +kernel
theorem dJ2_length_9d52b_4 : decode cJ2_length_9d52b 4 = .ok (.ireturn, 1) := by decide +kernel
theorem dJ2_indexOf_4cfef_0 : decode cJ2_indexOf_4cfef 0 = .ok (.iload_n 2, 1) := by decide +kernel
theorem dJ2_indexOf_4cfef_1 : decode cJ2_indexOf_4cfef 1 = .ok (.iconst 0, 1) := by decide +kernel
theorem dJ2_indexOf_4cfef_2 : decode cJ2_indexOf_4cfef 2 = .ok (.invokestatic 224, 3) := by decide +kernel
theorem dJ2_indexOf_4cfef_5 : decode cJ2_indexOf_4cfef 5 = .ok (.istore_n 2, 1) := by decide +kernel
theorem dJ2_indexOf_4cfef_6 : decode cJ2_indexOf_4cfef 6 = .ok (.iload_n 3, 1) := by decide +kernel
theorem dJ2_indexOf_4cfef_7 : decode cJ2_indexOf_4cfef 7 = .ok (.aload_n 0, 1) := by decide +kernel
theorem dJ2_indexOf_4cfef_8 : decode cJ2_indexOf_4cfef 8 = .ok (.arraylength, 1) := by decide +kernel
theorem dJ2_indexOf_4cfef_9 : decode cJ2_indexOf_4cfef 9 = .ok (.iconst 1, 1) := by decide +kernel
theorem dJ2_indexOf_4cfef_10 : decode cJ2_indexOf_4cfef 10 = .ok (.ishr, 1) := by decide +kernel
theorem dJ2_indexOf_4cfef_11 : decode cJ2_indexOf_4cfef 11 = .ok (.invokestatic 183, 3) := by decide +kernel
theorem dJ2_indexOf_4cfef_14 : decode cJ2_indexOf_4cfef 14 = .ok (.istore_n 3, 1) := by decide +kernel
theorem dJ2_indexOf_4cfef_15 : decode cJ2_indexOf_4cfef 15 = .ok (.iload_n 2, 1) := by decide +kernel
theorem dJ2_indexOf_4cfef_16 : decode cJ2_indexOf_4cfef 16 = .ok (.iload_n 3, 1) := by decide +kernel
theorem dJ2_indexOf_4cfef_17 : decode cJ2_indexOf_4cfef 17 = .ok (.if_icmp .lt 5, 3) := by decide +kernel
theorem dJ2_indexOf_4cfef_20 : decode cJ2_indexOf_4cfef 20 = .ok (.iconst (-1), 1) := by decide +kernel
theorem dJ2_indexOf_4cfef_21 : decode cJ2_indexOf_4cfef 21 = .ok (.ireturn, 1) := by decide +kernel
theorem dJ2_indexOf_4cfef_22 : decode cJ2_indexOf_4cfef 22 = .ok (.iload_n 1, 1) := by decide +kernel
theorem dJ2_indexOf_4cfef_23 : decode cJ2_indexOf_4cfef 23 = .ok (.ldc 227, 2) := by decide +kernel
theorem dJ2_indexOf_4cfef_25 : decode cJ2_indexOf_4cfef 25 = .ok (.if_icmp .ge 11, 3) := by decide +kernel
theorem dJ2_indexOf_4cfef_28 : decode cJ2_indexOf_4cfef 28 = .ok (.aload_n 0, 1) := by decide +kernel
theorem dJ2_indexOf_4cfef_29 : decode cJ2_indexOf_4cfef 29 = .ok (.iload_n 1, 1) := by decide +kernel
theorem dJ2_indexOf_4cfef_30 : decode cJ2_indexOf_4cfef 30 = .ok (.iload_n 2, 1) := by decide +kernel
theorem dJ2_indexOf_4cfef_31 : decode cJ2_indexOf_4cfef 31 = .ok (.iload_n 3, 1) := by decide +kernel
theorem dJ2_indexOf_4cfef_32 : decode cJ2_indexOf_4cfef 32 = .ok (.invokestatic 228, 3) := by decide +kernel
theorem dJ2_indexOf_4cfef_35 : decode cJ2_indexOf_4cfef 35 = .ok (.ireturn, 1) := by decide +kernel
theorem dJ2_indexOf_4cfef_36 : decode cJ2_indexOf_4cfef 36 = .ok (.aload_n 0, 1) := by decide +kernel
theorem dJ2_indexOf_4cfef_37 : decode cJ2_indexOf_4cfef 37 = .ok (.iload_n 1, 1) := by decide +kernel
theorem dJ2_indexOf_4cfef_38 : decode cJ2_indexOf_4cfef 38 = .ok (.iload_n 2, 1) := by decide +kernel
theorem dJ2_indexOf_4cfef_39 : decode cJ2_indexOf_4cfef 39 = .ok (.iload_n 3, 1) := by decide +kernel
theorem dJ2_indexOf_4cfef_40 : decode cJ2_indexOf_4cfef 40 = .ok (.invokestatic 232, 3) := by decide +kernel
theorem dJ2_indexOf_4cfef_43 : decode cJ2_indexOf_4cfef 43 = .ok (.ireturn, 1) := by decide +kernel
theorem dJ2_indexOfChar_4cfef_0 : decode cJ2_indexOfChar_4cfef 0 = .ok (.iload_n 2, 1) := by decide +kernel
theorem dJ2_indexOfChar_4cfef_1 : decode cJ2_indexOfChar_4cfef 1 = .ok (.iload_n 3, 1) := by decide +kernel
theorem dJ2_indexOfChar_4cfef_2 : decode cJ2_indexOfChar_4cfef 2 = .ok (.aload_n 0, 1) := by decide +kernel
theorem dJ2_indexOfChar_4cfef_3 : decode cJ2_indexOfChar_4cfef 3 = .ok (.invokestatic 96, 3) := by decide +kernel
theorem dJ2_indexOfChar_4cfef_6 : decode cJ2_indexOfChar_4cfef 6 = .ok (.aload_n 0, 1) := by decide +kernel
theorem dJ2_indexOfChar_4cfef_7 : decode cJ2_indexOfChar_4cfef 7 = .ok (.iload_n 1, 1) := by decide +kernel
theorem dJ2_indexOfChar_4cfef_8 : decode cJ2_indexOfChar_4cfef 8 = .ok (.iload_n 2, 1) := by decide +kernel
theorem dJ2_indexOfChar_4cfef_9 : decode cJ2_indexOfChar_4cfef 9 = .ok (.iload_n 3, 1) := by decide +kernel
theorem dJ2_indexOfChar_4cfef_10 : decode cJ2_indexOfChar_4cfef 10 = .ok (.invokestatic 244, 3) := by decide +kernel
theorem dJ2_indexOfChar_4cfef_13 : decode cJ2_indexOfChar_4cfef 13 = .ok (.ireturn, 1) := by decide +kernel
theorem dJ2_indexOfCharUnsafe_4cfef_0 : decode cJ2_indexOfCharUnsafe_4cfef 0 = .ok (.iload_n 2, 1) := by decide +kernel
theorem dJ2_indexOfCharUnsafe_4cfef_1 : decode cJ2_indexOfCharUnsafe_4cfef 1 = .ok (.istore 4, 2) := by decide +kernel
theorem dJ2_indexOfCharUnsafe_4cfef_3 : decode cJ2_indexOfCharUnsafe_4cfef 3 = .ok (.iload 4, 2) := by decide +kernel
theorem dJ2_indexOfCharUnsafe_4cfef_5 : decode cJ2_indexOfCharUnsafe_4cfef 5 = .ok (.iload_n 3, 1) := by decide +kernel
theorem dJ2_indexOfCharUnsafe_4cfef_6 : decode cJ2_indexOfCharUnsafe_4cfef 6 = .ok (.if_icmp .ge 22, 3) := by decide +kernel
theorem dJ2_indexOfCharUnsafe_4cfef_9 : decode cJ2_indexOfCharUnsafe_4cfef 9 = .ok (.aload_n 0, 1) := by decide +kernel
theorem dJ2_indexOfCharUnsafe_4cfef_10 : decode cJ2_indexOfCharUnsafe_4cfef 10 = .ok (.iload 4, 2) := by decide +kernel
theorem dJ2_indexOfCharUnsafe_4cfef_12 : decode cJ2_indexOfCharUnsafe_4cfef 12 = .ok (.invokestatic 71, 3) := by decide +kernel
theorem dJ2_indexOfCharUnsafe_4cfef_15 : decode cJ2_indexOfCharUnsafe_4cfef 15 = .ok (.iload_n 1, 1) := by decide +kernel
theorem dJ2_indexOfCharUnsafe_4cfef_16 : decode cJ2_indexOfCharUnsafe_4cfef 16 = .ok (.if_icmp .ne 6, 3) := by decide +kernel
theorem dJ2_indexOfCharUnsafe_4cfef_19 : decode cJ2_indexOfCharUnsafe_4cfef 19 = .ok (.iload 4, 2) := by decide +kernel
theorem dJ2_indexOfCharUnsafe_4cfef_21 : decode cJ2_indexOfCharUnsafe_4cfef 21 = .ok (.ireturn, 1) := by decide +kernel
theorem dJ2_indexOfCharUnsafe_4cfef_22 : decode cJ2_indexOfCharUnsafe_4cfef 22 = .ok (.iinc 4 1, 3) := by decide +kernel
theorem dJ2_indexOfCharUnsafe_4cfef_25 : decode cJ2_indexOfCharUnsafe_4cfef 25 = .ok (.goto (-22), 3) := by decide +kernel
theorem dJ2_indexOfCharUnsafe_4cfef_28 : decode cJ2_indexOfCharUnsafe_4cfef 28 = .ok (.iconst (-1), 1) := by decide +kernel
theorem dJ2_indexOfCharUnsafe_4cfef_29 : decode cJ2_indexOfCharUnsafe_4cfef 29 = .ok (.ireturn, 1) := by decide +kernel
theorem dJ2_indexOfSupplementary_4cfef_0 : decode cJ2_indexOfSupplementary_4cfef 0 = .ok (.iload_n 1, 1) := by decide +kernel
theorem dJ2_indexOfSupplementary_4cfef_1 : decode cJ2_indexOfSupplementary_4cfef 1 = .ok (.invokestatic 164, 3) := by decide +kernel
theorem dJ2_indexOfSupplementary_4cfef_4 : decode cJ2_indexOfSupplementary_4cfef 4 = .ok (.ifCond .eq 65, 3) := by decide +kernel
theorem dJ2_indexOfSupplementary_4cfef_7 : decode cJ2_indexOfSupplementary_4cfef 7 = .ok (.iload_n 1, 1) := by decide +kernel
theorem dJ2_indexOfSupplementary_4cfef_8 : decode cJ2_indexOfSupplementary_4cfef 8 = .ok (.invokestatic 157, 3) := by decide +kernel
theorem dJ2_indexOfSupplementary_4cfef_11 : decode cJ2_indexOfSupplementary_4cfef 11 = .ok (.istore 4, 2) := by decide +kernel
theorem dJ2_indexOfSupplementary_4cfef_13 : decode cJ2_indexOfSupplementary_4cfef 13 = .ok (.iload_n 1, 1) := by decide +kernel
theorem dJ2_indexOfSupplementary_4cfef_14 : decode cJ2_indexOfSupplementary_4cfef 14 = .ok (.invokestatic 161, 3) := by decide +kernel
theorem dJ2_indexOfSupplementary_4cfef_17 : decode cJ2_indexOfSupplementary_4cfef 17 = .ok (.istore 5, 2) := by decide +kernel
theorem dJ2_indexOfSupplementary_4cfef_19 : decode cJ2_indexOfSupplementary_4cfef 19 = .ok (.iload_n 2, 1) := by decide +kernel
theorem dJ2_indexOfSupplementary_4cfef_20 : decode cJ2_indexOfSupplementary_4cfef 20 = .ok (.iload_n 3, 1) := by decide +kernel
theorem dJ2_indexOfSupplementary_4cfef_21 : decode cJ2_indexOfSupplementary_4cfef 21 = .ok (.aload_n 0, 1) := by decide +kernel
theorem dJ2_indexOfSupplementary_4cfef_22 : decode cJ2_indexOfSupplementary_4cfef 22 = .ok (.invokestatic 96, 3) := by decide +kernel
theorem dJ2_indexOfSupplementary_4cfef_25 : decode cJ2_indexOfSupplementary_4cfef 25 = .ok (.iload_n 2, 1) := by decide +kernel
theorem dJ2_indexOfSupplementary_4cfef_26 : decode cJ2_indexOfSupplementary_4cfef 26 = .ok (.istore 6, 2) := by decide +kernel
theorem dJ2_indexOfSupplementary_4cfef_28 : decode cJ2_indexOfSupplementary_4cfef 28 = .ok (.iload 6, 2) := by decide +kernel
theorem dJ2_indexOfSupplementary_4cfef_30 : decode cJ2_indexOfSupplementary_4cfef 30 = .ok (.iload_n 3, 1) := by decide +kernel
theorem dJ2_indexOfSupplementary_4cfef_31 : decode cJ2_indexOfSupplementary_4cfef 31 = .ok (.iconst 1, 1) := by decide +kernel
theorem dJ2_indexOfSupplementary_4cfef_32 : decode cJ2_indexOfSupplementary_4cfef 32 = .ok (.isub, 1) := by decide +kernel
theorem dJ2_indexOfSupplementary_4cfef_33 : decode cJ2_indexOfSupplementary_4cfef 33 = .ok (.if_icmp .ge 36, 3) := by decide +kernel
theorem dJ2_indexOfSupplementary_4cfef_36 : decode cJ2_indexOfSupplementary_4cfef 36 = .ok (.aload_n 0, 1) := by decide +kernel
theorem dJ2_indexOfSupplementary_4cfef_37 : decode cJ2_indexOfSupplementary_4cfef 37 = .ok (.iload 6, 2) := by decide +kernel
theorem dJ2_indexOfSupplementary_4cfef_39 : decode cJ2_indexOfSupplementary_4cfef 39 = .ok (.invokestatic 71, 3) := by decide +kernel
theorem dJ2_indexOfSupplementary_4cfef_42 : decode cJ2_indexOfSupplementary_4cfef 42 = .ok (.iload 4, 2) := by decide +kernel
theorem dJ2_indexOfSupplementary_4cfef_44 : decode cJ2_indexOfSupplementary_4cfef 44 = .ok (.if_icmp .ne 19, 3) := by decide +kernel
theorem dJ2_indexOfSupplementary_4cfef_47 : decode cJ2_indexOfSupplementary_4cfef 47 = .ok (.aload_n 0, 1) := by decide +kernel
theorem dJ2_indexOfSupplementary_4cfef_48 : decode cJ2_indexOfSupplementary_4cfef 48 = .ok (.iload 6, 2) := by decide +kernel
theorem dJ2_indexOfSupplementary_4cfef_50 : decode cJ2_indexOfSupplementary_4cfef 50 = .ok (.iconst 1, 1) := by decide +kernel
theorem dJ2_indexOfSupplementary_4cfef_51 : decode cJ2_indexOfSupplementary_4cfef 51 = .ok (.iadd, 1) := by decide +kernel
theorem dJ2_indexOfSupplementary_4cfef_52 : decode cJ2_indexOfSupplementary_4cfef 52 = .ok (.invokestatic 71, 3) := by decide +kernel
theorem dJ2_indexOfSupplementary_4cfef_55 : decode cJ2_indexOfSupplementary_4cfef 55 = .ok (.iload 5, 2) := by decide +kernel
theorem dJ2_indexOfSupplementary_4cfef_57 : decode cJ2_indexOfSupplementary_4cfef 57 = .ok (.if_icmp .ne 6, 3) := by decide +kernel
theorem dJ2_indexOfSupplementary_4cfef_60 : decode cJ2_indexOfSupplementary_4cfef 60 = .ok (.iload 6, 2) := by decide +kernel
theorem dJ2_indexOfSupplementary_4cfef_62 : decode cJ2_indexOfSupplementary_4cfef 62 = .ok (.ireturn, 1) := by decide +kernel
theorem dJ2_indexOfSupplementary_4cfef_63 : decode cJ2_indexOfSupplementary_4cfef 63 = .ok (.iinc 6 1, 3) := by decide +kernel
theorem dJ2_indexOfSupplementary_4cfef_66 : decode cJ2_indexOfSupplementary_4cfef 66 = .ok (.goto (-38), 3) := by decide +kernel
theorem dJ2_indexOfSupplementary_4cfef_69 : decode cJ2_indexOfSupplementary_4cfef 69 = .ok (.iconst (-1), 1) := by decide +kernel
theorem dJ2_indexOfSupplementary_4cfef_70 : decode cJ2_indexOfSupplementary_4cfef 70 = .ok (.ireturn, 1) := by decide +kernel
theorem dJ2_checkBoundsBeginEnd_d044e_0 : decode cJ2_checkBoundsBeginEnd_d044e 0 = .ok (.iload_n 0, 1) := by decide +kernel
theorem dJ2_checkBoundsBeginEnd_d044e_1 : decode cJ2_checkBoundsBeginEnd_d044e 1 = .ok (.iload_n 1, 1) := by decide +kernel
theorem dJ2_checkBoundsBeginEnd_d044e_2 : decode cJ2_checkBoundsBeginEnd_d044e 2 = .ok (.aload_n 2, 1) := by decide +kernel
theorem dJ2_checkBoundsBeginEnd_d044e_3 : decode cJ2_checkBoundsBeginEnd_d044e 3 = .ok (.invokestatic 48, 3) := by decide +kernel
theorem dJ2_checkBoundsBeginEnd_d044e_6 : decode cJ2_checkBoundsBeginEnd_d044e 6 = .ok (.invokestatic 241, 3) := by decide +kernel
theorem dJ2_checkBoundsBeginEnd_d044e_9 : decode cJ2_checkBoundsBeginEnd_d044e 9 = .ok (.return_, 1) := by decide +kernel
theorem dJ3_checkFromToIndex_8c36e_0 : decode cJ3_checkFromToIndex_8c36e 0 = .ok (.iload_n 0, 1) := by decide +kernel
theorem dJ3_checkFromToIndex_8c36e_1 : decode cJ3_checkFromToIndex_8c36e 1 = .ok (.ifCond .lt 13, 3) := by decide +kernel
theorem dJ3_checkFromToIndex_8c36e_4 : decode cJ3_checkFromToIndex_8c36e 4 = .ok (.iload_n 0, 1) := by decide +kernel
theorem dJ3_checkFromToIndex_8c36e_5 : decode cJ3_checkFromToIndex_8c36e 5 = .ok (.iload_n 1, 1) := by decide +kernel
theorem dJ3_checkFromToIndex_8c36e_6 : decode cJ3_checkFromToIndex_8c36e 6 = .ok (.if_icmp .gt 8, 3) := by decide +kernel
theorem dJ3_checkFromToIndex_8c36e_9 : decode cJ3_checkFromToIndex_8c36e 9 = .ok (.iload_n 1, 1) := by decide +kernel
theorem dJ3_checkFromToIndex_8c36e_10 : decode cJ3_checkFromToIndex_8c36e 10 = .ok (.iload_n 2, 1) := by decide +kernel
theorem dJ3_checkFromToIndex_8c36e_11 : decode cJ3_checkFromToIndex_8c36e 11 = .ok (.if_icmp .le 11, 3) := by decide +kernel
theorem dJ3_checkFromToIndex_8c36e_14 : decode cJ3_checkFromToIndex_8c36e 14 = .ok (.aload_n 3, 1) := by decide +kernel
theorem dJ3_checkFromToIndex_8c36e_15 : decode cJ3_checkFromToIndex_8c36e 15 = .ok (.iload_n 0, 1) := by decide +kernel
theorem dJ3_checkFromToIndex_8c36e_16 : decode cJ3_checkFromToIndex_8c36e 16 = .ok (.iload_n 1, 1) := by decide +kernel
theorem dJ3_checkFromToIndex_8c36e_17 : decode cJ3_checkFromToIndex_8c36e 17 = .ok (.iload_n 2, 1) := by decide +kernel
theorem dJ3_checkFromToIndex_8c36e_18 : decode cJ3_checkFromToIndex_8c36e 18 = .ok (.invokestatic 99, 3) := by decide +kernel
theorem dJ3_checkFromToIndex_8c36e_21 : decode cJ3_checkFromToIndex_8c36e 21 = .ok (.athrow, 1) := by decide +kernel
theorem dJ3_checkFromToIndex_8c36e_22 : decode cJ3_checkFromToIndex_8c36e 22 = .ok (.iload_n 0, 1) := by decide +kernel
theorem dJ3_checkFromToIndex_8c36e_23 : decode cJ3_checkFromToIndex_8c36e 23 = .ok (.ireturn, 1) := by decide +kernel
theorem dL_law_0 : decode cL_law 0 = .ok (.new 7, 3) := by decide +kernel
theorem dL_law_3 : decode cL_law 3 = .ok (.dup, 1) := by decide +kernel
theorem dL_law_4 : decode cL_law 4 = .ok (.invokespecial 9, 3) := by decide +kernel
theorem dL_law_7 : decode cL_law 7 = .ok (.astore_n 1, 1) := by decide +kernel
theorem dL_law_8 : decode cL_law 8 = .ok (.new 10, 3) := by decide +kernel
theorem dL_law_11 : decode cL_law 11 = .ok (.dup, 1) := by decide +kernel
theorem dL_law_12 : decode cL_law 12 = .ok (.invokespecial 12, 3) := by decide +kernel
theorem dL_law_15 : decode cL_law 15 = .ok (.astore_n 2, 1) := by decide +kernel
theorem dL_law_16 : decode cL_law 16 = .ok (.iconst 0, 1) := by decide +kernel
theorem dL_law_17 : decode cL_law 17 = .ok (.istore_n 3, 1) := by decide +kernel
theorem dL_law_18 : decode cL_law 18 = .ok (.iload_n 3, 1) := by decide +kernel
theorem dL_law_19 : decode cL_law 19 = .ok (.aload_n 0, 1) := by decide +kernel
theorem dL_law_20 : decode cL_law 20 = .ok (.arraylength, 1) := by decide +kernel
theorem dL_law_21 : decode cL_law 21 = .ok (.bipush 6, 2) := by decide +kernel
theorem dL_law_23 : decode cL_law 23 = .ok (.isub, 1) := by decide +kernel
theorem dL_law_24 : decode cL_law 24 = .ok (.if_icmp .gt 1518, 3) := by decide +kernel
theorem dL_law_27 : decode cL_law 27 = .ok (.aload_n 0, 1) := by decide +kernel
theorem dL_law_28 : decode cL_law 28 = .ok (.iload_n 3, 1) := by decide +kernel
theorem dL_law_29 : decode cL_law 29 = .ok (.iaload, 1) := by decide +kernel
theorem dL_law_30 : decode cL_law 30 = .ok (.bipush 63, 2) := by decide +kernel
theorem dL_law_32 : decode cL_law 32 = .ok (.iand, 1) := by decide +kernel
theorem dL_law_33 : decode cL_law 33 = .ok (.tableswitch 1503 0 40 #[179, 212, 255, 298, 331, 354, 367, 410, 443, 486, 529, 562, 595, 628, 661, 694, 727, 770, 803, 826, 849, 872, 895, 928, 961, 1014, 1037, 1060, 1073, 1086, 1099, 1112, 1135, 1178, 1201, 1234, 1277, 1350, 1384, 1447, 1480], 179) := by decide +kernel
theorem dL_law_212 : decode cL_law 212 = .ok (.aload_n 1, 1) := by decide +kernel
theorem dL_law_213 : decode cL_law 213 = .ok (.aload_n 0, 1) := by decide +kernel
theorem dL_law_214 : decode cL_law 214 = .ok (.iload_n 3, 1) := by decide +kernel
theorem dL_law_215 : decode cL_law 215 = .ok (.iconst 1, 1) := by decide +kernel
theorem dL_law_216 : decode cL_law 216 = .ok (.iadd, 1) := by decide +kernel
theorem dL_law_217 : decode cL_law 217 = .ok (.iaload, 1) := by decide +kernel
theorem dL_law_218 : decode cL_law 218 = .ok (.aload_n 0, 1) := by decide +kernel
theorem dL_law_219 : decode cL_law 219 = .ok (.iload_n 3, 1) := by decide +kernel
theorem dL_law_220 : decode cL_law 220 = .ok (.iconst 2, 1) := by decide +kernel
theorem dL_law_221 : decode cL_law 221 = .ok (.iadd, 1) := by decide +kernel
theorem dL_law_222 : decode cL_law 222 = .ok (.iaload, 1) := by decide +kernel
theorem dL_law_223 : decode cL_law 223 = .ok (.invokevirtual 13, 3) := by decide +kernel
theorem dL_law_226 : decode cL_law 226 = .ok (.aload_n 2, 1) := by decide +kernel
theorem dL_law_227 : decode cL_law 227 = .ok (.aload_n 0, 1) := by decide +kernel
theorem dL_law_228 : decode cL_law 228 = .ok (.iload_n 3, 1) := by decide +kernel
theorem dL_law_229 : decode cL_law 229 = .ok (.iconst 1, 1) := by decide +kernel
theorem dL_law_230 : decode cL_law 230 = .ok (.iadd, 1) := by decide +kernel
theorem dL_law_231 : decode cL_law 231 = .ok (.iaload, 1) := by decide +kernel
theorem dL_law_232 : decode cL_law 232 = .ok (.aload_n 0, 1) := by decide +kernel
theorem dL_law_233 : decode cL_law 233 = .ok (.iload_n 3, 1) := by decide +kernel
theorem dL_law_234 : decode cL_law 234 = .ok (.iconst 2, 1) := by decide +kernel
theorem dL_law_235 : decode cL_law 235 = .ok (.iadd, 1) := by decide +kernel
theorem dL_law_236 : decode cL_law 236 = .ok (.iaload, 1) := by decide +kernel
theorem dL_law_237 : decode cL_law 237 = .ok (.invokevirtual 17, 3) := by decide +kernel
theorem dL_law_240 : decode cL_law 240 = .ok (.if_icmp .eq 1296, 3) := by decide +kernel
theorem dL_law_243 : decode cL_law 243 = .ok (.iconst 0, 1) := by decide +kernel
theorem dL_law_244 : decode cL_law 244 = .ok (.ireturn, 1) := by decide +kernel
theorem dL_law_245 : decode cL_law 245 = .ok (.aload_n 1, 1) := by decide +kernel
theorem dL_law_246 : decode cL_law 246 = .ok (.aload_n 0, 1) := by decide +kernel
theorem dL_law_247 : decode cL_law 247 = .ok (.iload_n 3, 1) := by decide +kernel
theorem dL_law_248 : decode cL_law 248 = .ok (.iconst 1, 1) := by decide +kernel
theorem dL_law_249 : decode cL_law 249 = .ok (.iadd, 1) := by decide +kernel
theorem dL_law_250 : decode cL_law 250 = .ok (.iaload, 1) := by decide +kernel
theorem dL_law_251 : decode cL_law 251 = .ok (.aload_n 0, 1) := by decide +kernel
theorem dL_law_252 : decode cL_law 252 = .ok (.iload_n 3, 1) := by decide +kernel
theorem dL_law_253 : decode cL_law 253 = .ok (.iconst 2, 1) := by decide +kernel
theorem dL_law_254 : decode cL_law 254 = .ok (.iadd, 1) := by decide +kernel
theorem dL_law_255 : decode cL_law 255 = .ok (.iaload, 1) := by decide +kernel
theorem dL_law_256 : decode cL_law 256 = .ok (.aload_n 0, 1) := by decide +kernel
theorem dL_law_257 : decode cL_law 257 = .ok (.iload_n 3, 1) := by decide +kernel
theorem dL_law_258 : decode cL_law 258 = .ok (.iconst 3, 1) := by decide +kernel
theorem dL_law_259 : decode cL_law 259 = .ok (.iadd, 1) := by decide +kernel
theorem dL_law_260 : decode cL_law 260 = .ok (.iaload, 1) := by decide +kernel
theorem dL_law_261 : decode cL_law 261 = .ok (.invokevirtual 18, 3) := by decide +kernel
theorem dL_law_264 : decode cL_law 264 = .ok (.aload_n 2, 1) := by decide +kernel
theorem dL_law_265 : decode cL_law 265 = .ok (.aload_n 0, 1) := by decide +kernel
theorem dL_law_266 : decode cL_law 266 = .ok (.iload_n 3, 1) := by decide +kernel
theorem dL_law_267 : decode cL_law 267 = .ok (.iconst 1, 1) := by decide +kernel
theorem dL_law_268 : decode cL_law 268 = .ok (.iadd, 1) := by decide +kernel
theorem dL_law_269 : decode cL_law 269 = .ok (.iaload, 1) := by decide +kernel
theorem dL_law_270 : decode cL_law 270 = .ok (.aload_n 0, 1) := by decide +kernel
theorem dL_law_271 : decode cL_law 271 = .ok (.iload_n 3, 1) := by decide +kernel
theorem dL_law_272 : decode cL_law 272 = .ok (.iconst 2, 1) := by decide +kernel
theorem dL_law_273 : decode cL_law 273 = .ok (.iadd, 1) := by decide +kernel
theorem dL_law_274 : decode cL_law 274 = .ok (.iaload, 1) := by decide +kernel
theorem dL_law_275 : decode cL_law 275 = .ok (.aload_n 0, 1) := by decide +kernel
theorem dL_law_276 : decode cL_law 276 = .ok (.iload_n 3, 1) := by decide +kernel
theorem dL_law_277 : decode cL_law 277 = .ok (.iconst 3, 1) := by decide +kernel
theorem dL_law_278 : decode cL_law 278 = .ok (.iadd, 1) := by decide +kernel
theorem dL_law_279 : decode cL_law 279 = .ok (.iaload, 1) := by decide +kernel
theorem dL_law_280 : decode cL_law 280 = .ok (.invokevirtual 22, 3) := by decide +kernel
theorem dL_law_283 : decode cL_law 283 = .ok (.if_icmp .eq 1253, 3) := by decide +kernel
theorem dL_law_286 : decode cL_law 286 = .ok (.iconst 0, 1) := by decide +kernel
theorem dL_law_287 : decode cL_law 287 = .ok (.ireturn, 1) := by decide +kernel
theorem dL_law_288 : decode cL_law 288 = .ok (.aload_n 1, 1) := by decide +kernel
theorem dL_law_289 : decode cL_law 289 = .ok (.aload_n 0, 1) := by decide +kernel
theorem dL_law_290 : decode cL_law 290 = .ok (.iload_n 3, 1) := by decide +kernel
theorem dL_law_291 : decode cL_law 291 = .ok (.iconst 1, 1) := by decide +kernel
theorem dL_law_292 : decode cL_law 292 = .ok (.iadd, 1) := by decide +kernel
theorem dL_law_293 : decode cL_law 293 = .ok (.iaload, 1) := by decide +kernel
theorem dL_law_294 : decode cL_law 294 = .ok (.aload_n 0, 1) := by decide +kernel
theorem dL_law_295 : decode cL_law 295 = .ok (.iload_n 3, 1) := by decide +kernel
theorem dL_law_296 : decode cL_law 296 = .ok (.iconst 2, 1) := by decide +kernel
theorem dL_law_297 : decode cL_law 297 = .ok (.iadd, 1) := by decide +kernel
theorem dL_law_298 : decode cL_law 298 = .ok (.iaload, 1) := by decide +kernel
theorem dL_law_299 : decode cL_law 299 = .ok (.aload_n 0, 1) := by decide +kernel
theorem dL_law_300 : decode cL_law 300 = .ok (.iload_n 3, 1) := by decide +kernel
theorem dL_law_301 : decode cL_law 301 = .ok (.iconst 3, 1) := by decide +kernel
theorem dL_law_302 : decode cL_law 302 = .ok (.iadd, 1) := by decide +kernel
theorem dL_law_303 : decode cL_law 303 = .ok (.iaload, 1) := by decide +kernel
theorem dL_law_304 : decode cL_law 304 = .ok (.invokevirtual 23, 3) := by decide +kernel
theorem dL_law_307 : decode cL_law 307 = .ok (.aload_n 2, 1) := by decide +kernel
theorem dL_law_308 : decode cL_law 308 = .ok (.aload_n 0, 1) := by decide +kernel
theorem dL_law_309 : decode cL_law 309 = .ok (.iload_n 3, 1) := by decide +kernel
theorem dL_law_310 : decode cL_law 310 = .ok (.iconst 1, 1) := by decide +kernel
theorem dL_law_311 : decode cL_law 311 = .ok (.iadd, 1) := by decide +kernel
theorem dL_law_312 : decode cL_law 312 = .ok (.iaload, 1) := by decide +kernel
theorem dL_law_313 : decode cL_law 313 = .ok (.aload_n 0, 1) := by decide +kernel
theorem dL_law_314 : decode cL_law 314 = .ok (.iload_n 3, 1) := by decide +kernel
theorem dL_law_315 : decode cL_law 315 = .ok (.iconst 2, 1) := by decide +kernel
theorem dL_law_316 : decode cL_law 316 = .ok (.iadd, 1) := by decide +kernel
theorem dL_law_317 : decode cL_law 317 = .ok (.iaload, 1) := by decide +kernel
theorem dL_law_318 : decode cL_law 318 = .ok (.aload_n 0, 1) := by decide +kernel
theorem dL_law_319 : decode cL_law 319 = .ok (.iload_n 3, 1) := by decide +kernel
theorem dL_law_320 : decode cL_law 320 = .ok (.iconst 3, 1) := by decide +kernel
theorem dL_law_321 : decode cL_law 321 = .ok (.iadd, 1) := by decide +kernel
theorem dL_law_322 : decode cL_law 322 = .ok (.iaload, 1) := by decide +kernel
theorem dL_law_323 : decode cL_law 323 = .ok (.invokevirtual 26, 3) := by decide +kernel
theorem dL_law_326 : decode cL_law 326 = .ok (.if_icmp .eq 1210, 3) := by decide +kernel
theorem dL_law_329 : decode cL_law 329 = .ok (.iconst 0, 1) := by decide +kernel
theorem dL_law_330 : decode cL_law 330 = .ok (.ireturn, 1) := by decide +kernel
theorem dL_law_331 : decode cL_law 331 = .ok (.aload_n 1, 1) := by decide +kernel
theorem dL_law_332 : decode cL_law 332 = .ok (.aload_n 0, 1) := by decide +kernel
theorem dL_law_333 : decode cL_law 333 = .ok (.iload_n 3, 1) := by decide +kernel
theorem dL_law_334 : decode cL_law 334 = .ok (.iconst 1, 1) := by decide +kernel
theorem dL_law_335 : decode cL_law 335 = .ok (.iadd, 1) := by decide +kernel
theorem dL_law_336 : decode cL_law 336 = .ok (.iaload, 1) := by decide +kernel
theorem dL_law_337 : decode cL_law 337 = .ok (.aload_n 0, 1) := by decide +kernel
theorem dL_law_338 : decode cL_law 338 = .ok (.iload_n 3, 1) := by decide +kernel
theorem dL_law_339 : decode cL_law 339 = .ok (.iconst 2, 1) := by decide +kernel
theorem dL_law_340 : decode cL_law 340 = .ok (.iadd, 1) := by decide +kernel
theorem dL_law_341 : decode cL_law 341 = .ok (.iaload, 1) := by decide +kernel
theorem dL_law_342 : decode cL_law 342 = .ok (.invokevirtual 27, 3) := by decide +kernel
theorem dL_law_345 : decode cL_law 345 = .ok (.aload_n 2, 1) := by decide +kernel
theorem dL_law_346 : decode cL_law 346 = .ok (.aload_n 0, 1) := by decide +kernel
theorem dL_law_347 : decode cL_law 347 = .ok (.iload_n 3, 1) := by decide +kernel
theorem dL_law_348 : decode cL_law 348 = .ok (.iconst 1, 1) := by decide +kernel
theorem dL_law_349 : decode cL_law 349 = .ok (.iadd, 1) := by decide +kernel
theorem dL_law_350 : decode cL_law 350 = .ok (.iaload, 1) := by decide +kernel
theorem dL_law_351 : decode cL_law 351 = .ok (.aload_n 0, 1) := by decide +kernel
theorem dL_law_352 : decode cL_law 352 = .ok (.iload_n 3, 1) := by decide +kernel
theorem dL_law_353 : decode cL_law 353 = .ok (.iconst 2, 1) := by decide +kernel
theorem dL_law_354 : decode cL_law 354 = .ok (.iadd, 1) := by decide +kernel
theorem dL_law_355 : decode cL_law 355 = .ok (.iaload, 1) := by decide +kernel
theorem dL_law_356 : decode cL_law 356 = .ok (.invokevirtual 30, 3) := by decide +kernel
theorem dL_law_359 : decode cL_law 359 = .ok (.if_icmp .eq 1177, 3) := by decide +kernel
theorem dL_law_362 : decode cL_law 362 = .ok (.iconst 0, 1) := by decide +kernel
theorem dL_law_363 : decode cL_law 363 = .ok (.ireturn, 1) := by decide +kernel
theorem dL_law_364 : decode cL_law 364 = .ok (.aload_n 1, 1) := by decide +kernel
theorem dL_law_365 : decode cL_law 365 = .ok (.aload_n 0, 1) := by decide +kernel
theorem dL_law_366 : decode cL_law 366 = .ok (.iload_n 3, 1) := by decide +kernel
theorem dL_law_367 : decode cL_law 367 = .ok (.iconst 1, 1) := by decide +kernel
theorem dL_law_368 : decode cL_law 368 = .ok (.iadd, 1) := by decide +kernel
theorem dL_law_369 : decode cL_law 369 = .ok (.iaload, 1) := by decide +kernel
theorem dL_law_370 : decode cL_law 370 = .ok (.invokevirtual 31, 3) := by decide +kernel
theorem dL_law_373 : decode cL_law 373 = .ok (.aload_n 2, 1) := by decide +kernel
theorem dL_law_374 : decode cL_law 374 = .ok (.aload_n 0, 1) := by decide +kernel
theorem dL_law_375 : decode cL_law 375 = .ok (.iload_n 3, 1) := by decide +kernel
theorem dL_law_376 : decode cL_law 376 = .ok (.iconst 1, 1) := by decide +kernel
theorem dL_law_377 : decode cL_law 377 = .ok (.iadd, 1) := by decide +kernel
theorem dL_law_378 : decode cL_law 378 = .ok (.iaload, 1) := by decide +kernel
theorem dL_law_379 : decode cL_law 379 = .ok (.invokevirtual 35, 3) := by decide +kernel
theorem dL_law_382 : decode cL_law 382 = .ok (.if_icmp .eq 1154, 3) := by decide +kernel
theorem dL_law_385 : decode cL_law 385 = .ok (.iconst 0, 1) := by decide +kernel
theorem dL_law_386 : decode cL_law 386 = .ok (.ireturn, 1) := by decide +kernel
theorem dL_law_387 : decode cL_law 387 = .ok (.aload_n 1, 1) := by decide +kernel
theorem dL_law_388 : decode cL_law 388 = .ok (.invokevirtual 36, 3) := by decide +kernel
theorem dL_law_391 : decode cL_law 391 = .ok (.aload_n 2, 1) := by decide +kernel
theorem dL_law_392 : decode cL_law 392 = .ok (.invokevirtual 40, 3) := by decide +kernel
theorem dL_law_395 : decode cL_law 395 = .ok (.if_icmp .eq 1141, 3) := by decide +kernel
theorem dL_law_398 : decode cL_law 398 = .ok (.iconst 0, 1) := by decide +kernel
theorem dL_law_399 : decode cL_law 399 = .ok (.ireturn, 1) := by decide +kernel
theorem dL_law_400 : decode cL_law 400 = .ok (.aload_n 1, 1) := by decide +kernel
theorem dL_law_401 : decode cL_law 401 = .ok (.aload_n 0, 1) := by decide +kernel
theorem dL_law_402 : decode cL_law 402 = .ok (.iload_n 3, 1) := by decide +kernel
theorem dL_law_403 : decode cL_law 403 = .ok (.iconst 1, 1) := by decide +kernel
theorem dL_law_404 : decode cL_law 404 = .ok (.iadd, 1) := by decide +kernel
theorem dL_law_405 : decode cL_law 405 = .ok (.iaload, 1) := by decide +kernel
theorem dL_law_406 : decode cL_law 406 = .ok (.aload_n 0, 1) := by decide +kernel
theorem dL_law_407 : decode cL_law 407 = .ok (.iload_n 3, 1) := by decide +kernel
theorem dL_law_408 : decode cL_law 408 = .ok (.iconst 2, 1) := by decide +kernel
theorem dL_law_409 : decode cL_law 409 = .ok (.iadd, 1) := by decide +kernel
theorem dL_law_410 : decode cL_law 410 = .ok (.iaload, 1) := by decide +kernel
theorem dL_law_411 : decode cL_law 411 = .ok (.aload_n 0, 1) := by decide +kernel
theorem dL_law_412 : decode cL_law 412 = .ok (.iload_n 3, 1) := by decide +kernel
theorem dL_law_413 : decode cL_law 413 = .ok (.iconst 3, 1) := by decide +kernel
theorem dL_law_414 : decode cL_law 414 = .ok (.iadd, 1) := by decide +kernel
theorem dL_law_415 : decode cL_law 415 = .ok (.iaload, 1) := by decide +kernel
theorem dL_law_416 : decode cL_law 416 = .ok (.invokevirtual 41, 3) := by decide +kernel
theorem dL_law_419 : decode cL_law 419 = .ok (.aload_n 2, 1) := by decide +kernel
theorem dL_law_420 : decode cL_law 420 = .ok (.aload_n 0, 1) := by decide +kernel
theorem dL_law_421 : decode cL_law 421 = .ok (.iload_n 3, 1) := by decide +kernel
theorem dL_law_422 : decode cL_law 422 = .ok (.iconst 1, 1) := by decide +kernel
theorem dL_law_423 : decode cL_law 423 = .ok (.iadd, 1) := by decide +kernel
theorem dL_law_424 : decode cL_law 424 = .ok (.iaload, 1) := by decide +kernel
theorem dL_law_425 : decode cL_law 425 = .ok (.aload_n 0, 1) := by decide +kernel
theorem dL_law_426 : decode cL_law 426 = .ok (.iload_n 3, 1) := by decide +kernel
theorem dL_law_427 : decode cL_law 427 = .ok (.iconst 2, 1) := by decide +kernel
theorem dL_law_428 : decode cL_law 428 = .ok (.iadd, 1) := by decide +kernel
theorem dL_law_429 : decode cL_law 429 = .ok (.iaload, 1) := by decide +kernel
theorem dL_law_430 : decode cL_law 430 = .ok (.aload_n 0, 1) := by decide +kernel
theorem dL_law_431 : decode cL_law 431 = .ok (.iload_n 3, 1) := by decide +kernel
theorem dL_law_432 : decode cL_law 432 = .ok (.iconst 3, 1) := by decide +kernel
theorem dL_law_433 : decode cL_law 433 = .ok (.iadd, 1) := by decide +kernel
theorem dL_law_434 : decode cL_law 434 = .ok (.iaload, 1) := by decide +kernel
theorem dL_law_435 : decode cL_law 435 = .ok (.invokevirtual 44, 3) := by decide +kernel
theorem dL_law_438 : decode cL_law 438 = .ok (.if_icmp .eq 1098, 3) := by decide +kernel
theorem dL_law_441 : decode cL_law 441 = .ok (.iconst 0, 1) := by decide +kernel
theorem dL_law_442 : decode cL_law 442 = .ok (.ireturn, 1) := by decide +kernel
theorem dL_law_443 : decode cL_law 443 = .ok (.aload_n 1, 1) := by decide +kernel
theorem dL_law_444 : decode cL_law 444 = .ok (.aload_n 0, 1) := by decide +kernel
theorem dL_law_445 : decode cL_law 445 = .ok (.iload_n 3, 1) := by decide +kernel
theorem dL_law_446 : decode cL_law 446 = .ok (.iconst 1, 1) := by decide +kernel
theorem dL_law_447 : decode cL_law 447 = .ok (.iadd, 1) := by decide +kernel
theorem dL_law_448 : decode cL_law 448 = .ok (.iaload, 1) := by decide +kernel
theorem dL_law_449 : decode cL_law 449 = .ok (.aload_n 0, 1) := by decide +kernel
theorem dL_law_450 : decode cL_law 450 = .ok (.iload_n 3, 1) := by decide +kernel
theorem dL_law_451 : decode cL_law 451 = .ok (.iconst 2, 1) := by decide +kernel
theorem dL_law_452 : decode cL_law 452 = .ok (.iadd, 1) := by decide +kernel
theorem dL_law_453 : decode cL_law 453 = .ok (.iaload, 1) := by decide +kernel
theorem dL_law_454 : decode cL_law 454 = .ok (.invokevirtual 45, 3) := by decide +kernel
theorem dL_law_457 : decode cL_law 457 = .ok (.aload_n 2, 1) := by decide +kernel
theorem dL_law_458 : decode cL_law 458 = .ok (.aload_n 0, 1) := by decide +kernel
theorem dL_law_459 : decode cL_law 459 = .ok (.iload_n 3, 1) := by decide +kernel
theorem dL_law_460 : decode cL_law 460 = .ok (.iconst 1, 1) := by decide +kernel
theorem dL_law_461 : decode cL_law 461 = .ok (.iadd, 1) := by decide +kernel
theorem dL_law_462 : decode cL_law 462 = .ok (.iaload, 1) := by decide +kernel
theorem dL_law_463 : decode cL_law 463 = .ok (.aload_n 0, 1) := by decide +kernel
theorem dL_law_464 : decode cL_law 464 = .ok (.iload_n 3, 1) := by decide +kernel
theorem dL_law_465 : decode cL_law 465 = .ok (.iconst 2, 1) := by decide +kernel
theorem dL_law_466 : decode cL_law 466 = .ok (.iadd, 1) := by decide +kernel
theorem dL_law_467 : decode cL_law 467 = .ok (.iaload, 1) := by decide +kernel
theorem dL_law_468 : decode cL_law 468 = .ok (.invokevirtual 48, 3) := by decide +kernel
theorem dL_law_471 : decode cL_law 471 = .ok (.if_icmp .eq 1065, 3) := by decide +kernel
theorem dL_law_474 : decode cL_law 474 = .ok (.iconst 0, 1) := by decide +kernel
theorem dL_law_475 : decode cL_law 475 = .ok (.ireturn, 1) := by decide +kernel
theorem dL_law_476 : decode cL_law 476 = .ok (.aload_n 1, 1) := by decide +kernel
theorem dL_law_477 : decode cL_law 477 = .ok (.aload_n 0, 1) := by decide +kernel
theorem dL_law_478 : decode cL_law 478 = .ok (.iload_n 3, 1) := by decide +kernel
theorem dL_law_479 : decode cL_law 479 = .ok (.iconst 1, 1) := by decide +kernel
theorem dL_law_480 : decode cL_law 480 = .ok (.iadd, 1) := by decide +kernel
theorem dL_law_481 : decode cL_law 481 = .ok (.iaload, 1) := by decide +kernel
theorem dL_law_482 : decode cL_law 482 = .ok (.aload_n 0, 1) := by decide +kernel
theorem dL_law_483 : decode cL_law 483 = .ok (.iload_n 3, 1) := by decide +kernel
theorem dL_law_484 : decode cL_law 484 = .ok (.iconst 2, 1) := by decide +kernel
theorem dL_law_485 : decode cL_law 485 = .ok (.iadd, 1) := by decide +kernel
theorem dL_law_486 : decode cL_law 486 = .ok (.iaload, 1) := by decide +kernel
theorem dL_law_487 : decode cL_law 487 = .ok (.aload_n 0, 1) := by decide +kernel
theorem dL_law_488 : decode cL_law 488 = .ok (.iload_n 3, 1) := by decide +kernel
theorem dL_law_489 : decode cL_law 489 = .ok (.iconst 3, 1) := by decide +kernel
theorem dL_law_490 : decode cL_law 490 = .ok (.iadd, 1) := by decide +kernel
theorem dL_law_491 : decode cL_law 491 = .ok (.iaload, 1) := by decide +kernel
theorem dL_law_492 : decode cL_law 492 = .ok (.invokevirtual 49, 3) := by decide +kernel
theorem dL_law_495 : decode cL_law 495 = .ok (.aload_n 2, 1) := by decide +kernel
theorem dL_law_496 : decode cL_law 496 = .ok (.aload_n 0, 1) := by decide +kernel
theorem dL_law_497 : decode cL_law 497 = .ok (.iload_n 3, 1) := by decide +kernel
theorem dL_law_498 : decode cL_law 498 = .ok (.iconst 1, 1) := by decide +kernel
theorem dL_law_499 : decode cL_law 499 = .ok (.iadd, 1) := by decide +kernel
theorem dL_law_500 : decode cL_law 500 = .ok (.iaload, 1) := by decide +kernel
theorem dL_law_501 : decode cL_law 501 = .ok (.aload_n 0, 1) := by decide +kernel
theorem dL_law_502 : decode cL_law 502 = .ok (.iload_n 3, 1) := by decide +kernel
theorem dL_law_503 : decode cL_law 503 = .ok (.iconst 2, 1) := by decide +kernel
theorem dL_law_504 : decode cL_law 504 = .ok (.iadd, 1) := by decide +kernel
theorem dL_law_505 : decode cL_law 505 = .ok (.iaload, 1) := by decide +kernel
theorem dL_law_506 : decode cL_law 506 = .ok (.aload_n 0, 1) := by decide +kernel
theorem dL_law_507 : decode cL_law 507 = .ok (.iload_n 3, 1) := by decide +kernel
theorem dL_law_508 : decode cL_law 508 = .ok (.iconst 3, 1) := by decide +kernel
theorem dL_law_509 : decode cL_law 509 = .ok (.iadd, 1) := by decide +kernel
theorem dL_law_510 : decode cL_law 510 = .ok (.iaload, 1) := by decide +kernel
theorem dL_law_511 : decode cL_law 511 = .ok (.invokevirtual 52, 3) := by decide +kernel
theorem dL_law_514 : decode cL_law 514 = .ok (.if_icmp .eq 1022, 3) := by decide +kernel
theorem dL_law_517 : decode cL_law 517 = .ok (.iconst 0, 1) := by decide +kernel
theorem dL_law_518 : decode cL_law 518 = .ok (.ireturn, 1) := by decide +kernel
theorem dL_law_519 : decode cL_law 519 = .ok (.aload_n 1, 1) := by decide +kernel
theorem dL_law_520 : decode cL_law 520 = .ok (.aload_n 0, 1) := by decide +kernel
theorem dL_law_521 : decode cL_law 521 = .ok (.iload_n 3, 1) := by decide +kernel
theorem dL_law_522 : decode cL_law 522 = .ok (.iconst 1, 1) := by decide +kernel
theorem dL_law_523 : decode cL_law 523 = .ok (.iadd, 1) := by decide +kernel
theorem dL_law_524 : decode cL_law 524 = .ok (.iaload, 1) := by decide +kernel
theorem dL_law_525 : decode cL_law 525 = .ok (.aload_n 0, 1) := by decide +kernel
theorem dL_law_526 : decode cL_law 526 = .ok (.iload_n 3, 1) := by decide +kernel
theorem dL_law_527 : decode cL_law 527 = .ok (.iconst 2, 1) := by decide +kernel
theorem dL_law_528 : decode cL_law 528 = .ok (.iadd, 1) := by decide +kernel
theorem dL_law_529 : decode cL_law 529 = .ok (.iaload, 1) := by decide +kernel
theorem dL_law_530 : decode cL_law 530 = .ok (.aload_n 0, 1) := by decide +kernel
theorem dL_law_531 : decode cL_law 531 = .ok (.iload_n 3, 1) := by decide +kernel
theorem dL_law_532 : decode cL_law 532 = .ok (.iconst 3, 1) := by decide +kernel
theorem dL_law_533 : decode cL_law 533 = .ok (.iadd, 1) := by decide +kernel
theorem dL_law_534 : decode cL_law 534 = .ok (.iaload, 1) := by decide +kernel
theorem dL_law_535 : decode cL_law 535 = .ok (.invokevirtual 53, 3) := by decide +kernel
theorem dL_law_538 : decode cL_law 538 = .ok (.aload_n 2, 1) := by decide +kernel
theorem dL_law_539 : decode cL_law 539 = .ok (.aload_n 0, 1) := by decide +kernel
theorem dL_law_540 : decode cL_law 540 = .ok (.iload_n 3, 1) := by decide +kernel
theorem dL_law_541 : decode cL_law 541 = .ok (.iconst 1, 1) := by decide +kernel
theorem dL_law_542 : decode cL_law 542 = .ok (.iadd, 1) := by decide +kernel
theorem dL_law_543 : decode cL_law 543 = .ok (.iaload, 1) := by decide +kernel
theorem dL_law_544 : decode cL_law 544 = .ok (.aload_n 0, 1) := by decide +kernel
theorem dL_law_545 : decode cL_law 545 = .ok (.iload_n 3, 1) := by decide +kernel
theorem dL_law_546 : decode cL_law 546 = .ok (.iconst 2, 1) := by decide +kernel
theorem dL_law_547 : decode cL_law 547 = .ok (.iadd, 1) := by decide +kernel
theorem dL_law_548 : decode cL_law 548 = .ok (.iaload, 1) := by decide +kernel
theorem dL_law_549 : decode cL_law 549 = .ok (.aload_n 0, 1) := by decide +kernel
theorem dL_law_550 : decode cL_law 550 = .ok (.iload_n 3, 1) := by decide +kernel
theorem dL_law_551 : decode cL_law 551 = .ok (.iconst 3, 1) := by decide +kernel
theorem dL_law_552 : decode cL_law 552 = .ok (.iadd, 1) := by decide +kernel
theorem dL_law_553 : decode cL_law 553 = .ok (.iaload, 1) := by decide +kernel
theorem dL_law_554 : decode cL_law 554 = .ok (.invokevirtual 56, 3) := by decide +kernel
theorem dL_law_557 : decode cL_law 557 = .ok (.if_icmp .eq 979, 3) := by decide +kernel
theorem dL_law_560 : decode cL_law 560 = .ok (.iconst 0, 1) := by decide +kernel
theorem dL_law_561 : decode cL_law 561 = .ok (.ireturn, 1) := by decide +kernel
theorem dL_law_562 : decode cL_law 562 = .ok (.aload_n 1, 1) := by decide +kernel
theorem dL_law_563 : decode cL_law 563 = .ok (.aload_n 0, 1) := by decide +kernel
theorem dL_law_564 : decode cL_law 564 = .ok (.iload_n 3, 1) := by decide +kernel
theorem dL_law_565 : decode cL_law 565 = .ok (.iconst 1, 1) := by decide +kernel
theorem dL_law_566 : decode cL_law 566 = .ok (.iadd, 1) := by decide +kernel
theorem dL_law_567 : decode cL_law 567 = .ok (.iaload, 1) := by decide +kernel
theorem dL_law_568 : decode cL_law 568 = .ok (.aload_n 0, 1) := by decide +kernel
theorem dL_law_569 : decode cL_law 569 = .ok (.iload_n 3, 1) := by decide +kernel
theorem dL_law_570 : decode cL_law 570 = .ok (.iconst 2, 1) := by decide +kernel
theorem dL_law_571 : decode cL_law 571 = .ok (.iadd, 1) := by decide +kernel
theorem dL_law_572 : decode cL_law 572 = .ok (.iaload, 1) := by decide +kernel
theorem dL_law_573 : decode cL_law 573 = .ok (.invokevirtual 57, 3) := by decide +kernel
theorem dL_law_576 : decode cL_law 576 = .ok (.aload_n 2, 1) := by decide +kernel
theorem dL_law_577 : decode cL_law 577 = .ok (.aload_n 0, 1) := by decide +kernel
theorem dL_law_578 : decode cL_law 578 = .ok (.iload_n 3, 1) := by decide +kernel
theorem dL_law_579 : decode cL_law 579 = .ok (.iconst 1, 1) := by decide +kernel
theorem dL_law_580 : decode cL_law 580 = .ok (.iadd, 1) := by decide +kernel
theorem dL_law_581 : decode cL_law 581 = .ok (.iaload, 1) := by decide +kernel
theorem dL_law_582 : decode cL_law 582 = .ok (.aload_n 0, 1) := by decide +kernel
theorem dL_law_583 : decode cL_law 583 = .ok (.iload_n 3, 1) := by decide +kernel
theorem dL_law_584 : decode cL_law 584 = .ok (.iconst 2, 1) := by decide +kernel
theorem dL_law_585 : decode cL_law 585 = .ok (.iadd, 1) := by decide +kernel
theorem dL_law_586 : decode cL_law 586 = .ok (.iaload, 1) := by decide +kernel
theorem dL_law_587 : decode cL_law 587 = .ok (.invokevirtual 60, 3) := by decide +kernel
theorem dL_law_590 : decode cL_law 590 = .ok (.if_icmp .eq 946, 3) := by decide +kernel
theorem dL_law_593 : decode cL_law 593 = .ok (.iconst 0, 1) := by decide +kernel
theorem dL_law_594 : decode cL_law 594 = .ok (.ireturn, 1) := by decide +kernel
theorem dL_law_595 : decode cL_law 595 = .ok (.aload_n 1, 1) := by decide +kernel
theorem dL_law_596 : decode cL_law 596 = .ok (.aload_n 0, 1) := by decide +kernel
theorem dL_law_597 : decode cL_law 597 = .ok (.iload_n 3, 1) := by decide +kernel
theorem dL_law_598 : decode cL_law 598 = .ok (.iconst 1, 1) := by decide +kernel
theorem dL_law_599 : decode cL_law 599 = .ok (.iadd, 1) := by decide +kernel
theorem dL_law_600 : decode cL_law 600 = .ok (.iaload, 1) := by decide +kernel
theorem dL_law_601 : decode cL_law 601 = .ok (.aload_n 0, 1) := by decide +kernel
theorem dL_law_602 : decode cL_law 602 = .ok (.iload_n 3, 1) := by decide +kernel
theorem dL_law_603 : decode cL_law 603 = .ok (.iconst 2, 1) := by decide +kernel
theorem dL_law_604 : decode cL_law 604 = .ok (.iadd, 1) := by decide +kernel
theorem dL_law_605 : decode cL_law 605 = .ok (.iaload, 1) := by decide +kernel
theorem dL_law_606 : decode cL_law 606 = .ok (.invokevirtual 61, 3) := by decide +kernel
theorem dL_law_609 : decode cL_law 609 = .ok (.aload_n 2, 1) := by decide +kernel
theorem dL_law_610 : decode cL_law 610 = .ok (.aload_n 0, 1) := by decide +kernel
theorem dL_law_611 : decode cL_law 611 = .ok (.iload_n 3, 1) := by decide +kernel
theorem dL_law_612 : decode cL_law 612 = .ok (.iconst 1, 1) := by decide +kernel
theorem dL_law_613 : decode cL_law 613 = .ok (.iadd, 1) := by decide +kernel
theorem dL_law_614 : decode cL_law 614 = .ok (.iaload, 1) := by decide +kernel
theorem dL_law_615 : decode cL_law 615 = .ok (.aload_n 0, 1) := by decide +kernel
theorem dL_law_616 : decode cL_law 616 = .ok (.iload_n 3, 1) := by decide +kernel
theorem dL_law_617 : decode cL_law 617 = .ok (.iconst 2, 1) := by decide +kernel
theorem dL_law_618 : decode cL_law 618 = .ok (.iadd, 1) := by decide +kernel
theorem dL_law_619 : decode cL_law 619 = .ok (.iaload, 1) := by decide +kernel
theorem dL_law_620 : decode cL_law 620 = .ok (.invokevirtual 64, 3) := by decide +kernel
theorem dL_law_623 : decode cL_law 623 = .ok (.if_icmp .eq 913, 3) := by decide +kernel
theorem dL_law_626 : decode cL_law 626 = .ok (.iconst 0, 1) := by decide +kernel
theorem dL_law_627 : decode cL_law 627 = .ok (.ireturn, 1) := by decide +kernel
theorem dL_law_628 : decode cL_law 628 = .ok (.aload_n 1, 1) := by decide +kernel
theorem dL_law_629 : decode cL_law 629 = .ok (.aload_n 0, 1) := by decide +kernel
theorem dL_law_630 : decode cL_law 630 = .ok (.iload_n 3, 1) := by decide +kernel
theorem dL_law_631 : decode cL_law 631 = .ok (.iconst 1, 1) := by decide +kernel
theorem dL_law_632 : decode cL_law 632 = .ok (.iadd, 1) := by decide +kernel
theorem dL_law_633 : decode cL_law 633 = .ok (.iaload, 1) := by decide +kernel
theorem dL_law_634 : decode cL_law 634 = .ok (.aload_n 0, 1) := by decide +kernel
theorem dL_law_635 : decode cL_law 635 = .ok (.iload_n 3, 1) := by decide +kernel
theorem dL_law_636 : decode cL_law 636 = .ok (.iconst 2, 1) := by decide +kernel
theorem dL_law_637 : decode cL_law 637 = .ok (.iadd, 1) := by decide +kernel
theorem dL_law_638 : decode cL_law 638 = .ok (.iaload, 1) := by decide +kernel
theorem dL_law_639 : decode cL_law 639 = .ok (.invokevirtual 65, 3) := by decide +kernel
theorem dL_law_642 : decode cL_law 642 = .ok (.aload_n 2, 1) := by decide +kernel
theorem dL_law_643 : decode cL_law 643 = .ok (.aload_n 0, 1) := by decide +kernel
theorem dL_law_644 : decode cL_law 644 = .ok (.iload_n 3, 1) := by decide +kernel
theorem dL_law_645 : decode cL_law 645 = .ok (.iconst 1, 1) := by decide +kernel
theorem dL_law_646 : decode cL_law 646 = .ok (.iadd, 1) := by decide +kernel
theorem dL_law_647 : decode cL_law 647 = .ok (.iaload, 1) := by decide +kernel
theorem dL_law_648 : decode cL_law 648 = .ok (.aload_n 0, 1) := by decide +kernel
theorem dL_law_649 : decode cL_law 649 = .ok (.iload_n 3, 1) := by decide +kernel
theorem dL_law_650 : decode cL_law 650 = .ok (.iconst 2, 1) := by decide +kernel
theorem dL_law_651 : decode cL_law 651 = .ok (.iadd, 1) := by decide +kernel
theorem dL_law_652 : decode cL_law 652 = .ok (.iaload, 1) := by decide +kernel
theorem dL_law_653 : decode cL_law 653 = .ok (.invokevirtual 68, 3) := by decide +kernel
theorem dL_law_656 : decode cL_law 656 = .ok (.if_icmp .eq 880, 3) := by decide +kernel
theorem dL_law_659 : decode cL_law 659 = .ok (.iconst 0, 1) := by decide +kernel
theorem dL_law_660 : decode cL_law 660 = .ok (.ireturn, 1) := by decide +kernel
theorem dL_law_661 : decode cL_law 661 = .ok (.aload_n 1, 1) := by decide +kernel
theorem dL_law_662 : decode cL_law 662 = .ok (.aload_n 0, 1) := by decide +kernel
theorem dL_law_663 : decode cL_law 663 = .ok (.iload_n 3, 1) := by decide +kernel
theorem dL_law_664 : decode cL_law 664 = .ok (.iconst 1, 1) := by decide +kernel
theorem dL_law_665 : decode cL_law 665 = .ok (.iadd, 1) := by decide +kernel
theorem dL_law_666 : decode cL_law 666 = .ok (.iaload, 1) := by decide +kernel
theorem dL_law_667 : decode cL_law 667 = .ok (.aload_n 0, 1) := by decide +kernel
theorem dL_law_668 : decode cL_law 668 = .ok (.iload_n 3, 1) := by decide +kernel
theorem dL_law_669 : decode cL_law 669 = .ok (.iconst 2, 1) := by decide +kernel
theorem dL_law_670 : decode cL_law 670 = .ok (.iadd, 1) := by decide +kernel
theorem dL_law_671 : decode cL_law 671 = .ok (.iaload, 1) := by decide +kernel
theorem dL_law_672 : decode cL_law 672 = .ok (.invokevirtual 69, 3) := by decide +kernel
theorem dL_law_675 : decode cL_law 675 = .ok (.aload_n 2, 1) := by decide +kernel
theorem dL_law_676 : decode cL_law 676 = .ok (.aload_n 0, 1) := by decide +kernel
theorem dL_law_677 : decode cL_law 677 = .ok (.iload_n 3, 1) := by decide +kernel
theorem dL_law_678 : decode cL_law 678 = .ok (.iconst 1, 1) := by decide +kernel
theorem dL_law_679 : decode cL_law 679 = .ok (.iadd, 1) := by decide +kernel
theorem dL_law_680 : decode cL_law 680 = .ok (.iaload, 1) := by decide +kernel
theorem dL_law_681 : decode cL_law 681 = .ok (.aload_n 0, 1) := by decide +kernel
theorem dL_law_682 : decode cL_law 682 = .ok (.iload_n 3, 1) := by decide +kernel
theorem dL_law_683 : decode cL_law 683 = .ok (.iconst 2, 1) := by decide +kernel
theorem dL_law_684 : decode cL_law 684 = .ok (.iadd, 1) := by decide +kernel
theorem dL_law_685 : decode cL_law 685 = .ok (.iaload, 1) := by decide +kernel
theorem dL_law_686 : decode cL_law 686 = .ok (.invokevirtual 72, 3) := by decide +kernel
theorem dL_law_689 : decode cL_law 689 = .ok (.if_icmp .eq 847, 3) := by decide +kernel
theorem dL_law_692 : decode cL_law 692 = .ok (.iconst 0, 1) := by decide +kernel
theorem dL_law_693 : decode cL_law 693 = .ok (.ireturn, 1) := by decide +kernel
theorem dL_law_694 : decode cL_law 694 = .ok (.aload_n 1, 1) := by decide +kernel
theorem dL_law_695 : decode cL_law 695 = .ok (.aload_n 0, 1) := by decide +kernel
theorem dL_law_696 : decode cL_law 696 = .ok (.iload_n 3, 1) := by decide +kernel
theorem dL_law_697 : decode cL_law 697 = .ok (.iconst 1, 1) := by decide +kernel
theorem dL_law_698 : decode cL_law 698 = .ok (.iadd, 1) := by decide +kernel
theorem dL_law_699 : decode cL_law 699 = .ok (.iaload, 1) := by decide +kernel
theorem dL_law_700 : decode cL_law 700 = .ok (.aload_n 0, 1) := by decide +kernel
theorem dL_law_701 : decode cL_law 701 = .ok (.iload_n 3, 1) := by decide +kernel
theorem dL_law_702 : decode cL_law 702 = .ok (.iconst 2, 1) := by decide +kernel
theorem dL_law_703 : decode cL_law 703 = .ok (.iadd, 1) := by decide +kernel
theorem dL_law_704 : decode cL_law 704 = .ok (.iaload, 1) := by decide +kernel
theorem dL_law_705 : decode cL_law 705 = .ok (.invokevirtual 73, 3) := by decide +kernel
theorem dL_law_708 : decode cL_law 708 = .ok (.aload_n 2, 1) := by decide +kernel
theorem dL_law_709 : decode cL_law 709 = .ok (.aload_n 0, 1) := by decide +kernel
theorem dL_law_710 : decode cL_law 710 = .ok (.iload_n 3, 1) := by decide +kernel
theorem dL_law_711 : decode cL_law 711 = .ok (.iconst 1, 1) := by decide +kernel
theorem dL_law_712 : decode cL_law 712 = .ok (.iadd, 1) := by decide +kernel
theorem dL_law_713 : decode cL_law 713 = .ok (.iaload, 1) := by decide +kernel
theorem dL_law_714 : decode cL_law 714 = .ok (.aload_n 0, 1) := by decide +kernel
theorem dL_law_715 : decode cL_law 715 = .ok (.iload_n 3, 1) := by decide +kernel
theorem dL_law_716 : decode cL_law 716 = .ok (.iconst 2, 1) := by decide +kernel
theorem dL_law_717 : decode cL_law 717 = .ok (.iadd, 1) := by decide +kernel
theorem dL_law_718 : decode cL_law 718 = .ok (.iaload, 1) := by decide +kernel
theorem dL_law_719 : decode cL_law 719 = .ok (.invokevirtual 76, 3) := by decide +kernel
theorem dL_law_722 : decode cL_law 722 = .ok (.if_icmp .eq 814, 3) := by decide +kernel
theorem dL_law_725 : decode cL_law 725 = .ok (.iconst 0, 1) := by decide +kernel
theorem dL_law_726 : decode cL_law 726 = .ok (.ireturn, 1) := by decide +kernel
theorem dL_law_727 : decode cL_law 727 = .ok (.aload_n 1, 1) := by decide +kernel
theorem dL_law_728 : decode cL_law 728 = .ok (.aload_n 0, 1) := by decide +kernel
theorem dL_law_729 : decode cL_law 729 = .ok (.iload_n 3, 1) := by decide +kernel
theorem dL_law_730 : decode cL_law 730 = .ok (.iconst 1, 1) := by decide +kernel
theorem dL_law_731 : decode cL_law 731 = .ok (.iadd, 1) := by decide +kernel
theorem dL_law_732 : decode cL_law 732 = .ok (.iaload, 1) := by decide +kernel
theorem dL_law_733 : decode cL_law 733 = .ok (.aload_n 0, 1) := by decide +kernel
theorem dL_law_734 : decode cL_law 734 = .ok (.iload_n 3, 1) := by decide +kernel
theorem dL_law_735 : decode cL_law 735 = .ok (.iconst 2, 1) := by decide +kernel
theorem dL_law_736 : decode cL_law 736 = .ok (.iadd, 1) := by decide +kernel
theorem dL_law_737 : decode cL_law 737 = .ok (.iaload, 1) := by decide +kernel
theorem dL_law_738 : decode cL_law 738 = .ok (.invokevirtual 77, 3) := by decide +kernel
theorem dL_law_741 : decode cL_law 741 = .ok (.aload_n 2, 1) := by decide +kernel
theorem dL_law_742 : decode cL_law 742 = .ok (.aload_n 0, 1) := by decide +kernel
theorem dL_law_743 : decode cL_law 743 = .ok (.iload_n 3, 1) := by decide +kernel
theorem dL_law_744 : decode cL_law 744 = .ok (.iconst 1, 1) := by decide +kernel
theorem dL_law_745 : decode cL_law 745 = .ok (.iadd, 1) := by decide +kernel
theorem dL_law_746 : decode cL_law 746 = .ok (.iaload, 1) := by decide +kernel
theorem dL_law_747 : decode cL_law 747 = .ok (.aload_n 0, 1) := by decide +kernel
theorem dL_law_748 : decode cL_law 748 = .ok (.iload_n 3, 1) := by decide +kernel
theorem dL_law_749 : decode cL_law 749 = .ok (.iconst 2, 1) := by decide +kernel
theorem dL_law_750 : decode cL_law 750 = .ok (.iadd, 1) := by decide +kernel
theorem dL_law_751 : decode cL_law 751 = .ok (.iaload, 1) := by decide +kernel
theorem dL_law_752 : decode cL_law 752 = .ok (.invokevirtual 80, 3) := by decide +kernel
theorem dL_law_755 : decode cL_law 755 = .ok (.if_icmp .eq 781, 3) := by decide +kernel
theorem dL_law_758 : decode cL_law 758 = .ok (.iconst 0, 1) := by decide +kernel
theorem dL_law_759 : decode cL_law 759 = .ok (.ireturn, 1) := by decide +kernel
theorem dL_law_760 : decode cL_law 760 = .ok (.aload_n 1, 1) := by decide +kernel
theorem dL_law_761 : decode cL_law 761 = .ok (.aload_n 0, 1) := by decide +kernel
theorem dL_law_762 : decode cL_law 762 = .ok (.iload_n 3, 1) := by decide +kernel
theorem dL_law_763 : decode cL_law 763 = .ok (.iconst 1, 1) := by decide +kernel
theorem dL_law_764 : decode cL_law 764 = .ok (.iadd, 1) := by decide +kernel
theorem dL_law_765 : decode cL_law 765 = .ok (.iaload, 1) := by decide +kernel
theorem dL_law_766 : decode cL_law 766 = .ok (.aload_n 0, 1) := by decide +kernel
theorem dL_law_767 : decode cL_law 767 = .ok (.iload_n 3, 1) := by decide +kernel
theorem dL_law_768 : decode cL_law 768 = .ok (.iconst 2, 1) := by decide +kernel
theorem dL_law_769 : decode cL_law 769 = .ok (.iadd, 1) := by decide +kernel
theorem dL_law_770 : decode cL_law 770 = .ok (.iaload, 1) := by decide +kernel
theorem dL_law_771 : decode cL_law 771 = .ok (.aload_n 0, 1) := by decide +kernel
theorem dL_law_772 : decode cL_law 772 = .ok (.iload_n 3, 1) := by decide +kernel
theorem dL_law_773 : decode cL_law 773 = .ok (.iconst 3, 1) := by decide +kernel
theorem dL_law_774 : decode cL_law 774 = .ok (.iadd, 1) := by decide +kernel
theorem dL_law_775 : decode cL_law 775 = .ok (.iaload, 1) := by decide +kernel
theorem dL_law_776 : decode cL_law 776 = .ok (.invokevirtual 81, 3) := by decide +kernel
theorem dL_law_779 : decode cL_law 779 = .ok (.aload_n 2, 1) := by decide +kernel
theorem dL_law_780 : decode cL_law 780 = .ok (.aload_n 0, 1) := by decide +kernel
theorem dL_law_781 : decode cL_law 781 = .ok (.iload_n 3, 1) := by decide +kernel
theorem dL_law_782 : decode cL_law 782 = .ok (.iconst 1, 1) := by decide +kernel
theorem dL_law_783 : decode cL_law 783 = .ok (.iadd, 1) := by decide +kernel
theorem dL_law_784 : decode cL_law 784 = .ok (.iaload, 1) := by decide +kernel
theorem dL_law_785 : decode cL_law 785 = .ok (.aload_n 0, 1) := by decide +kernel
theorem dL_law_786 : decode cL_law 786 = .ok (.iload_n 3, 1) := by decide +kernel
theorem dL_law_787 : decode cL_law 787 = .ok (.iconst 2, 1) := by decide +kernel
theorem dL_law_788 : decode cL_law 788 = .ok (.iadd, 1) := by decide +kernel
theorem dL_law_789 : decode cL_law 789 = .ok (.iaload, 1) := by decide +kernel
theorem dL_law_790 : decode cL_law 790 = .ok (.aload_n 0, 1) := by decide +kernel
theorem dL_law_791 : decode cL_law 791 = .ok (.iload_n 3, 1) := by decide +kernel
theorem dL_law_792 : decode cL_law 792 = .ok (.iconst 3, 1) := by decide +kernel
theorem dL_law_793 : decode cL_law 793 = .ok (.iadd, 1) := by decide +kernel
theorem dL_law_794 : decode cL_law 794 = .ok (.iaload, 1) := by decide +kernel
theorem dL_law_795 : decode cL_law 795 = .ok (.invokevirtual 84, 3) := by decide +kernel
theorem dL_law_798 : decode cL_law 798 = .ok (.if_icmp .eq 738, 3) := by decide +kernel
theorem dL_law_801 : decode cL_law 801 = .ok (.iconst 0, 1) := by decide +kernel
theorem dL_law_802 : decode cL_law 802 = .ok (.ireturn, 1) := by decide +kernel
theorem dL_law_803 : decode cL_law 803 = .ok (.aload_n 1, 1) := by decide +kernel
theorem dL_law_804 : decode cL_law 804 = .ok (.aload_n 0, 1) := by decide +kernel
theorem dL_law_805 : decode cL_law 805 = .ok (.iload_n 3, 1) := by decide +kernel
theorem dL_law_806 : decode cL_law 806 = .ok (.iconst 1, 1) := by decide +kernel
theorem dL_law_807 : decode cL_law 807 = .ok (.iadd, 1) := by decide +kernel
theorem dL_law_808 : decode cL_law 808 = .ok (.iaload, 1) := by decide +kernel
theorem dL_law_809 : decode cL_law 809 = .ok (.aload_n 0, 1) := by decide +kernel
theorem dL_law_810 : decode cL_law 810 = .ok (.iload_n 3, 1) := by decide +kernel
theorem dL_law_811 : decode cL_law 811 = .ok (.iconst 2, 1) := by decide +kernel
theorem dL_law_812 : decode cL_law 812 = .ok (.iadd, 1) := by decide +kernel
theorem dL_law_813 : decode cL_law 813 = .ok (.iaload, 1) := by decide +kernel
theorem dL_law_814 : decode cL_law 814 = .ok (.invokevirtual 85, 3) := by decide +kernel
theorem dL_law_817 : decode cL_law 817 = .ok (.aload_n 2, 1) := by decide +kernel
theorem dL_law_818 : decode cL_law 818 = .ok (.aload_n 0, 1) := by decide +kernel
theorem dL_law_819 : decode cL_law 819 = .ok (.iload_n 3, 1) := by decide +kernel
theorem dL_law_820 : decode cL_law 820 = .ok (.iconst 1, 1) := by decide +kernel
theorem dL_law_821 : decode cL_law 821 = .ok (.iadd, 1) := by decide +kernel
theorem dL_law_822 : decode cL_law 822 = .ok (.iaload, 1) := by decide +kernel
theorem dL_law_823 : decode cL_law 823 = .ok (.aload_n 0, 1) := by decide +kernel
theorem dL_law_824 : decode cL_law 824 = .ok (.iload_n 3, 1) := by decide +kernel
theorem dL_law_825 : decode cL_law 825 = .ok (.iconst 2, 1) := by decide +kernel
theorem dL_law_826 : decode cL_law 826 = .ok (.iadd, 1) := by decide +kernel
theorem dL_law_827 : decode cL_law 827 = .ok (.iaload, 1) := by decide +kernel
theorem dL_law_828 : decode cL_law 828 = .ok (.invokevirtual 88, 3) := by decide +kernel
theorem dL_law_831 : decode cL_law 831 = .ok (.if_icmp .eq 705, 3) := by decide +kernel
theorem dL_law_834 : decode cL_law 834 = .ok (.iconst 0, 1) := by decide +kernel
theorem dL_law_835 : decode cL_law 835 = .ok (.ireturn, 1) := by decide +kernel
theorem dL_law_836 : decode cL_law 836 = .ok (.aload_n 1, 1) := by decide +kernel
theorem dL_law_837 : decode cL_law 837 = .ok (.aload_n 0, 1) := by decide +kernel
theorem dL_law_838 : decode cL_law 838 = .ok (.iload_n 3, 1) := by decide +kernel
theorem dL_law_839 : decode cL_law 839 = .ok (.iconst 1, 1) := by decide +kernel
theorem dL_law_840 : decode cL_law 840 = .ok (.iadd, 1) := by decide +kernel
theorem dL_law_841 : decode cL_law 841 = .ok (.iaload, 1) := by decide +kernel
theorem dL_law_842 : decode cL_law 842 = .ok (.invokevirtual 89, 3) := by decide +kernel
theorem dL_law_845 : decode cL_law 845 = .ok (.aload_n 2, 1) := by decide +kernel
theorem dL_law_846 : decode cL_law 846 = .ok (.aload_n 0, 1) := by decide +kernel
theorem dL_law_847 : decode cL_law 847 = .ok (.iload_n 3, 1) := by decide +kernel
theorem dL_law_848 : decode cL_law 848 = .ok (.iconst 1, 1) := by decide +kernel
theorem dL_law_849 : decode cL_law 849 = .ok (.iadd, 1) := by decide +kernel
theorem dL_law_850 : decode cL_law 850 = .ok (.iaload, 1) := by decide +kernel
theorem dL_law_851 : decode cL_law 851 = .ok (.invokevirtual 92, 3) := by decide +kernel
theorem dL_law_854 : decode cL_law 854 = .ok (.if_icmp .eq 682, 3) := by decide +kernel
theorem dL_law_857 : decode cL_law 857 = .ok (.iconst 0, 1) := by decide +kernel
theorem dL_law_858 : decode cL_law 858 = .ok (.ireturn, 1) := by decide +kernel
theorem dL_law_859 : decode cL_law 859 = .ok (.aload_n 1, 1) := by decide +kernel
theorem dL_law_860 : decode cL_law 860 = .ok (.aload_n 0, 1) := by decide +kernel
theorem dL_law_861 : decode cL_law 861 = .ok (.iload_n 3, 1) := by decide +kernel
theorem dL_law_862 : decode cL_law 862 = .ok (.iconst 1, 1) := by decide +kernel
theorem dL_law_863 : decode cL_law 863 = .ok (.iadd, 1) := by decide +kernel
theorem dL_law_864 : decode cL_law 864 = .ok (.iaload, 1) := by decide +kernel
theorem dL_law_865 : decode cL_law 865 = .ok (.invokevirtual 93, 3) := by decide +kernel
theorem dL_law_868 : decode cL_law 868 = .ok (.aload_n 2, 1) := by decide +kernel
theorem dL_law_869 : decode cL_law 869 = .ok (.aload_n 0, 1) := by decide +kernel
theorem dL_law_870 : decode cL_law 870 = .ok (.iload_n 3, 1) := by decide +kernel
theorem dL_law_871 : decode cL_law 871 = .ok (.iconst 1, 1) := by decide +kernel
theorem dL_law_872 : decode cL_law 872 = .ok (.iadd, 1) := by decide +kernel
theorem dL_law_873 : decode cL_law 873 = .ok (.iaload, 1) := by decide +kernel
theorem dL_law_874 : decode cL_law 874 = .ok (.invokevirtual 96, 3) := by decide +kernel
theorem dL_law_877 : decode cL_law 877 = .ok (.if_icmp .eq 659, 3) := by decide +kernel
theorem dL_law_880 : decode cL_law 880 = .ok (.iconst 0, 1) := by decide +kernel
theorem dL_law_881 : decode cL_law 881 = .ok (.ireturn, 1) := by decide +kernel
theorem dL_law_882 : decode cL_law 882 = .ok (.aload_n 1, 1) := by decide +kernel
theorem dL_law_883 : decode cL_law 883 = .ok (.aload_n 0, 1) := by decide +kernel
theorem dL_law_884 : decode cL_law 884 = .ok (.iload_n 3, 1) := by decide +kernel
theorem dL_law_885 : decode cL_law 885 = .ok (.iconst 1, 1) := by decide +kernel
theorem dL_law_886 : decode cL_law 886 = .ok (.iadd, 1) := by decide +kernel
theorem dL_law_887 : decode cL_law 887 = .ok (.iaload, 1) := by decide +kernel
theorem dL_law_888 : decode cL_law 888 = .ok (.invokevirtual 97, 3) := by decide +kernel
theorem dL_law_891 : decode cL_law 891 = .ok (.aload_n 2, 1) := by decide +kernel
theorem dL_law_892 : decode cL_law 892 = .ok (.aload_n 0, 1) := by decide +kernel
theorem dL_law_893 : decode cL_law 893 = .ok (.iload_n 3, 1) := by decide +kernel
theorem dL_law_894 : decode cL_law 894 = .ok (.iconst 1, 1) := by decide +kernel
theorem dL_law_895 : decode cL_law 895 = .ok (.iadd, 1) := by decide +kernel
theorem dL_law_896 : decode cL_law 896 = .ok (.iaload, 1) := by decide +kernel
theorem dL_law_897 : decode cL_law 897 = .ok (.invokevirtual 100, 3) := by decide +kernel
theorem dL_law_900 : decode cL_law 900 = .ok (.if_icmp .eq 636, 3) := by decide +kernel
theorem dL_law_903 : decode cL_law 903 = .ok (.iconst 0, 1) := by decide +kernel
theorem dL_law_904 : decode cL_law 904 = .ok (.ireturn, 1) := by decide +kernel
theorem dL_law_905 : decode cL_law 905 = .ok (.aload_n 1, 1) := by decide +kernel
theorem dL_law_906 : decode cL_law 906 = .ok (.aload_n 0, 1) := by decide +kernel
theorem dL_law_907 : decode cL_law 907 = .ok (.iload_n 3, 1) := by decide +kernel
theorem dL_law_908 : decode cL_law 908 = .ok (.iconst 1, 1) := by decide +kernel
theorem dL_law_909 : decode cL_law 909 = .ok (.iadd, 1) := by decide +kernel
theorem dL_law_910 : decode cL_law 910 = .ok (.iaload, 1) := by decide +kernel
theorem dL_law_911 : decode cL_law 911 = .ok (.invokevirtual 101, 3) := by decide +kernel
theorem dL_law_914 : decode cL_law 914 = .ok (.aload_n 2, 1) := by decide +kernel
theorem dL_law_915 : decode cL_law 915 = .ok (.aload_n 0, 1) := by decide +kernel
theorem dL_law_916 : decode cL_law 916 = .ok (.iload_n 3, 1) := by decide +kernel
theorem dL_law_917 : decode cL_law 917 = .ok (.iconst 1, 1) := by decide +kernel
theorem dL_law_918 : decode cL_law 918 = .ok (.iadd, 1) := by decide +kernel
theorem dL_law_919 : decode cL_law 919 = .ok (.iaload, 1) := by decide +kernel
theorem dL_law_920 : decode cL_law 920 = .ok (.invokevirtual 104, 3) := by decide +kernel
theorem dL_law_923 : decode cL_law 923 = .ok (.if_icmp .eq 613, 3) := by decide +kernel
theorem dL_law_926 : decode cL_law 926 = .ok (.iconst 0, 1) := by decide +kernel
theorem dL_law_927 : decode cL_law 927 = .ok (.ireturn, 1) := by decide +kernel
theorem dL_law_928 : decode cL_law 928 = .ok (.aload_n 1, 1) := by decide +kernel
theorem dL_law_929 : decode cL_law 929 = .ok (.aload_n 0, 1) := by decide +kernel
theorem dL_law_930 : decode cL_law 930 = .ok (.iload_n 3, 1) := by decide +kernel
theorem dL_law_931 : decode cL_law 931 = .ok (.iconst 1, 1) := by decide +kernel
theorem dL_law_932 : decode cL_law 932 = .ok (.iadd, 1) := by decide +kernel
theorem dL_law_933 : decode cL_law 933 = .ok (.iaload, 1) := by decide +kernel
theorem dL_law_934 : decode cL_law 934 = .ok (.aload_n 0, 1) := by decide +kernel
theorem dL_law_935 : decode cL_law 935 = .ok (.iload_n 3, 1) := by decide +kernel
theorem dL_law_936 : decode cL_law 936 = .ok (.iconst 2, 1) := by decide +kernel
theorem dL_law_937 : decode cL_law 937 = .ok (.iadd, 1) := by decide +kernel
theorem dL_law_938 : decode cL_law 938 = .ok (.iaload, 1) := by decide +kernel
theorem dL_law_939 : decode cL_law 939 = .ok (.invokevirtual 105, 3) := by decide +kernel
theorem dL_law_942 : decode cL_law 942 = .ok (.aload_n 2, 1) := by decide +kernel
theorem dL_law_943 : decode cL_law 943 = .ok (.aload_n 0, 1) := by decide +kernel
theorem dL_law_944 : decode cL_law 944 = .ok (.iload_n 3, 1) := by decide +kernel
theorem dL_law_945 : decode cL_law 945 = .ok (.iconst 1, 1) := by decide +kernel
theorem dL_law_946 : decode cL_law 946 = .ok (.iadd, 1) := by decide +kernel
theorem dL_law_947 : decode cL_law 947 = .ok (.iaload, 1) := by decide +kernel
theorem dL_law_948 : decode cL_law 948 = .ok (.aload_n 0, 1) := by decide +kernel
theorem dL_law_949 : decode cL_law 949 = .ok (.iload_n 3, 1) := by decide +kernel
theorem dL_law_950 : decode cL_law 950 = .ok (.iconst 2, 1) := by decide +kernel
theorem dL_law_951 : decode cL_law 951 = .ok (.iadd, 1) := by decide +kernel
theorem dL_law_952 : decode cL_law 952 = .ok (.iaload, 1) := by decide +kernel
theorem dL_law_953 : decode cL_law 953 = .ok (.invokevirtual 108, 3) := by decide +kernel
theorem dL_law_956 : decode cL_law 956 = .ok (.if_icmp .eq 580, 3) := by decide +kernel
theorem dL_law_959 : decode cL_law 959 = .ok (.iconst 0, 1) := by decide +kernel
theorem dL_law_960 : decode cL_law 960 = .ok (.ireturn, 1) := by decide +kernel
theorem dL_law_961 : decode cL_law 961 = .ok (.aload_n 1, 1) := by decide +kernel
theorem dL_law_962 : decode cL_law 962 = .ok (.aload_n 0, 1) := by decide +kernel
theorem dL_law_963 : decode cL_law 963 = .ok (.iload_n 3, 1) := by decide +kernel
theorem dL_law_964 : decode cL_law 964 = .ok (.iconst 1, 1) := by decide +kernel
theorem dL_law_965 : decode cL_law 965 = .ok (.iadd, 1) := by decide +kernel
theorem dL_law_966 : decode cL_law 966 = .ok (.iaload, 1) := by decide +kernel
theorem dL_law_967 : decode cL_law 967 = .ok (.aload_n 0, 1) := by decide +kernel
theorem dL_law_968 : decode cL_law 968 = .ok (.iload_n 3, 1) := by decide +kernel
theorem dL_law_969 : decode cL_law 969 = .ok (.iconst 2, 1) := by decide +kernel
theorem dL_law_970 : decode cL_law 970 = .ok (.iadd, 1) := by decide +kernel
theorem dL_law_971 : decode cL_law 971 = .ok (.iaload, 1) := by decide +kernel
theorem dL_law_972 : decode cL_law 972 = .ok (.invokevirtual 109, 3) := by decide +kernel
theorem dL_law_975 : decode cL_law 975 = .ok (.aload_n 2, 1) := by decide +kernel
theorem dL_law_976 : decode cL_law 976 = .ok (.aload_n 0, 1) := by decide +kernel
theorem dL_law_977 : decode cL_law 977 = .ok (.iload_n 3, 1) := by decide +kernel
theorem dL_law_978 : decode cL_law 978 = .ok (.iconst 1, 1) := by decide +kernel
theorem dL_law_979 : decode cL_law 979 = .ok (.iadd, 1) := by decide +kernel
theorem dL_law_980 : decode cL_law 980 = .ok (.iaload, 1) := by decide +kernel
theorem dL_law_981 : decode cL_law 981 = .ok (.aload_n 0, 1) := by decide +kernel
theorem dL_law_982 : decode cL_law 982 = .ok (.iload_n 3, 1) := by decide +kernel
theorem dL_law_983 : decode cL_law 983 = .ok (.iconst 2, 1) := by decide +kernel
theorem dL_law_984 : decode cL_law 984 = .ok (.iadd, 1) := by decide +kernel
theorem dL_law_985 : decode cL_law 985 = .ok (.iaload, 1) := by decide +kernel
theorem dL_law_986 : decode cL_law 986 = .ok (.invokevirtual 112, 3) := by decide +kernel
theorem dL_law_989 : decode cL_law 989 = .ok (.if_icmp .eq 547, 3) := by decide +kernel
theorem dL_law_992 : decode cL_law 992 = .ok (.iconst 0, 1) := by decide +kernel
theorem dL_law_993 : decode cL_law 993 = .ok (.ireturn, 1) := by decide +kernel
theorem dL_law_994 : decode cL_law 994 = .ok (.aload_n 1, 1) := by decide +kernel
theorem dL_law_995 : decode cL_law 995 = .ok (.aload_n 0, 1) := by decide +kernel
theorem dL_law_996 : decode cL_law 996 = .ok (.iload_n 3, 1) := by decide +kernel
theorem dL_law_997 : decode cL_law 997 = .ok (.iconst 1, 1) := by decide +kernel
theorem dL_law_998 : decode cL_law 998 = .ok (.iadd, 1) := by decide +kernel
theorem dL_law_999 : decode cL_law 999 = .ok (.iaload, 1) := by decide +kernel
theorem dL_law_1000 : decode cL_law 1000 = .ok (.aload_n 0, 1) := by decide +kernel
theorem dL_law_1001 : decode cL_law 1001 = .ok (.iload_n 3, 1) := by decide +kernel
theorem dL_law_1002 : decode cL_law 1002 = .ok (.iconst 2, 1) := by decide +kernel
theorem dL_law_1003 : decode cL_law 1003 = .ok (.iadd, 1) := by decide +kernel
theorem dL_law_1004 : decode cL_law 1004 = .ok (.iaload, 1) := by decide +kernel
theorem dL_law_1005 : decode cL_law 1005 = .ok (.aload_n 0, 1) := by decide +kernel
theorem dL_law_1006 : decode cL_law 1006 = .ok (.iload_n 3, 1) := by decide +kernel
theorem dL_law_1007 : decode cL_law 1007 = .ok (.iconst 3, 1) := by decide +kernel
theorem dL_law_1008 : decode cL_law 1008 = .ok (.iadd, 1) := by decide +kernel
theorem dL_law_1009 : decode cL_law 1009 = .ok (.iaload, 1) := by decide +kernel
theorem dL_law_1010 : decode cL_law 1010 = .ok (.aload_n 0, 1) := by decide +kernel
theorem dL_law_1011 : decode cL_law 1011 = .ok (.iload_n 3, 1) := by decide +kernel
theorem dL_law_1012 : decode cL_law 1012 = .ok (.iconst 4, 1) := by decide +kernel
theorem dL_law_1013 : decode cL_law 1013 = .ok (.iadd, 1) := by decide +kernel
theorem dL_law_1014 : decode cL_law 1014 = .ok (.iaload, 1) := by decide +kernel
theorem dL_law_1015 : decode cL_law 1015 = .ok (.invokevirtual 113, 3) := by decide +kernel
theorem dL_law_1018 : decode cL_law 1018 = .ok (.aload_n 2, 1) := by decide +kernel
theorem dL_law_1019 : decode cL_law 1019 = .ok (.aload_n 0, 1) := by decide +kernel
theorem dL_law_1020 : decode cL_law 1020 = .ok (.iload_n 3, 1) := by decide +kernel
theorem dL_law_1021 : decode cL_law 1021 = .ok (.iconst 1, 1) := by decide +kernel
theorem dL_law_1022 : decode cL_law 1022 = .ok (.iadd, 1) := by decide +kernel
theorem dL_law_1023 : decode cL_law 1023 = .ok (.iaload, 1) := by decide +kernel
theorem dL_law_1024 : decode cL_law 1024 = .ok (.aload_n 0, 1) := by decide +kernel
theorem dL_law_1025 : decode cL_law 1025 = .ok (.iload_n 3, 1) := by decide +kernel
theorem dL_law_1026 : decode cL_law 1026 = .ok (.iconst 2, 1) := by decide +kernel
theorem dL_law_1027 : decode cL_law 1027 = .ok (.iadd, 1) := by decide +kernel
theorem dL_law_1028 : decode cL_law 1028 = .ok (.iaload, 1) := by decide +kernel
theorem dL_law_1029 : decode cL_law 1029 = .ok (.aload_n 0, 1) := by decide +kernel
theorem dL_law_1030 : decode cL_law 1030 = .ok (.iload_n 3, 1) := by decide +kernel
theorem dL_law_1031 : decode cL_law 1031 = .ok (.iconst 3, 1) := by decide +kernel
theorem dL_law_1032 : decode cL_law 1032 = .ok (.iadd, 1) := by decide +kernel
theorem dL_law_1033 : decode cL_law 1033 = .ok (.iaload, 1) := by decide +kernel
theorem dL_law_1034 : decode cL_law 1034 = .ok (.aload_n 0, 1) := by decide +kernel
theorem dL_law_1035 : decode cL_law 1035 = .ok (.iload_n 3, 1) := by decide +kernel
theorem dL_law_1036 : decode cL_law 1036 = .ok (.iconst 4, 1) := by decide +kernel
theorem dL_law_1037 : decode cL_law 1037 = .ok (.iadd, 1) := by decide +kernel
theorem dL_law_1038 : decode cL_law 1038 = .ok (.iaload, 1) := by decide +kernel
theorem dL_law_1039 : decode cL_law 1039 = .ok (.invokevirtual 117, 3) := by decide +kernel
theorem dL_law_1042 : decode cL_law 1042 = .ok (.if_icmp .eq 494, 3) := by decide +kernel
theorem dL_law_1045 : decode cL_law 1045 = .ok (.iconst 0, 1) := by decide +kernel
theorem dL_law_1046 : decode cL_law 1046 = .ok (.ireturn, 1) := by decide +kernel
theorem dL_law_1047 : decode cL_law 1047 = .ok (.aload_n 1, 1) := by decide +kernel
theorem dL_law_1048 : decode cL_law 1048 = .ok (.aload_n 0, 1) := by decide +kernel
theorem dL_law_1049 : decode cL_law 1049 = .ok (.iload_n 3, 1) := by decide +kernel
theorem dL_law_1050 : decode cL_law 1050 = .ok (.iconst 1, 1) := by decide +kernel
theorem dL_law_1051 : decode cL_law 1051 = .ok (.iadd, 1) := by decide +kernel
theorem dL_law_1052 : decode cL_law 1052 = .ok (.iaload, 1) := by decide +kernel
theorem dL_law_1053 : decode cL_law 1053 = .ok (.invokevirtual 118, 3) := by decide +kernel
theorem dL_law_1056 : decode cL_law 1056 = .ok (.aload_n 2, 1) := by decide +kernel
theorem dL_law_1057 : decode cL_law 1057 = .ok (.aload_n 0, 1) := by decide +kernel
theorem dL_law_1058 : decode cL_law 1058 = .ok (.iload_n 3, 1) := by decide +kernel
theorem dL_law_1059 : decode cL_law 1059 = .ok (.iconst 1, 1) := by decide +kernel
theorem dL_law_1060 : decode cL_law 1060 = .ok (.iadd, 1) := by decide +kernel
theorem dL_law_1061 : decode cL_law 1061 = .ok (.iaload, 1) := by decide +kernel
theorem dL_law_1062 : decode cL_law 1062 = .ok (.invokevirtual 121, 3) := by decide +kernel
theorem dL_law_1065 : decode cL_law 1065 = .ok (.if_icmp .eq 471, 3) := by decide +kernel
theorem dL_law_1068 : decode cL_law 1068 = .ok (.iconst 0, 1) := by decide +kernel
theorem dL_law_1069 : decode cL_law 1069 = .ok (.ireturn, 1) := by decide +kernel
theorem dL_law_1070 : decode cL_law 1070 = .ok (.aload_n 1, 1) := by decide +kernel
theorem dL_law_1071 : decode cL_law 1071 = .ok (.aload_n 0, 1) := by decide +kernel
theorem dL_law_1072 : decode cL_law 1072 = .ok (.iload_n 3, 1) := by decide +kernel
theorem dL_law_1073 : decode cL_law 1073 = .ok (.iconst 1, 1) := by decide +kernel
theorem dL_law_1074 : decode cL_law 1074 = .ok (.iadd, 1) := by decide +kernel
theorem dL_law_1075 : decode cL_law 1075 = .ok (.iaload, 1) := by decide +kernel
theorem dL_law_1076 : decode cL_law 1076 = .ok (.invokevirtual 122, 3) := by decide +kernel
theorem dL_law_1079 : decode cL_law 1079 = .ok (.aload_n 2, 1) := by decide +kernel
theorem dL_law_1080 : decode cL_law 1080 = .ok (.aload_n 0, 1) := by decide +kernel
theorem dL_law_1081 : decode cL_law 1081 = .ok (.iload_n 3, 1) := by decide +kernel
theorem dL_law_1082 : decode cL_law 1082 = .ok (.iconst 1, 1) := by decide +kernel
theorem dL_law_1083 : decode cL_law 1083 = .ok (.iadd, 1) := by decide +kernel
theorem dL_law_1084 : decode cL_law 1084 = .ok (.iaload, 1) := by decide +kernel
theorem dL_law_1085 : decode cL_law 1085 = .ok (.invokevirtual 125, 3) := by decide +kernel
theorem dL_law_1088 : decode cL_law 1088 = .ok (.if_icmp .eq 448, 3) := by decide +kernel
theorem dL_law_1091 : decode cL_law 1091 = .ok (.iconst 0, 1) := by decide +kernel
theorem dL_law_1092 : decode cL_law 1092 = .ok (.ireturn, 1) := by decide +kernel
theorem dL_law_1093 : decode cL_law 1093 = .ok (.aload_n 1, 1) := by decide +kernel
theorem dL_law_1094 : decode cL_law 1094 = .ok (.invokevirtual 126, 3) := by decide +kernel
theorem dL_law_1097 : decode cL_law 1097 = .ok (.aload_n 2, 1) := by decide +kernel
theorem dL_law_1098 : decode cL_law 1098 = .ok (.invokevirtual 129, 3) := by decide +kernel
theorem dL_law_1101 : decode cL_law 1101 = .ok (.if_icmp .eq 435, 3) := by decide +kernel
theorem dL_law_1104 : decode cL_law 1104 = .ok (.iconst 0, 1) := by decide +kernel
theorem dL_law_1105 : decode cL_law 1105 = .ok (.ireturn, 1) := by decide +kernel
theorem dL_law_1106 : decode cL_law 1106 = .ok (.aload_n 1, 1) := by decide +kernel
theorem dL_law_1107 : decode cL_law 1107 = .ok (.invokevirtual 130, 3) := by decide +kernel
theorem dL_law_1110 : decode cL_law 1110 = .ok (.aload_n 2, 1) := by decide +kernel
theorem dL_law_1111 : decode cL_law 1111 = .ok (.invokevirtual 133, 3) := by decide +kernel
theorem dL_law_1114 : decode cL_law 1114 = .ok (.if_icmp .eq 422, 3) := by decide +kernel
theorem dL_law_1117 : decode cL_law 1117 = .ok (.iconst 0, 1) := by decide +kernel
theorem dL_law_1118 : decode cL_law 1118 = .ok (.ireturn, 1) := by decide +kernel
theorem dL_law_1119 : decode cL_law 1119 = .ok (.aload_n 1, 1) := by decide +kernel
theorem dL_law_1120 : decode cL_law 1120 = .ok (.invokevirtual 134, 3) := by decide +kernel
theorem dL_law_1123 : decode cL_law 1123 = .ok (.aload_n 2, 1) := by decide +kernel
theorem dL_law_1124 : decode cL_law 1124 = .ok (.invokevirtual 137, 3) := by decide +kernel
theorem dL_law_1127 : decode cL_law 1127 = .ok (.if_icmp .eq 409, 3) := by decide +kernel
theorem dL_law_1130 : decode cL_law 1130 = .ok (.iconst 0, 1) := by decide +kernel
theorem dL_law_1131 : decode cL_law 1131 = .ok (.ireturn, 1) := by decide +kernel
theorem dL_law_1132 : decode cL_law 1132 = .ok (.aload_n 1, 1) := by decide +kernel
theorem dL_law_1133 : decode cL_law 1133 = .ok (.invokevirtual 138, 3) := by decide +kernel
theorem dL_law_1136 : decode cL_law 1136 = .ok (.aload_n 2, 1) := by decide +kernel
theorem dL_law_1137 : decode cL_law 1137 = .ok (.invokevirtual 141, 3) := by decide +kernel
theorem dL_law_1140 : decode cL_law 1140 = .ok (.if_icmp .eq 396, 3) := by decide +kernel
theorem dL_law_1143 : decode cL_law 1143 = .ok (.iconst 0, 1) := by decide +kernel
theorem dL_law_1144 : decode cL_law 1144 = .ok (.ireturn, 1) := by decide +kernel
theorem dL_law_1145 : decode cL_law 1145 = .ok (.aload_n 1, 1) := by decide +kernel
theorem dL_law_1146 : decode cL_law 1146 = .ok (.aload_n 0, 1) := by decide +kernel
theorem dL_law_1147 : decode cL_law 1147 = .ok (.iload_n 3, 1) := by decide +kernel
theorem dL_law_1148 : decode cL_law 1148 = .ok (.iconst 1, 1) := by decide +kernel
theorem dL_law_1149 : decode cL_law 1149 = .ok (.iadd, 1) := by decide +kernel
theorem dL_law_1150 : decode cL_law 1150 = .ok (.iaload, 1) := by decide +kernel
theorem dL_law_1151 : decode cL_law 1151 = .ok (.invokevirtual 142, 3) := by decide +kernel
theorem dL_law_1154 : decode cL_law 1154 = .ok (.aload_n 2, 1) := by decide +kernel
theorem dL_law_1155 : decode cL_law 1155 = .ok (.aload_n 0, 1) := by decide +kernel
theorem dL_law_1156 : decode cL_law 1156 = .ok (.iload_n 3, 1) := by decide +kernel
theorem dL_law_1157 : decode cL_law 1157 = .ok (.iconst 1, 1) := by decide +kernel
theorem dL_law_1158 : decode cL_law 1158 = .ok (.iadd, 1) := by decide +kernel
theorem dL_law_1159 : decode cL_law 1159 = .ok (.iaload, 1) := by decide +kernel
theorem dL_law_1160 : decode cL_law 1160 = .ok (.invokevirtual 145, 3) := by decide +kernel
theorem dL_law_1163 : decode cL_law 1163 = .ok (.if_icmp .eq 373, 3) := by decide +kernel
theorem dL_law_1166 : decode cL_law 1166 = .ok (.iconst 0, 1) := by decide +kernel
theorem dL_law_1167 : decode cL_law 1167 = .ok (.ireturn, 1) := by decide +kernel
theorem dL_law_1168 : decode cL_law 1168 = .ok (.aload_n 1, 1) := by decide +kernel
theorem dL_law_1169 : decode cL_law 1169 = .ok (.aload_n 0, 1) := by decide +kernel
theorem dL_law_1170 : decode cL_law 1170 = .ok (.iload_n 3, 1) := by decide +kernel
theorem dL_law_1171 : decode cL_law 1171 = .ok (.iconst 1, 1) := by decide +kernel
theorem dL_law_1172 : decode cL_law 1172 = .ok (.iadd, 1) := by decide +kernel
theorem dL_law_1173 : decode cL_law 1173 = .ok (.iaload, 1) := by decide +kernel
theorem dL_law_1174 : decode cL_law 1174 = .ok (.aload_n 0, 1) := by decide +kernel
theorem dL_law_1175 : decode cL_law 1175 = .ok (.iload_n 3, 1) := by decide +kernel
theorem dL_law_1176 : decode cL_law 1176 = .ok (.iconst 2, 1) := by decide +kernel
theorem dL_law_1177 : decode cL_law 1177 = .ok (.iadd, 1) := by decide +kernel
theorem dL_law_1178 : decode cL_law 1178 = .ok (.iaload, 1) := by decide +kernel
theorem dL_law_1179 : decode cL_law 1179 = .ok (.aload_n 0, 1) := by decide +kernel
theorem dL_law_1180 : decode cL_law 1180 = .ok (.iload_n 3, 1) := by decide +kernel
theorem dL_law_1181 : decode cL_law 1181 = .ok (.iconst 3, 1) := by decide +kernel
theorem dL_law_1182 : decode cL_law 1182 = .ok (.iadd, 1) := by decide +kernel
theorem dL_law_1183 : decode cL_law 1183 = .ok (.iaload, 1) := by decide +kernel
theorem dL_law_1184 : decode cL_law 1184 = .ok (.invokevirtual 146, 3) := by decide +kernel
theorem dL_law_1187 : decode cL_law 1187 = .ok (.aload_n 2, 1) := by decide +kernel
theorem dL_law_1188 : decode cL_law 1188 = .ok (.aload_n 0, 1) := by decide +kernel
theorem dL_law_1189 : decode cL_law 1189 = .ok (.iload_n 3, 1) := by decide +kernel
theorem dL_law_1190 : decode cL_law 1190 = .ok (.iconst 1, 1) := by decide +kernel
theorem dL_law_1191 : decode cL_law 1191 = .ok (.iadd, 1) := by decide +kernel
theorem dL_law_1192 : decode cL_law 1192 = .ok (.iaload, 1) := by decide +kernel
theorem dL_law_1193 : decode cL_law 1193 = .ok (.aload_n 0, 1) := by decide +kernel
theorem dL_law_1194 : decode cL_law 1194 = .ok (.iload_n 3, 1) := by decide +kernel
theorem dL_law_1195 : decode cL_law 1195 = .ok (.iconst 2, 1) := by decide +kernel
theorem dL_law_1196 : decode cL_law 1196 = .ok (.iadd, 1) := by decide +kernel
theorem dL_law_1197 : decode cL_law 1197 = .ok (.iaload, 1) := by decide +kernel
theorem dL_law_1198 : decode cL_law 1198 = .ok (.aload_n 0, 1) := by decide +kernel
theorem dL_law_1199 : decode cL_law 1199 = .ok (.iload_n 3, 1) := by decide +kernel
theorem dL_law_1200 : decode cL_law 1200 = .ok (.iconst 3, 1) := by decide +kernel
theorem dL_law_1201 : decode cL_law 1201 = .ok (.iadd, 1) := by decide +kernel
theorem dL_law_1202 : decode cL_law 1202 = .ok (.iaload, 1) := by decide +kernel
theorem dL_law_1203 : decode cL_law 1203 = .ok (.invokevirtual 149, 3) := by decide +kernel
theorem dL_law_1206 : decode cL_law 1206 = .ok (.if_icmp .eq 330, 3) := by decide +kernel
theorem dL_law_1209 : decode cL_law 1209 = .ok (.iconst 0, 1) := by decide +kernel
theorem dL_law_1210 : decode cL_law 1210 = .ok (.ireturn, 1) := by decide +kernel
theorem dL_law_1211 : decode cL_law 1211 = .ok (.aload_n 1, 1) := by decide +kernel
theorem dL_law_1212 : decode cL_law 1212 = .ok (.aload_n 0, 1) := by decide +kernel
theorem dL_law_1213 : decode cL_law 1213 = .ok (.iload_n 3, 1) := by decide +kernel
theorem dL_law_1214 : decode cL_law 1214 = .ok (.iconst 1, 1) := by decide +kernel
theorem dL_law_1215 : decode cL_law 1215 = .ok (.iadd, 1) := by decide +kernel
theorem dL_law_1216 : decode cL_law 1216 = .ok (.iaload, 1) := by decide +kernel
theorem dL_law_1217 : decode cL_law 1217 = .ok (.invokevirtual 150, 3) := by decide +kernel
theorem dL_law_1220 : decode cL_law 1220 = .ok (.aload_n 2, 1) := by decide +kernel
theorem dL_law_1221 : decode cL_law 1221 = .ok (.aload_n 0, 1) := by decide +kernel
theorem dL_law_1222 : decode cL_law 1222 = .ok (.iload_n 3, 1) := by decide +kernel
theorem dL_law_1223 : decode cL_law 1223 = .ok (.iconst 1, 1) := by decide +kernel
theorem dL_law_1224 : decode cL_law 1224 = .ok (.iadd, 1) := by decide +kernel
theorem dL_law_1225 : decode cL_law 1225 = .ok (.iaload, 1) := by decide +kernel
theorem dL_law_1226 : decode cL_law 1226 = .ok (.invokevirtual 153, 3) := by decide +kernel
theorem dL_law_1229 : decode cL_law 1229 = .ok (.if_icmp .eq 307, 3) := by decide +kernel
theorem dL_law_1232 : decode cL_law 1232 = .ok (.iconst 0, 1) := by decide +kernel
theorem dL_law_1233 : decode cL_law 1233 = .ok (.ireturn, 1) := by decide +kernel
theorem dL_law_1234 : decode cL_law 1234 = .ok (.aload_n 1, 1) := by decide +kernel
theorem dL_law_1235 : decode cL_law 1235 = .ok (.aload_n 0, 1) := by decide +kernel
theorem dL_law_1236 : decode cL_law 1236 = .ok (.iload_n 3, 1) := by decide +kernel
theorem dL_law_1237 : decode cL_law 1237 = .ok (.iconst 1, 1) := by decide +kernel
theorem dL_law_1238 : decode cL_law 1238 = .ok (.iadd, 1) := by decide +kernel
theorem dL_law_1239 : decode cL_law 1239 = .ok (.iaload, 1) := by decide +kernel
theorem dL_law_1240 : decode cL_law 1240 = .ok (.aload_n 0, 1) := by decide +kernel
theorem dL_law_1241 : decode cL_law 1241 = .ok (.iload_n 3, 1) := by decide +kernel
theorem dL_law_1242 : decode cL_law 1242 = .ok (.iconst 2, 1) := by decide +kernel
theorem dL_law_1243 : decode cL_law 1243 = .ok (.iadd, 1) := by decide +kernel
theorem dL_law_1244 : decode cL_law 1244 = .ok (.iaload, 1) := by decide +kernel
theorem dL_law_1245 : decode cL_law 1245 = .ok (.invokevirtual 154, 3) := by decide +kernel
theorem dL_law_1248 : decode cL_law 1248 = .ok (.aload_n 2, 1) := by decide +kernel
theorem dL_law_1249 : decode cL_law 1249 = .ok (.aload_n 0, 1) := by decide +kernel
theorem dL_law_1250 : decode cL_law 1250 = .ok (.iload_n 3, 1) := by decide +kernel
theorem dL_law_1251 : decode cL_law 1251 = .ok (.iconst 1, 1) := by decide +kernel
theorem dL_law_1252 : decode cL_law 1252 = .ok (.iadd, 1) := by decide +kernel
theorem dL_law_1253 : decode cL_law 1253 = .ok (.iaload, 1) := by decide +kernel
theorem dL_law_1254 : decode cL_law 1254 = .ok (.aload_n 0, 1) := by decide +kernel
theorem dL_law_1255 : decode cL_law 1255 = .ok (.iload_n 3, 1) := by decide +kernel
theorem dL_law_1256 : decode cL_law 1256 = .ok (.iconst 2, 1) := by decide +kernel
theorem dL_law_1257 : decode cL_law 1257 = .ok (.iadd, 1) := by decide +kernel
theorem dL_law_1258 : decode cL_law 1258 = .ok (.iaload, 1) := by decide +kernel
theorem dL_law_1259 : decode cL_law 1259 = .ok (.invokevirtual 157, 3) := by decide +kernel
theorem dL_law_1262 : decode cL_law 1262 = .ok (.if_icmp .eq 274, 3) := by decide +kernel
theorem dL_law_1265 : decode cL_law 1265 = .ok (.iconst 0, 1) := by decide +kernel
theorem dL_law_1266 : decode cL_law 1266 = .ok (.ireturn, 1) := by decide +kernel
theorem dL_law_1267 : decode cL_law 1267 = .ok (.aload_n 1, 1) := by decide +kernel
theorem dL_law_1268 : decode cL_law 1268 = .ok (.aload_n 0, 1) := by decide +kernel
theorem dL_law_1269 : decode cL_law 1269 = .ok (.iload_n 3, 1) := by decide +kernel
theorem dL_law_1270 : decode cL_law 1270 = .ok (.iconst 1, 1) := by decide +kernel
theorem dL_law_1271 : decode cL_law 1271 = .ok (.iadd, 1) := by decide +kernel
theorem dL_law_1272 : decode cL_law 1272 = .ok (.iaload, 1) := by decide +kernel
theorem dL_law_1273 : decode cL_law 1273 = .ok (.aload_n 0, 1) := by decide +kernel
theorem dL_law_1274 : decode cL_law 1274 = .ok (.iload_n 3, 1) := by decide +kernel
theorem dL_law_1275 : decode cL_law 1275 = .ok (.iconst 2, 1) := by decide +kernel
theorem dL_law_1276 : decode cL_law 1276 = .ok (.iadd, 1) := by decide +kernel
theorem dL_law_1277 : decode cL_law 1277 = .ok (.iaload, 1) := by decide +kernel
theorem dL_law_1278 : decode cL_law 1278 = .ok (.aload_n 0, 1) := by decide +kernel
theorem dL_law_1279 : decode cL_law 1279 = .ok (.iload_n 3, 1) := by decide +kernel
theorem dL_law_1280 : decode cL_law 1280 = .ok (.iconst 3, 1) := by decide +kernel
theorem dL_law_1281 : decode cL_law 1281 = .ok (.iadd, 1) := by decide +kernel
theorem dL_law_1282 : decode cL_law 1282 = .ok (.iaload, 1) := by decide +kernel
theorem dL_law_1283 : decode cL_law 1283 = .ok (.invokevirtual 158, 3) := by decide +kernel
theorem dL_law_1286 : decode cL_law 1286 = .ok (.aload_n 2, 1) := by decide +kernel
theorem dL_law_1287 : decode cL_law 1287 = .ok (.aload_n 0, 1) := by decide +kernel
theorem dL_law_1288 : decode cL_law 1288 = .ok (.iload_n 3, 1) := by decide +kernel
theorem dL_law_1289 : decode cL_law 1289 = .ok (.iconst 1, 1) := by decide +kernel
theorem dL_law_1290 : decode cL_law 1290 = .ok (.iadd, 1) := by decide +kernel
theorem dL_law_1291 : decode cL_law 1291 = .ok (.iaload, 1) := by decide +kernel
theorem dL_law_1292 : decode cL_law 1292 = .ok (.aload_n 0, 1) := by decide +kernel
theorem dL_law_1293 : decode cL_law 1293 = .ok (.iload_n 3, 1) := by decide +kernel
theorem dL_law_1294 : decode cL_law 1294 = .ok (.iconst 2, 1) := by decide +kernel
theorem dL_law_1295 : decode cL_law 1295 = .ok (.iadd, 1) := by decide +kernel
theorem dL_law_1296 : decode cL_law 1296 = .ok (.iaload, 1) := by decide +kernel
theorem dL_law_1297 : decode cL_law 1297 = .ok (.aload_n 0, 1) := by decide +kernel
theorem dL_law_1298 : decode cL_law 1298 = .ok (.iload_n 3, 1) := by decide +kernel
theorem dL_law_1299 : decode cL_law 1299 = .ok (.iconst 3, 1) := by decide +kernel
theorem dL_law_1300 : decode cL_law 1300 = .ok (.iadd, 1) := by decide +kernel
theorem dL_law_1301 : decode cL_law 1301 = .ok (.iaload, 1) := by decide +kernel
theorem dL_law_1302 : decode cL_law 1302 = .ok (.invokevirtual 161, 3) := by decide +kernel
theorem dL_law_1305 : decode cL_law 1305 = .ok (.if_icmp .eq 231, 3) := by decide +kernel
theorem dL_law_1308 : decode cL_law 1308 = .ok (.iconst 0, 1) := by decide +kernel
theorem dL_law_1309 : decode cL_law 1309 = .ok (.ireturn, 1) := by decide +kernel
theorem dL_law_1310 : decode cL_law 1310 = .ok (.aload_n 1, 1) := by decide +kernel
theorem dL_law_1311 : decode cL_law 1311 = .ok (.aload_n 0, 1) := by decide +kernel
theorem dL_law_1312 : decode cL_law 1312 = .ok (.iload_n 3, 1) := by decide +kernel
theorem dL_law_1313 : decode cL_law 1313 = .ok (.iconst 1, 1) := by decide +kernel
theorem dL_law_1314 : decode cL_law 1314 = .ok (.iadd, 1) := by decide +kernel
theorem dL_law_1315 : decode cL_law 1315 = .ok (.iaload, 1) := by decide +kernel
theorem dL_law_1316 : decode cL_law 1316 = .ok (.aload_n 0, 1) := by decide +kernel
theorem dL_law_1317 : decode cL_law 1317 = .ok (.iload_n 3, 1) := by decide +kernel
theorem dL_law_1318 : decode cL_law 1318 = .ok (.iconst 2, 1) := by decide +kernel
theorem dL_law_1319 : decode cL_law 1319 = .ok (.iadd, 1) := by decide +kernel
theorem dL_law_1320 : decode cL_law 1320 = .ok (.iaload, 1) := by decide +kernel
theorem dL_law_1321 : decode cL_law 1321 = .ok (.aload_n 0, 1) := by decide +kernel
theorem dL_law_1322 : decode cL_law 1322 = .ok (.iload_n 3, 1) := by decide +kernel
theorem dL_law_1323 : decode cL_law 1323 = .ok (.iconst 3, 1) := by decide +kernel
theorem dL_law_1324 : decode cL_law 1324 = .ok (.iadd, 1) := by decide +kernel
theorem dL_law_1325 : decode cL_law 1325 = .ok (.iaload, 1) := by decide +kernel
theorem dL_law_1326 : decode cL_law 1326 = .ok (.i2l, 1) := by decide +kernel
theorem dL_law_1327 : decode cL_law 1327 = .ok (.bipush 32, 2) := by decide +kernel
theorem dL_law_1329 : decode cL_law 1329 = .ok (.lshl, 1) := by decide +kernel
theorem dL_law_1330 : decode cL_law 1330 = .ok (.aload_n 0, 1) := by decide +kernel
theorem dL_law_1331 : decode cL_law 1331 = .ok (.iload_n 3, 1) := by decide +kernel
theorem dL_law_1332 : decode cL_law 1332 = .ok (.iconst 4, 1) := by decide +kernel
theorem dL_law_1333 : decode cL_law 1333 = .ok (.iadd, 1) := by decide +kernel
theorem dL_law_1334 : decode cL_law 1334 = .ok (.iaload, 1) := by decide +kernel
theorem dL_law_1335 : decode cL_law 1335 = .ok (.i2l, 1) := by decide +kernel
theorem dL_law_1336 : decode cL_law 1336 = .ok (.ldc2_w 162, 3) := by decide +kernel
theorem dL_law_1339 : decode cL_law 1339 = .ok (.land, 1) := by decide +kernel
theorem dL_law_1340 : decode cL_law 1340 = .ok (.lor, 1) := by decide +kernel
theorem dL_law_1341 : decode cL_law 1341 = .ok (.invokevirtual 164, 3) := by decide +kernel
theorem dL_law_1344 : decode cL_law 1344 = .ok (.aload_n 2, 1) := by decide +kernel
theorem dL_law_1345 : decode cL_law 1345 = .ok (.aload_n 0, 1) := by decide +kernel
theorem dL_law_1346 : decode cL_law 1346 = .ok (.iload_n 3, 1) := by decide +kernel
theorem dL_law_1347 : decode cL_law 1347 = .ok (.iconst 1, 1) := by decide +kernel
theorem dL_law_1348 : decode cL_law 1348 = .ok (.iadd, 1) := by decide +kernel
theorem dL_law_1349 : decode cL_law 1349 = .ok (.iaload, 1) := by decide +kernel
theorem dL_law_1350 : decode cL_law 1350 = .ok (.aload_n 0, 1) := by decide +kernel
theorem dL_law_1351 : decode cL_law 1351 = .ok (.iload_n 3, 1) := by decide +kernel
theorem dL_law_1352 : decode cL_law 1352 = .ok (.iconst 2, 1) := by decide +kernel
theorem dL_law_1353 : decode cL_law 1353 = .ok (.iadd, 1) := by decide +kernel
theorem dL_law_1354 : decode cL_law 1354 = .ok (.iaload, 1) := by decide +kernel
theorem dL_law_1355 : decode cL_law 1355 = .ok (.aload_n 0, 1) := by decide +kernel
theorem dL_law_1356 : decode cL_law 1356 = .ok (.iload_n 3, 1) := by decide +kernel
theorem dL_law_1357 : decode cL_law 1357 = .ok (.iconst 3, 1) := by decide +kernel
theorem dL_law_1358 : decode cL_law 1358 = .ok (.iadd, 1) := by decide +kernel
theorem dL_law_1359 : decode cL_law 1359 = .ok (.iaload, 1) := by decide +kernel
theorem dL_law_1360 : decode cL_law 1360 = .ok (.i2l, 1) := by decide +kernel
theorem dL_law_1361 : decode cL_law 1361 = .ok (.bipush 32, 2) := by decide +kernel
theorem dL_law_1363 : decode cL_law 1363 = .ok (.lshl, 1) := by decide +kernel
theorem dL_law_1364 : decode cL_law 1364 = .ok (.aload_n 0, 1) := by decide +kernel
theorem dL_law_1365 : decode cL_law 1365 = .ok (.iload_n 3, 1) := by decide +kernel
theorem dL_law_1366 : decode cL_law 1366 = .ok (.iconst 4, 1) := by decide +kernel
theorem dL_law_1367 : decode cL_law 1367 = .ok (.iadd, 1) := by decide +kernel
theorem dL_law_1368 : decode cL_law 1368 = .ok (.iaload, 1) := by decide +kernel
theorem dL_law_1369 : decode cL_law 1369 = .ok (.i2l, 1) := by decide +kernel
theorem dL_law_1370 : decode cL_law 1370 = .ok (.ldc2_w 162, 3) := by decide +kernel
theorem dL_law_1373 : decode cL_law 1373 = .ok (.land, 1) := by decide +kernel
theorem dL_law_1374 : decode cL_law 1374 = .ok (.lor, 1) := by decide +kernel
theorem dL_law_1375 : decode cL_law 1375 = .ok (.invokevirtual 168, 3) := by decide +kernel
theorem dL_law_1378 : decode cL_law 1378 = .ok (.if_icmp .eq 158, 3) := by decide +kernel
theorem dL_law_1381 : decode cL_law 1381 = .ok (.iconst 0, 1) := by decide +kernel
theorem dL_law_1382 : decode cL_law 1382 = .ok (.ireturn, 1) := by decide +kernel
theorem dL_law_1383 : decode cL_law 1383 = .ok (.aload_n 1, 1) := by decide +kernel
theorem dL_law_1384 : decode cL_law 1384 = .ok (.aload_n 0, 1) := by decide +kernel
theorem dL_law_1385 : decode cL_law 1385 = .ok (.iload_n 3, 1) := by decide +kernel
theorem dL_law_1386 : decode cL_law 1386 = .ok (.iconst 1, 1) := by decide +kernel
theorem dL_law_1387 : decode cL_law 1387 = .ok (.iadd, 1) := by decide +kernel
theorem dL_law_1388 : decode cL_law 1388 = .ok (.iaload, 1) := by decide +kernel
theorem dL_law_1389 : decode cL_law 1389 = .ok (.aload_n 0, 1) := by decide +kernel
theorem dL_law_1390 : decode cL_law 1390 = .ok (.iload_n 3, 1) := by decide +kernel
theorem dL_law_1391 : decode cL_law 1391 = .ok (.iconst 2, 1) := by decide +kernel
theorem dL_law_1392 : decode cL_law 1392 = .ok (.iadd, 1) := by decide +kernel
theorem dL_law_1393 : decode cL_law 1393 = .ok (.iaload, 1) := by decide +kernel
theorem dL_law_1394 : decode cL_law 1394 = .ok (.invokevirtual 169, 3) := by decide +kernel
theorem dL_law_1397 : decode cL_law 1397 = .ok (.aload_n 2, 1) := by decide +kernel
theorem dL_law_1398 : decode cL_law 1398 = .ok (.aload_n 0, 1) := by decide +kernel
theorem dL_law_1399 : decode cL_law 1399 = .ok (.iload_n 3, 1) := by decide +kernel
theorem dL_law_1400 : decode cL_law 1400 = .ok (.iconst 1, 1) := by decide +kernel
theorem dL_law_1401 : decode cL_law 1401 = .ok (.iadd, 1) := by decide +kernel
theorem dL_law_1402 : decode cL_law 1402 = .ok (.iaload, 1) := by decide +kernel
theorem dL_law_1403 : decode cL_law 1403 = .ok (.aload_n 0, 1) := by decide +kernel
theorem dL_law_1404 : decode cL_law 1404 = .ok (.iload_n 3, 1) := by decide +kernel
theorem dL_law_1405 : decode cL_law 1405 = .ok (.iconst 2, 1) := by decide +kernel
theorem dL_law_1406 : decode cL_law 1406 = .ok (.iadd, 1) := by decide +kernel
theorem dL_law_1407 : decode cL_law 1407 = .ok (.iaload, 1) := by decide +kernel
theorem dL_law_1408 : decode cL_law 1408 = .ok (.invokevirtual 173, 3) := by decide +kernel
theorem dL_law_1411 : decode cL_law 1411 = .ok (.lcmp, 1) := by decide +kernel
theorem dL_law_1412 : decode cL_law 1412 = .ok (.ifCond .eq 124, 3) := by decide +kernel
theorem dL_law_1415 : decode cL_law 1415 = .ok (.iconst 0, 1) := by decide +kernel
theorem dL_law_1416 : decode cL_law 1416 = .ok (.ireturn, 1) := by decide +kernel
theorem dL_law_1417 : decode cL_law 1417 = .ok (.aload_n 1, 1) := by decide +kernel
theorem dL_law_1418 : decode cL_law 1418 = .ok (.aload_n 0, 1) := by decide +kernel
theorem dL_law_1419 : decode cL_law 1419 = .ok (.iload_n 3, 1) := by decide +kernel
theorem dL_law_1420 : decode cL_law 1420 = .ok (.iconst 1, 1) := by decide +kernel
theorem dL_law_1421 : decode cL_law 1421 = .ok (.iadd, 1) := by decide +kernel
theorem dL_law_1422 : decode cL_law 1422 = .ok (.iaload, 1) := by decide +kernel
theorem dL_law_1423 : decode cL_law 1423 = .ok (.aload_n 0, 1) := by decide +kernel
theorem dL_law_1424 : decode cL_law 1424 = .ok (.iload_n 3, 1) := by decide +kernel
theorem dL_law_1425 : decode cL_law 1425 = .ok (.iconst 2, 1) := by decide +kernel
theorem dL_law_1426 : decode cL_law 1426 = .ok (.iadd, 1) := by decide +kernel
theorem dL_law_1427 : decode cL_law 1427 = .ok (.iaload, 1) := by decide +kernel
theorem dL_law_1428 : decode cL_law 1428 = .ok (.aload_n 0, 1) := by decide +kernel
theorem dL_law_1429 : decode cL_law 1429 = .ok (.iload_n 3, 1) := by decide +kernel
theorem dL_law_1430 : decode cL_law 1430 = .ok (.iconst 3, 1) := by decide +kernel
theorem dL_law_1431 : decode cL_law 1431 = .ok (.iadd, 1) := by decide +kernel
theorem dL_law_1432 : decode cL_law 1432 = .ok (.iaload, 1) := by decide +kernel
theorem dL_law_1433 : decode cL_law 1433 = .ok (.aload_n 0, 1) := by decide +kernel
theorem dL_law_1434 : decode cL_law 1434 = .ok (.iload_n 3, 1) := by decide +kernel
theorem dL_law_1435 : decode cL_law 1435 = .ok (.iconst 4, 1) := by decide +kernel
theorem dL_law_1436 : decode cL_law 1436 = .ok (.iadd, 1) := by decide +kernel
theorem dL_law_1437 : decode cL_law 1437 = .ok (.iaload, 1) := by decide +kernel
theorem dL_law_1438 : decode cL_law 1438 = .ok (.aload_n 0, 1) := by decide +kernel
theorem dL_law_1439 : decode cL_law 1439 = .ok (.iload_n 3, 1) := by decide +kernel
theorem dL_law_1440 : decode cL_law 1440 = .ok (.iconst 5, 1) := by decide +kernel
theorem dL_law_1441 : decode cL_law 1441 = .ok (.iadd, 1) := by decide +kernel
theorem dL_law_1442 : decode cL_law 1442 = .ok (.iaload, 1) := by decide +kernel
theorem dL_law_1443 : decode cL_law 1443 = .ok (.invokevirtual 174, 3) := by decide +kernel
theorem dL_law_1446 : decode cL_law 1446 = .ok (.aload_n 2, 1) := by decide +kernel
theorem dL_law_1447 : decode cL_law 1447 = .ok (.aload_n 0, 1) := by decide +kernel
theorem dL_law_1448 : decode cL_law 1448 = .ok (.iload_n 3, 1) := by decide +kernel
theorem dL_law_1449 : decode cL_law 1449 = .ok (.iconst 1, 1) := by decide +kernel
theorem dL_law_1450 : decode cL_law 1450 = .ok (.iadd, 1) := by decide +kernel
theorem dL_law_1451 : decode cL_law 1451 = .ok (.iaload, 1) := by decide +kernel
theorem dL_law_1452 : decode cL_law 1452 = .ok (.aload_n 0, 1) := by decide +kernel
theorem dL_law_1453 : decode cL_law 1453 = .ok (.iload_n 3, 1) := by decide +kernel
theorem dL_law_1454 : decode cL_law 1454 = .ok (.iconst 2, 1) := by decide +kernel
theorem dL_law_1455 : decode cL_law 1455 = .ok (.iadd, 1) := by decide +kernel
theorem dL_law_1456 : decode cL_law 1456 = .ok (.iaload, 1) := by decide +kernel
theorem dL_law_1457 : decode cL_law 1457 = .ok (.aload_n 0, 1) := by decide +kernel
theorem dL_law_1458 : decode cL_law 1458 = .ok (.iload_n 3, 1) := by decide +kernel
theorem dL_law_1459 : decode cL_law 1459 = .ok (.iconst 3, 1) := by decide +kernel
theorem dL_law_1460 : decode cL_law 1460 = .ok (.iadd, 1) := by decide +kernel
theorem dL_law_1461 : decode cL_law 1461 = .ok (.iaload, 1) := by decide +kernel
theorem dL_law_1462 : decode cL_law 1462 = .ok (.aload_n 0, 1) := by decide +kernel
theorem dL_law_1463 : decode cL_law 1463 = .ok (.iload_n 3, 1) := by decide +kernel
theorem dL_law_1464 : decode cL_law 1464 = .ok (.iconst 4, 1) := by decide +kernel
theorem dL_law_1465 : decode cL_law 1465 = .ok (.iadd, 1) := by decide +kernel
theorem dL_law_1466 : decode cL_law 1466 = .ok (.iaload, 1) := by decide +kernel
theorem dL_law_1467 : decode cL_law 1467 = .ok (.aload_n 0, 1) := by decide +kernel
theorem dL_law_1468 : decode cL_law 1468 = .ok (.iload_n 3, 1) := by decide +kernel
theorem dL_law_1469 : decode cL_law 1469 = .ok (.iconst 5, 1) := by decide +kernel
theorem dL_law_1470 : decode cL_law 1470 = .ok (.iadd, 1) := by decide +kernel
theorem dL_law_1471 : decode cL_law 1471 = .ok (.iaload, 1) := by decide +kernel
theorem dL_law_1472 : decode cL_law 1472 = .ok (.invokevirtual 178, 3) := by decide +kernel
theorem dL_law_1475 : decode cL_law 1475 = .ok (.if_icmp .eq 61, 3) := by decide +kernel
theorem dL_law_1478 : decode cL_law 1478 = .ok (.iconst 0, 1) := by decide +kernel
theorem dL_law_1479 : decode cL_law 1479 = .ok (.ireturn, 1) := by decide +kernel
theorem dL_law_1480 : decode cL_law 1480 = .ok (.aload_n 1, 1) := by decide +kernel
theorem dL_law_1481 : decode cL_law 1481 = .ok (.aload_n 0, 1) := by decide +kernel
theorem dL_law_1482 : decode cL_law 1482 = .ok (.iload_n 3, 1) := by decide +kernel
theorem dL_law_1483 : decode cL_law 1483 = .ok (.iconst 1, 1) := by decide +kernel
theorem dL_law_1484 : decode cL_law 1484 = .ok (.iadd, 1) := by decide +kernel
theorem dL_law_1485 : decode cL_law 1485 = .ok (.iaload, 1) := by decide +kernel
theorem dL_law_1486 : decode cL_law 1486 = .ok (.aload_n 0, 1) := by decide +kernel
theorem dL_law_1487 : decode cL_law 1487 = .ok (.iload_n 3, 1) := by decide +kernel
theorem dL_law_1488 : decode cL_law 1488 = .ok (.iconst 2, 1) := by decide +kernel
theorem dL_law_1489 : decode cL_law 1489 = .ok (.iadd, 1) := by decide +kernel
theorem dL_law_1490 : decode cL_law 1490 = .ok (.iaload, 1) := by decide +kernel
theorem dL_law_1491 : decode cL_law 1491 = .ok (.invokevirtual 179, 3) := by decide +kernel
theorem dL_law_1494 : decode cL_law 1494 = .ok (.aload_n 2, 1) := by decide +kernel
theorem dL_law_1495 : decode cL_law 1495 = .ok (.aload_n 0, 1) := by decide +kernel
theorem dL_law_1496 : decode cL_law 1496 = .ok (.iload_n 3, 1) := by decide +kernel
theorem dL_law_1497 : decode cL_law 1497 = .ok (.iconst 1, 1) := by decide +kernel
theorem dL_law_1498 : decode cL_law 1498 = .ok (.iadd, 1) := by decide +kernel
theorem dL_law_1499 : decode cL_law 1499 = .ok (.iaload, 1) := by decide +kernel
theorem dL_law_1500 : decode cL_law 1500 = .ok (.aload_n 0, 1) := by decide +kernel
theorem dL_law_1501 : decode cL_law 1501 = .ok (.iload_n 3, 1) := by decide +kernel
theorem dL_law_1502 : decode cL_law 1502 = .ok (.iconst 2, 1) := by decide +kernel
theorem dL_law_1503 : decode cL_law 1503 = .ok (.iadd, 1) := by decide +kernel
theorem dL_law_1504 : decode cL_law 1504 = .ok (.iaload, 1) := by decide +kernel
theorem dL_law_1505 : decode cL_law 1505 = .ok (.invokevirtual 182, 3) := by decide +kernel
theorem dL_law_1508 : decode cL_law 1508 = .ok (.if_icmp .eq 28, 3) := by decide +kernel
theorem dL_law_1511 : decode cL_law 1511 = .ok (.iconst 0, 1) := by decide +kernel
theorem dL_law_1512 : decode cL_law 1512 = .ok (.ireturn, 1) := by decide +kernel
theorem dL_law_1513 : decode cL_law 1513 = .ok (.aload_n 1, 1) := by decide +kernel
theorem dL_law_1514 : decode cL_law 1514 = .ok (.aload_n 0, 1) := by decide +kernel
theorem dL_law_1515 : decode cL_law 1515 = .ok (.iload_n 3, 1) := by decide +kernel
theorem dL_law_1516 : decode cL_law 1516 = .ok (.iconst 1, 1) := by decide +kernel
theorem dL_law_1517 : decode cL_law 1517 = .ok (.iadd, 1) := by decide +kernel
theorem dL_law_1518 : decode cL_law 1518 = .ok (.iaload, 1) := by decide +kernel
theorem dL_law_1519 : decode cL_law 1519 = .ok (.invokevirtual 183, 3) := by decide +kernel
theorem dL_law_1522 : decode cL_law 1522 = .ok (.aload_n 2, 1) := by decide +kernel
theorem dL_law_1523 : decode cL_law 1523 = .ok (.aload_n 0, 1) := by decide +kernel
theorem dL_law_1524 : decode cL_law 1524 = .ok (.iload_n 3, 1) := by decide +kernel
theorem dL_law_1525 : decode cL_law 1525 = .ok (.iconst 1, 1) := by decide +kernel
theorem dL_law_1526 : decode cL_law 1526 = .ok (.iadd, 1) := by decide +kernel
theorem dL_law_1527 : decode cL_law 1527 = .ok (.iaload, 1) := by decide +kernel
theorem dL_law_1528 : decode cL_law 1528 = .ok (.invokevirtual 186, 3) := by decide +kernel
theorem dL_law_1531 : decode cL_law 1531 = .ok (.if_icmp .eq 5, 3) := by decide +kernel
theorem dL_law_1534 : decode cL_law 1534 = .ok (.iconst 0, 1) := by decide +kernel
theorem dL_law_1535 : decode cL_law 1535 = .ok (.ireturn, 1) := by decide +kernel
theorem dL_law_1536 : decode cL_law 1536 = .ok (.iinc 3 6, 3) := by decide +kernel
theorem dL_law_1539 : decode cL_law 1539 = .ok (.goto (-1521), 3) := by decide +kernel
theorem dL_law_1542 : decode cL_law 1542 = .ok (.iconst 1, 1) := by decide +kernel
theorem dL_law_1543 : decode cL_law 1543 = .ok (.ireturn, 1) := by decide +kernel
