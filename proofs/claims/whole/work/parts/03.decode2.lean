theorem dX12_init_264 : decode cX12_init 264 = .ok (.newarray .boolean, 2) := by decide +kernel
theorem dX12_init_266 : decode cX12_init 266 = .ok (.putfield 99, 3) := by decide +kernel
theorem dX12_init_269 : decode cX12_init 269 = .ok (.aload_n 0, 1) := by decide +kernel
theorem dX12_init_270 : decode cX12_init 270 = .ok (.sipush 300, 3) := by decide +kernel
theorem dX12_init_273 : decode cX12_init 273 = .ok (.newarray .boolean, 2) := by decide +kernel
theorem dX12_init_275 : decode cX12_init 275 = .ok (.putfield 102, 3) := by decide +kernel
theorem dX12_init_278 : decode cX12_init 278 = .ok (.aload_n 0, 1) := by decide +kernel
theorem dX12_init_279 : decode cX12_init 279 = .ok (.sipush 300, 3) := by decide +kernel
theorem dX12_init_282 : decode cX12_init 282 = .ok (.newarray .boolean, 2) := by decide +kernel
theorem dX12_init_284 : decode cX12_init 284 = .ok (.putfield 105, 3) := by decide +kernel
theorem dX12_init_287 : decode cX12_init 287 = .ok (.aload_n 0, 1) := by decide +kernel
theorem dX12_init_288 : decode cX12_init 288 = .ok (.sipush 300, 3) := by decide +kernel
theorem dX12_init_291 : decode cX12_init 291 = .ok (.newarray .int, 2) := by decide +kernel
theorem dX12_init_293 : decode cX12_init 293 = .ok (.putfield 108, 3) := by decide +kernel
theorem dX12_init_296 : decode cX12_init 296 = .ok (.aload_n 0, 1) := by decide +kernel
theorem dX12_init_297 : decode cX12_init 297 = .ok (.sipush 300, 3) := by decide +kernel
theorem dX12_init_300 : decode cX12_init 300 = .ok (.newarray .int, 2) := by decide +kernel
theorem dX12_init_302 : decode cX12_init 302 = .ok (.putfield 111, 3) := by decide +kernel
theorem dX12_init_305 : decode cX12_init 305 = .ok (.aload_n 0, 1) := by decide +kernel
theorem dX12_init_306 : decode cX12_init 306 = .ok (.sipush 300, 3) := by decide +kernel
theorem dX12_init_309 : decode cX12_init 309 = .ok (.newarray .int, 2) := by decide +kernel
theorem dX12_init_311 : decode cX12_init 311 = .ok (.putfield 114, 3) := by decide +kernel
theorem dX12_init_314 : decode cX12_init 314 = .ok (.aload_n 0, 1) := by decide +kernel
theorem dX12_init_315 : decode cX12_init 315 = .ok (.sipush 960, 3) := by decide +kernel
theorem dX12_init_318 : decode cX12_init 318 = .ok (.newarray .int, 2) := by decide +kernel
theorem dX12_init_320 : decode cX12_init 320 = .ok (.putfield 117, 3) := by decide +kernel
theorem dX12_init_323 : decode cX12_init 323 = .ok (.aload_n 0, 1) := by decide +kernel
theorem dX12_init_324 : decode cX12_init 324 = .ok (.sipush 960, 3) := by decide +kernel
theorem dX12_init_327 : decode cX12_init 327 = .ok (.newarray .int, 2) := by decide +kernel
theorem dX12_init_329 : decode cX12_init 329 = .ok (.putfield 120, 3) := by decide +kernel
theorem dX12_init_332 : decode cX12_init 332 = .ok (.aload_n 0, 1) := by decide +kernel
theorem dX12_init_333 : decode cX12_init 333 = .ok (.sipush 300, 3) := by decide +kernel
theorem dX12_init_336 : decode cX12_init 336 = .ok (.newarray .int, 2) := by decide +kernel
theorem dX12_init_338 : decode cX12_init 338 = .ok (.putfield 123, 3) := by decide +kernel
theorem dX12_init_341 : decode cX12_init 341 = .ok (.aload_n 0, 1) := by decide +kernel
theorem dX12_init_342 : decode cX12_init 342 = .ok (.sipush 300, 3) := by decide +kernel
theorem dX12_init_345 : decode cX12_init 345 = .ok (.newarray .int, 2) := by decide +kernel
theorem dX12_init_347 : decode cX12_init 347 = .ok (.putfield 126, 3) := by decide +kernel
theorem dX12_init_350 : decode cX12_init 350 = .ok (.aload_n 0, 1) := by decide +kernel
theorem dX12_init_351 : decode cX12_init 351 = .ok (.sipush 300, 3) := by decide +kernel
theorem dX12_init_354 : decode cX12_init 354 = .ok (.newarray .boolean, 2) := by decide +kernel
theorem dX12_init_356 : decode cX12_init 356 = .ok (.putfield 129, 3) := by decide +kernel
theorem dX12_init_359 : decode cX12_init 359 = .ok (.aload_n 0, 1) := by decide +kernel
theorem dX12_init_360 : decode cX12_init 360 = .ok (.iload_n 1, 1) := by decide +kernel
theorem dX12_init_361 : decode cX12_init 361 = .ok (.iconst 1, 1) := by decide +kernel
theorem dX12_init_362 : decode cX12_init 362 = .ok (.if_icmp .ne 7, 3) := by decide +kernel
theorem dX12_init_365 : decode cX12_init 365 = .ok (.iconst 1, 1) := by decide +kernel
theorem dX12_init_366 : decode cX12_init 366 = .ok (.goto 4, 3) := by decide +kernel
theorem dX12_init_369 : decode cX12_init 369 = .ok (.iconst 0, 1) := by decide +kernel
theorem dX12_init_370 : decode cX12_init 370 = .ok (.putfield 132, 3) := by decide +kernel
theorem dX12_init_373 : decode cX12_init 373 = .ok (.return_, 1) := by decide +kernel
theorem dX12_thrown_0 : decode cX12_thrown 0 = .ok (.aload_n 0, 1) := by decide +kernel
theorem dX12_thrown_1 : decode cX12_thrown 1 = .ok (.getfield 136, 3) := by decide +kernel
theorem dX12_thrown_4 : decode cX12_thrown 4 = .ok (.ireturn, 1) := by decide +kernel
theorem dX12_fail_0 : decode cX12_fail 0 = .ok (.aload_n 0, 1) := by decide +kernel
theorem dX12_fail_1 : decode cX12_fail 1 = .ok (.iload_n 1, 1) := by decide +kernel
theorem dX12_fail_2 : decode cX12_fail 2 = .ok (.putfield 136, 3) := by decide +kernel
theorem dX12_fail_5 : decode cX12_fail 5 = .ok (.iconst 0, 1) := by decide +kernel
theorem dX12_fail_6 : decode cX12_fail 6 = .ok (.ireturn, 1) := by decide +kernel
theorem dX12_isNode_0 : decode cX12_isNode 0 = .ok (.iload_n 1, 1) := by decide +kernel
theorem dX12_isNode_1 : decode cX12_isNode 1 = .ok (.ifCond .lt 15, 3) := by decide +kernel
theorem dX12_isNode_4 : decode cX12_isNode 4 = .ok (.iload_n 1, 1) := by decide +kernel
theorem dX12_isNode_5 : decode cX12_isNode 5 = .ok (.aload_n 0, 1) := by decide +kernel
theorem dX12_isNode_6 : decode cX12_isNode 6 = .ok (.getfield 140, 3) := by decide +kernel
theorem dX12_isNode_9 : decode cX12_isNode 9 = .ok (.if_icmp .ge 7, 3) := by decide +kernel
theorem dX12_isNode_12 : decode cX12_isNode 12 = .ok (.iconst 1, 1) := by decide +kernel
theorem dX12_isNode_13 : decode cX12_isNode 13 = .ok (.goto 4, 3) := by decide +kernel
theorem dX12_isNode_16 : decode cX12_isNode 16 = .ok (.iconst 0, 1) := by decide +kernel
theorem dX12_isNode_17 : decode cX12_isNode 17 = .ok (.ireturn, 1) := by decide +kernel
theorem dX12_isArc_0 : decode cX12_isArc 0 = .ok (.iload_n 1, 1) := by decide +kernel
theorem dX12_isArc_1 : decode cX12_isArc 1 = .ok (.ifCond .lt 24, 3) := by decide +kernel
theorem dX12_isArc_4 : decode cX12_isArc 4 = .ok (.iload_n 1, 1) := by decide +kernel
theorem dX12_isArc_5 : decode cX12_isArc 5 = .ok (.aload_n 0, 1) := by decide +kernel
theorem dX12_isArc_6 : decode cX12_isArc 6 = .ok (.getfield 143, 3) := by decide +kernel
theorem dX12_isArc_9 : decode cX12_isArc 9 = .ok (.if_icmp .ge 16, 3) := by decide +kernel
theorem dX12_isArc_12 : decode cX12_isArc 12 = .ok (.aload_n 0, 1) := by decide +kernel
theorem dX12_isArc_13 : decode cX12_isArc 13 = .ok (.getfield 29, 3) := by decide +kernel
theorem dX12_isArc_16 : decode cX12_isArc 16 = .ok (.iload_n 1, 1) := by decide +kernel
theorem dX12_isArc_17 : decode cX12_isArc 17 = .ok (.baload, 1) := by decide +kernel
theorem dX12_isArc_18 : decode cX12_isArc 18 = .ok (.ifCond .eq 7, 3) := by decide +kernel
theorem dX12_isArc_21 : decode cX12_isArc 21 = .ok (.iconst 1, 1) := by decide +kernel
theorem dX12_isArc_22 : decode cX12_isArc 22 = .ok (.goto 4, 3) := by decide +kernel
theorem dX12_isArc_25 : decode cX12_isArc 25 = .ok (.iconst 0, 1) := by decide +kernel
theorem dX12_isArc_26 : decode cX12_isArc 26 = .ok (.ireturn, 1) := by decide +kernel
theorem dX12_walk_0 : decode cX12_walk 0 = .ok (.iconst 0, 1) := by decide +kernel
theorem dX12_walk_1 : decode cX12_walk 1 = .ok (.istore 5, 2) := by decide +kernel
theorem dX12_walk_3 : decode cX12_walk 3 = .ok (.iload 5, 2) := by decide +kernel
theorem dX12_walk_5 : decode cX12_walk 5 = .ok (.aload_n 0, 1) := by decide +kernel
theorem dX12_walk_6 : decode cX12_walk 6 = .ok (.getfield 140, 3) := by decide +kernel
theorem dX12_walk_9 : decode cX12_walk 9 = .ok (.if_icmp .ge 25, 3) := by decide +kernel
theorem dX12_walk_12 : decode cX12_walk 12 = .ok (.aload_n 0, 1) := by decide +kernel
theorem dX12_walk_13 : decode cX12_walk 13 = .ok (.getfield 56, 3) := by decide +kernel
theorem dX12_walk_16 : decode cX12_walk 16 = .ok (.iload 5, 2) := by decide +kernel
theorem dX12_walk_18 : decode cX12_walk 18 = .ok (.iconst 0, 1) := by decide +kernel
theorem dX12_walk_19 : decode cX12_walk 19 = .ok (.bastore, 1) := by decide +kernel
theorem dX12_walk_20 : decode cX12_walk 20 = .ok (.aload_n 0, 1) := by decide +kernel
theorem dX12_walk_21 : decode cX12_walk 21 = .ok (.getfield 68, 3) := by decide +kernel
theorem dX12_walk_24 : decode cX12_walk 24 = .ok (.iload 5, 2) := by decide +kernel
theorem dX12_walk_26 : decode cX12_walk 26 = .ok (.iconst (-1), 1) := by decide +kernel
theorem dX12_walk_27 : decode cX12_walk 27 = .ok (.iastore, 1) := by decide +kernel
theorem dX12_walk_28 : decode cX12_walk 28 = .ok (.iinc 5 1, 3) := by decide +kernel
theorem dX12_walk_31 : decode cX12_walk 31 = .ok (.goto (-28), 3) := by decide +kernel
theorem dX12_walk_34 : decode cX12_walk 34 = .ok (.aload_n 0, 1) := by decide +kernel
theorem dX12_walk_35 : decode cX12_walk 35 = .ok (.getfield 146, 3) := by decide +kernel
theorem dX12_walk_38 : decode cX12_walk 38 = .ok (.iconst 1, 1) := by decide +kernel
theorem dX12_walk_39 : decode cX12_walk 39 = .ok (.isub, 1) := by decide +kernel
theorem dX12_walk_40 : decode cX12_walk 40 = .ok (.istore 5, 2) := by decide +kernel
theorem dX12_walk_42 : decode cX12_walk 42 = .ok (.iload 5, 2) := by decide +kernel
theorem dX12_walk_44 : decode cX12_walk 44 = .ok (.ifCond .lt 181, 3) := by decide +kernel
theorem dX12_walk_47 : decode cX12_walk 47 = .ok (.aload_n 0, 1) := by decide +kernel
theorem dX12_walk_48 : decode cX12_walk 48 = .ok (.getfield 32, 3) := by decide +kernel
theorem dX12_walk_51 : decode cX12_walk 51 = .ok (.iload 5, 2) := by decide +kernel
theorem dX12_walk_53 : decode cX12_walk 53 = .ok (.iaload, 1) := by decide +kernel
theorem dX12_walk_54 : decode cX12_walk 54 = .ok (.istore 6, 2) := by decide +kernel
theorem dX12_walk_56 : decode cX12_walk 56 = .ok (.iload 6, 2) := by decide +kernel
theorem dX12_walk_58 : decode cX12_walk 58 = .ok (.iload 4, 2) := by decide +kernel
theorem dX12_walk_60 : decode cX12_walk 60 = .ok (.if_icmp .eq 50, 3) := by decide +kernel
theorem dX12_walk_63 : decode cX12_walk 63 = .ok (.iload_n 2, 1) := by decide +kernel
theorem dX12_walk_64 : decode cX12_walk 64 = .ok (.ifCond .ne 27, 3) := by decide +kernel
theorem dX12_walk_67 : decode cX12_walk 67 = .ok (.aload_n 0, 1) := by decide +kernel
theorem dX12_walk_68 : decode cX12_walk 68 = .ok (.getfield 22, 3) := by decide +kernel
theorem dX12_walk_71 : decode cX12_walk 71 = .ok (.iload 6, 2) := by decide +kernel
theorem dX12_walk_73 : decode cX12_walk 73 = .ok (.baload, 1) := by decide +kernel
theorem dX12_walk_74 : decode cX12_walk 74 = .ok (.ifCond .eq 36, 3) := by decide +kernel
theorem dX12_walk_77 : decode cX12_walk 77 = .ok (.aload_n 0, 1) := by decide +kernel
theorem dX12_walk_78 : decode cX12_walk 78 = .ok (.getfield 19, 3) := by decide +kernel
theorem dX12_walk_81 : decode cX12_walk 81 = .ok (.iload 6, 2) := by decide +kernel
theorem dX12_walk_83 : decode cX12_walk 83 = .ok (.iaload, 1) := by decide +kernel
theorem dX12_walk_84 : decode cX12_walk 84 = .ok (.iload_n 3, 1) := by decide +kernel
theorem dX12_walk_85 : decode cX12_walk 85 = .ok (.if_icmp .lt 25, 3) := by decide +kernel
theorem dX12_walk_88 : decode cX12_walk 88 = .ok (.goto 18, 3) := by decide +kernel
theorem dX12_walk_91 : decode cX12_walk 91 = .ok (.iload_n 2, 1) := by decide +kernel
theorem dX12_walk_92 : decode cX12_walk 92 = .ok (.iconst 4, 1) := by decide +kernel
theorem dX12_walk_93 : decode cX12_walk 93 = .ok (.if_icmp .lt 13, 3) := by decide +kernel
theorem dX12_walk_96 : decode cX12_walk 96 = .ok (.aload_n 0, 1) := by decide +kernel
theorem dX12_walk_97 : decode cX12_walk 97 = .ok (.getfield 26, 3) := by decide +kernel
theorem dX12_walk_100 : decode cX12_walk 100 = .ok (.iload 6, 2) := by decide +kernel
theorem dX12_walk_102 : decode cX12_walk 102 = .ok (.baload, 1) := by decide +kernel
theorem dX12_walk_103 : decode cX12_walk 103 = .ok (.ifCond .ne 7, 3) := by decide +kernel
theorem dX12_walk_106 : decode cX12_walk 106 = .ok (.iconst 1, 1) := by decide +kernel
theorem dX12_walk_107 : decode cX12_walk 107 = .ok (.goto 4, 3) := by decide +kernel
theorem dX12_walk_110 : decode cX12_walk 110 = .ok (.iconst 0, 1) := by decide +kernel
theorem dX12_walk_111 : decode cX12_walk 111 = .ok (.istore 7, 2) := by decide +kernel
theorem dX12_walk_113 : decode cX12_walk 113 = .ok (.iload 7, 2) := by decide +kernel
theorem dX12_walk_115 : decode cX12_walk 115 = .ok (.ifCond .ne 6, 3) := by decide +kernel
theorem dX12_walk_118 : decode cX12_walk 118 = .ok (.goto 101, 3) := by decide +kernel
theorem dX12_walk_121 : decode cX12_walk 121 = .ok (.iload_n 2, 1) := by decide +kernel
theorem dX12_walk_122 : decode cX12_walk 122 = .ok (.iconst 3, 1) := by decide +kernel
theorem dX12_walk_123 : decode cX12_walk 123 = .ok (.if_icmp .eq 45, 3) := by decide +kernel
theorem dX12_walk_126 : decode cX12_walk 126 = .ok (.iload_n 2, 1) := by decide +kernel
theorem dX12_walk_127 : decode cX12_walk 127 = .ok (.iconst 5, 1) := by decide +kernel
theorem dX12_walk_128 : decode cX12_walk 128 = .ok (.if_icmp .eq 40, 3) := by decide +kernel
theorem dX12_walk_131 : decode cX12_walk 131 = .ok (.aload_n 0, 1) := by decide +kernel
theorem dX12_walk_132 : decode cX12_walk 132 = .ok (.getfield 71, 3) := by decide +kernel
theorem dX12_walk_135 : decode cX12_walk 135 = .ok (.iconst 2, 1) := by decide +kernel
theorem dX12_walk_136 : decode cX12_walk 136 = .ok (.iload 6, 2) := by decide +kernel
theorem dX12_walk_138 : decode cX12_walk 138 = .ok (.imul, 1) := by decide +kernel
theorem dX12_walk_139 : decode cX12_walk 139 = .ok (.aload_n 0, 1) := by decide +kernel
theorem dX12_walk_140 : decode cX12_walk 140 = .ok (.getfield 68, 3) := by decide +kernel
theorem dX12_walk_143 : decode cX12_walk 143 = .ok (.aload_n 0, 1) := by decide +kernel
theorem dX12_walk_144 : decode cX12_walk 144 = .ok (.getfield 13, 3) := by decide +kernel
theorem dX12_walk_147 : decode cX12_walk 147 = .ok (.iload 6, 2) := by decide +kernel
theorem dX12_walk_149 : decode cX12_walk 149 = .ok (.iaload, 1) := by decide +kernel
theorem dX12_walk_150 : decode cX12_walk 150 = .ok (.iaload, 1) := by decide +kernel
theorem dX12_walk_151 : decode cX12_walk 151 = .ok (.iastore, 1) := by decide +kernel
theorem dX12_walk_152 : decode cX12_walk 152 = .ok (.aload_n 0, 1) := by decide +kernel
theorem dX12_walk_153 : decode cX12_walk 153 = .ok (.getfield 68, 3) := by decide +kernel
theorem dX12_walk_156 : decode cX12_walk 156 = .ok (.aload_n 0, 1) := by decide +kernel
theorem dX12_walk_157 : decode cX12_walk 157 = .ok (.getfield 13, 3) := by decide +kernel
theorem dX12_walk_160 : decode cX12_walk 160 = .ok (.iload 6, 2) := by decide +kernel
theorem dX12_walk_162 : decode cX12_walk 162 = .ok (.iaload, 1) := by decide +kernel
theorem dX12_walk_163 : decode cX12_walk 163 = .ok (.iconst 2, 1) := by decide +kernel
theorem dX12_walk_164 : decode cX12_walk 164 = .ok (.iload 6, 2) := by decide +kernel
theorem dX12_walk_166 : decode cX12_walk 166 = .ok (.imul, 1) := by decide +kernel
theorem dX12_walk_167 : decode cX12_walk 167 = .ok (.iastore, 1) := by decide +kernel
theorem dX12_walk_168 : decode cX12_walk 168 = .ok (.iload_n 2, 1) := by decide +kernel
theorem dX12_walk_169 : decode cX12_walk 169 = .ok (.iconst 2, 1) := by decide +kernel
theorem dX12_walk_170 : decode cX12_walk 170 = .ok (.if_icmp .eq 49, 3) := by decide +kernel
theorem dX12_walk_173 : decode cX12_walk 173 = .ok (.iload_n 2, 1) := by decide +kernel
theorem dX12_walk_174 : decode cX12_walk 174 = .ok (.iconst 4, 1) := by decide +kernel
theorem dX12_walk_175 : decode cX12_walk 175 = .ok (.if_icmp .eq 44, 3) := by decide +kernel
theorem dX12_walk_178 : decode cX12_walk 178 = .ok (.aload_n 0, 1) := by decide +kernel
theorem dX12_walk_179 : decode cX12_walk 179 = .ok (.getfield 71, 3) := by decide +kernel
theorem dX12_walk_182 : decode cX12_walk 182 = .ok (.iconst 2, 1) := by decide +kernel
theorem dX12_walk_183 : decode cX12_walk 183 = .ok (.iload 6, 2) := by decide +kernel
theorem dX12_walk_185 : decode cX12_walk 185 = .ok (.imul, 1) := by decide +kernel
theorem dX12_walk_186 : decode cX12_walk 186 = .ok (.iconst 1, 1) := by decide +kernel
theorem dX12_walk_187 : decode cX12_walk 187 = .ok (.iadd, 1) := by decide +kernel
theorem dX12_walk_188 : decode cX12_walk 188 = .ok (.aload_n 0, 1) := by decide +kernel
theorem dX12_walk_189 : decode cX12_walk 189 = .ok (.getfield 68, 3) := by decide +kernel
theorem dX12_walk_192 : decode cX12_walk 192 = .ok (.aload_n 0, 1) := by decide +kernel
theorem dX12_walk_193 : decode cX12_walk 193 = .ok (.getfield 16, 3) := by decide +kernel
theorem dX12_walk_196 : decode cX12_walk 196 = .ok (.iload 6, 2) := by decide +kernel
theorem dX12_walk_198 : decode cX12_walk 198 = .ok (.iaload, 1) := by decide +kernel
theorem dX12_walk_199 : decode cX12_walk 199 = .ok (.iaload, 1) := by decide +kernel
theorem dX12_walk_200 : decode cX12_walk 200 = .ok (.iastore, 1) := by decide +kernel
theorem dX12_walk_201 : decode cX12_walk 201 = .ok (.aload_n 0, 1) := by decide +kernel
theorem dX12_walk_202 : decode cX12_walk 202 = .ok (.getfield 68, 3) := by decide +kernel
theorem dX12_walk_205 : decode cX12_walk 205 = .ok (.aload_n 0, 1) := by decide +kernel
theorem dX12_walk_206 : decode cX12_walk 206 = .ok (.getfield 16, 3) := by decide +kernel
theorem dX12_walk_209 : decode cX12_walk 209 = .ok (.iload 6, 2) := by decide +kernel
theorem dX12_walk_211 : decode cX12_walk 211 = .ok (.iaload, 1) := by decide +kernel
theorem dX12_walk_212 : decode cX12_walk 212 = .ok (.iconst 2, 1) := by decide +kernel
theorem dX12_walk_213 : decode cX12_walk 213 = .ok (.iload 6, 2) := by decide +kernel
theorem dX12_walk_215 : decode cX12_walk 215 = .ok (.imul, 1) := by decide +kernel
theorem dX12_walk_216 : decode cX12_walk 216 = .ok (.iconst 1, 1) := by decide +kernel
theorem dX12_walk_217 : decode cX12_walk 217 = .ok (.iadd, 1) := by decide +kernel
theorem dX12_walk_218 : decode cX12_walk 218 = .ok (.iastore, 1) := by decide +kernel
theorem dX12_walk_219 : decode cX12_walk 219 = .ok (.iinc 5 (-1), 3) := by decide +kernel
theorem dX12_walk_222 : decode cX12_walk 222 = .ok (.goto (-180), 3) := by decide +kernel
theorem dX12_walk_225 : decode cX12_walk 225 = .ok (.aload_n 0, 1) := by decide +kernel
theorem dX12_walk_226 : decode cX12_walk 226 = .ok (.iconst 1, 1) := by decide +kernel
theorem dX12_walk_227 : decode cX12_walk 227 = .ok (.putfield 149, 3) := by decide +kernel
theorem dX12_walk_230 : decode cX12_walk 230 = .ok (.aload_n 0, 1) := by decide +kernel
theorem dX12_walk_231 : decode cX12_walk 231 = .ok (.getfield 59, 3) := by decide +kernel
theorem dX12_walk_234 : decode cX12_walk 234 = .ok (.iconst 0, 1) := by decide +kernel
theorem dX12_walk_235 : decode cX12_walk 235 = .ok (.iload_n 1, 1) := by decide +kernel
theorem dX12_walk_236 : decode cX12_walk 236 = .ok (.iastore, 1) := by decide +kernel
theorem dX12_walk_237 : decode cX12_walk 237 = .ok (.aload_n 0, 1) := by decide +kernel
theorem dX12_walk_238 : decode cX12_walk 238 = .ok (.getfield 56, 3) := by decide +kernel
theorem dX12_walk_241 : decode cX12_walk 241 = .ok (.iload_n 1, 1) := by decide +kernel
theorem dX12_walk_242 : decode cX12_walk 242 = .ok (.iconst 1, 1) := by decide +kernel
theorem dX12_walk_243 : decode cX12_walk 243 = .ok (.bastore, 1) := by decide +kernel
theorem dX12_walk_244 : decode cX12_walk 244 = .ok (.aload_n 0, 1) := by decide +kernel
theorem dX12_walk_245 : decode cX12_walk 245 = .ok (.getfield 62, 3) := by decide +kernel
theorem dX12_walk_248 : decode cX12_walk 248 = .ok (.iload_n 1, 1) := by decide +kernel
theorem dX12_walk_249 : decode cX12_walk 249 = .ok (.iconst (-1), 1) := by decide +kernel
theorem dX12_walk_250 : decode cX12_walk 250 = .ok (.iastore, 1) := by decide +kernel
theorem dX12_walk_251 : decode cX12_walk 251 = .ok (.aload_n 0, 1) := by decide +kernel
theorem dX12_walk_252 : decode cX12_walk 252 = .ok (.getfield 65, 3) := by decide +kernel
theorem dX12_walk_255 : decode cX12_walk 255 = .ok (.iload_n 1, 1) := by decide +kernel
theorem dX12_walk_256 : decode cX12_walk 256 = .ok (.iconst 0, 1) := by decide +kernel
theorem dX12_walk_257 : decode cX12_walk 257 = .ok (.iastore, 1) := by decide +kernel
theorem dX12_walk_258 : decode cX12_walk 258 = .ok (.iconst 0, 1) := by decide +kernel
theorem dX12_walk_259 : decode cX12_walk 259 = .ok (.istore 5, 2) := by decide +kernel
theorem dX12_walk_261 : decode cX12_walk 261 = .ok (.iload 5, 2) := by decide +kernel
theorem dX12_walk_263 : decode cX12_walk 263 = .ok (.aload_n 0, 1) := by decide +kernel
theorem dX12_walk_264 : decode cX12_walk 264 = .ok (.getfield 149, 3) := by decide +kernel
theorem dX12_walk_267 : decode cX12_walk 267 = .ok (.if_icmp .ge 139, 3) := by decide +kernel
theorem dX12_walk_270 : decode cX12_walk 270 = .ok (.aload_n 0, 1) := by decide +kernel
theorem dX12_walk_271 : decode cX12_walk 271 = .ok (.getfield 59, 3) := by decide +kernel
theorem dX12_walk_274 : decode cX12_walk 274 = .ok (.iload 5, 2) := by decide +kernel
theorem dX12_walk_276 : decode cX12_walk 276 = .ok (.iaload, 1) := by decide +kernel
theorem dX12_walk_277 : decode cX12_walk 277 = .ok (.istore 6, 2) := by decide +kernel
theorem dX12_walk_279 : decode cX12_walk 279 = .ok (.aload_n 0, 1) := by decide +kernel
theorem dX12_walk_280 : decode cX12_walk 280 = .ok (.getfield 68, 3) := by decide +kernel
theorem dX12_walk_283 : decode cX12_walk 283 = .ok (.iload 6, 2) := by decide +kernel
theorem dX12_walk_285 : decode cX12_walk 285 = .ok (.iaload, 1) := by decide +kernel
theorem dX12_walk_286 : decode cX12_walk 286 = .ok (.istore 7, 2) := by decide +kernel
theorem dX12_walk_288 : decode cX12_walk 288 = .ok (.iload 7, 2) := by decide +kernel
theorem dX12_walk_290 : decode cX12_walk 290 = .ok (.iconst (-1), 1) := by decide +kernel
theorem dX12_walk_291 : decode cX12_walk 291 = .ok (.if_icmp .eq 109, 3) := by decide +kernel
theorem dX12_walk_294 : decode cX12_walk 294 = .ok (.iload 7, 2) := by decide +kernel
theorem dX12_walk_296 : decode cX12_walk 296 = .ok (.iconst 2, 1) := by decide +kernel
theorem dX12_walk_297 : decode cX12_walk 297 = .ok (.irem, 1) := by decide +kernel
theorem dX12_walk_298 : decode cX12_walk 298 = .ok (.ifCond .ne 15, 3) := by decide +kernel
theorem dX12_walk_301 : decode cX12_walk 301 = .ok (.aload_n 0, 1) := by decide +kernel
theorem dX12_walk_302 : decode cX12_walk 302 = .ok (.getfield 16, 3) := by decide +kernel
theorem dX12_walk_305 : decode cX12_walk 305 = .ok (.iload 7, 2) := by decide +kernel
theorem dX12_walk_307 : decode cX12_walk 307 = .ok (.iconst 2, 1) := by decide +kernel
theorem dX12_walk_308 : decode cX12_walk 308 = .ok (.idiv, 1) := by decide +kernel
theorem dX12_walk_309 : decode cX12_walk 309 = .ok (.iaload, 1) := by decide +kernel
theorem dX12_walk_310 : decode cX12_walk 310 = .ok (.goto 12, 3) := by decide +kernel
theorem dX12_walk_313 : decode cX12_walk 313 = .ok (.aload_n 0, 1) := by decide +kernel
theorem dX12_walk_314 : decode cX12_walk 314 = .ok (.getfield 13, 3) := by decide +kernel
theorem dX12_walk_317 : decode cX12_walk 317 = .ok (.iload 7, 2) := by decide +kernel
theorem dX12_walk_319 : decode cX12_walk 319 = .ok (.iconst 2, 1) := by decide +kernel
theorem dX12_walk_320 : decode cX12_walk 320 = .ok (.idiv, 1) := by decide +kernel
theorem dX12_walk_321 : decode cX12_walk 321 = .ok (.iaload, 1) := by decide +kernel
theorem dX12_walk_322 : decode cX12_walk 322 = .ok (.istore 8, 2) := by decide +kernel
theorem dX12_walk_324 : decode cX12_walk 324 = .ok (.aload_n 0, 1) := by decide +kernel
theorem dX12_walk_325 : decode cX12_walk 325 = .ok (.getfield 56, 3) := by decide +kernel
theorem dX12_walk_328 : decode cX12_walk 328 = .ok (.iload 8, 2) := by decide +kernel
theorem dX12_walk_330 : decode cX12_walk 330 = .ok (.baload, 1) := by decide +kernel
theorem dX12_walk_331 : decode cX12_walk 331 = .ok (.ifCond .ne 57, 3) := by decide +kernel
theorem dX12_walk_334 : decode cX12_walk 334 = .ok (.aload_n 0, 1) := by decide +kernel
theorem dX12_walk_335 : decode cX12_walk 335 = .ok (.getfield 56, 3) := by decide +kernel
theorem dX12_walk_338 : decode cX12_walk 338 = .ok (.iload 8, 2) := by decide +kernel
theorem dX12_walk_340 : decode cX12_walk 340 = .ok (.iconst 1, 1) := by decide +kernel
theorem dX12_walk_341 : decode cX12_walk 341 = .ok (.bastore, 1) := by decide +kernel
theorem dX12_walk_342 : decode cX12_walk 342 = .ok (.aload_n 0, 1) := by decide +kernel
theorem dX12_walk_343 : decode cX12_walk 343 = .ok (.getfield 62, 3) := by decide +kernel
theorem dX12_walk_346 : decode cX12_walk 346 = .ok (.iload 8, 2) := by decide +kernel
theorem dX12_walk_348 : decode cX12_walk 348 = .ok (.iload 7, 2) := by decide +kernel
theorem dX12_walk_350 : decode cX12_walk 350 = .ok (.iastore, 1) := by decide +kernel
theorem dX12_walk_351 : decode cX12_walk 351 = .ok (.aload_n 0, 1) := by decide +kernel
theorem dX12_walk_352 : decode cX12_walk 352 = .ok (.getfield 65, 3) := by decide +kernel
theorem dX12_walk_355 : decode cX12_walk 355 = .ok (.iload 8, 2) := by decide +kernel
theorem dX12_walk_357 : decode cX12_walk 357 = .ok (.aload_n 0, 1) := by decide +kernel
theorem dX12_walk_358 : decode cX12_walk 358 = .ok (.getfield 65, 3) := by decide +kernel
theorem dX12_walk_361 : decode cX12_walk 361 = .ok (.iload 6, 2) := by decide +kernel
theorem dX12_walk_363 : decode cX12_walk 363 = .ok (.iaload, 1) := by decide +kernel
theorem dX12_walk_364 : decode cX12_walk 364 = .ok (.iconst 1, 1) := by decide +kernel
theorem dX12_walk_365 : decode cX12_walk 365 = .ok (.iadd, 1) := by decide +kernel
theorem dX12_walk_366 : decode cX12_walk 366 = .ok (.iastore, 1) := by decide +kernel
theorem dX12_walk_367 : decode cX12_walk 367 = .ok (.aload_n 0, 1) := by decide +kernel
theorem dX12_walk_368 : decode cX12_walk 368 = .ok (.getfield 59, 3) := by decide +kernel
theorem dX12_walk_371 : decode cX12_walk 371 = .ok (.aload_n 0, 1) := by decide +kernel
theorem dX12_walk_372 : decode cX12_walk 372 = .ok (.getfield 149, 3) := by decide +kernel
theorem dX12_walk_375 : decode cX12_walk 375 = .ok (.iload 8, 2) := by decide +kernel
theorem dX12_walk_377 : decode cX12_walk 377 = .ok (.iastore, 1) := by decide +kernel
theorem dX12_walk_378 : decode cX12_walk 378 = .ok (.aload_n 0, 1) := by decide +kernel
theorem dX12_walk_379 : decode cX12_walk 379 = .ok (.dup, 1) := by decide +kernel
theorem dX12_walk_380 : decode cX12_walk 380 = .ok (.getfield 149, 3) := by decide +kernel
theorem dX12_walk_383 : decode cX12_walk 383 = .ok (.iconst 1, 1) := by decide +kernel
theorem dX12_walk_384 : decode cX12_walk 384 = .ok (.iadd, 1) := by decide +kernel
theorem dX12_walk_385 : decode cX12_walk 385 = .ok (.putfield 149, 3) := by decide +kernel
theorem dX12_walk_388 : decode cX12_walk 388 = .ok (.aload_n 0, 1) := by decide +kernel
theorem dX12_walk_389 : decode cX12_walk 389 = .ok (.getfield 71, 3) := by decide +kernel
theorem dX12_walk_392 : decode cX12_walk 392 = .ok (.iload 7, 2) := by decide +kernel
theorem dX12_walk_394 : decode cX12_walk 394 = .ok (.iaload, 1) := by decide +kernel
theorem dX12_walk_395 : decode cX12_walk 395 = .ok (.istore 7, 2) := by decide +kernel
theorem dX12_walk_397 : decode cX12_walk 397 = .ok (.goto (-109), 3) := by decide +kernel
theorem dX12_walk_400 : decode cX12_walk 400 = .ok (.iinc 5 1, 3) := by decide +kernel
theorem dX12_walk_403 : decode cX12_walk 403 = .ok (.goto (-142), 3) := by decide +kernel
theorem dX12_walk_406 : decode cX12_walk 406 = .ok (.return_, 1) := by decide +kernel
theorem dX12_leastMet_0 : decode cX12_leastMet 0 = .ok (.sipush 300, 3) := by decide +kernel
theorem dX12_leastMet_3 : decode cX12_leastMet 3 = .ok (.istore_n 1, 1) := by decide +kernel
theorem dX12_leastMet_4 : decode cX12_leastMet 4 = .ok (.iconst 0, 1) := by decide +kernel
theorem dX12_leastMet_5 : decode cX12_leastMet 5 = .ok (.istore_n 2, 1) := by decide +kernel
theorem dX12_leastMet_6 : decode cX12_leastMet 6 = .ok (.iload_n 2, 1) := by decide +kernel
theorem dX12_leastMet_7 : decode cX12_leastMet 7 = .ok (.aload_n 0, 1) := by decide +kernel
theorem dX12_leastMet_8 : decode cX12_leastMet 8 = .ok (.getfield 149, 3) := by decide +kernel
theorem dX12_leastMet_11 : decode cX12_leastMet 11 = .ok (.if_icmp .ge 30, 3) := by decide +kernel
theorem dX12_leastMet_14 : decode cX12_leastMet 14 = .ok (.aload_n 0, 1) := by decide +kernel
theorem dX12_leastMet_15 : decode cX12_leastMet 15 = .ok (.getfield 59, 3) := by decide +kernel
theorem dX12_leastMet_18 : decode cX12_leastMet 18 = .ok (.iload_n 2, 1) := by decide +kernel
theorem dX12_leastMet_19 : decode cX12_leastMet 19 = .ok (.iaload, 1) := by decide +kernel
theorem dX12_leastMet_20 : decode cX12_leastMet 20 = .ok (.iload_n 1, 1) := by decide +kernel
theorem dX12_leastMet_21 : decode cX12_leastMet 21 = .ok (.if_icmp .ge 12, 3) := by decide +kernel
theorem dX12_leastMet_24 : decode cX12_leastMet 24 = .ok (.aload_n 0, 1) := by decide +kernel
theorem dX12_leastMet_25 : decode cX12_leastMet 25 = .ok (.getfield 59, 3) := by decide +kernel
theorem dX12_leastMet_28 : decode cX12_leastMet 28 = .ok (.iload_n 2, 1) := by decide +kernel
theorem dX12_leastMet_29 : decode cX12_leastMet 29 = .ok (.iaload, 1) := by decide +kernel
theorem dX12_leastMet_30 : decode cX12_leastMet 30 = .ok (.goto 4, 3) := by decide +kernel
theorem dX12_leastMet_33 : decode cX12_leastMet 33 = .ok (.iload_n 1, 1) := by decide +kernel
theorem dX12_leastMet_34 : decode cX12_leastMet 34 = .ok (.istore_n 1, 1) := by decide +kernel
theorem dX12_leastMet_35 : decode cX12_leastMet 35 = .ok (.iinc 2 1, 3) := by decide +kernel
theorem dX12_leastMet_38 : decode cX12_leastMet 38 = .ok (.goto (-32), 3) := by decide +kernel
theorem dX12_leastMet_41 : decode cX12_leastMet 41 = .ok (.iload_n 1, 1) := by decide +kernel
theorem dX12_leastMet_42 : decode cX12_leastMet 42 = .ok (.ireturn, 1) := by decide +kernel
theorem dX12_partOf_0 : decode cX12_partOf 0 = .ok (.aload_n 0, 1) := by decide +kernel
theorem dX12_partOf_1 : decode cX12_partOf 1 = .ok (.iload_n 1, 1) := by decide +kernel
theorem dX12_partOf_2 : decode cX12_partOf 2 = .ok (.iconst 1, 1) := by decide +kernel
theorem dX12_partOf_3 : decode cX12_partOf 3 = .ok (.iconst 0, 1) := by decide +kernel
theorem dX12_partOf_4 : decode cX12_partOf 4 = .ok (.iconst (-1), 1) := by decide +kernel
theorem dX12_partOf_5 : decode cX12_partOf 5 = .ok (.invokevirtual 152, 3) := by decide +kernel
theorem dX12_partOf_8 : decode cX12_partOf 8 = .ok (.aload_n 0, 1) := by decide +kernel
theorem dX12_partOf_9 : decode cX12_partOf 9 = .ok (.invokevirtual 156, 3) := by decide +kernel
theorem dX12_partOf_12 : decode cX12_partOf 12 = .ok (.ireturn, 1) := by decide +kernel
theorem dX12_partsNow_0 : decode cX12_partsNow 0 = .ok (.iconst 0, 1) := by decide +kernel
theorem dX12_partsNow_1 : decode cX12_partsNow 1 = .ok (.istore_n 1, 1) := by decide +kernel
theorem dX12_partsNow_2 : decode cX12_partsNow 2 = .ok (.iconst 0, 1) := by decide +kernel
theorem dX12_partsNow_3 : decode cX12_partsNow 3 = .ok (.istore_n 2, 1) := by decide +kernel
theorem dX12_partsNow_4 : decode cX12_partsNow 4 = .ok (.iload_n 2, 1) := by decide +kernel
theorem dX12_partsNow_5 : decode cX12_partsNow 5 = .ok (.aload_n 0, 1) := by decide +kernel
theorem dX12_partsNow_6 : decode cX12_partsNow 6 = .ok (.getfield 140, 3) := by decide +kernel
theorem dX12_partsNow_9 : decode cX12_partsNow 9 = .ok (.if_icmp .ge 26, 3) := by decide +kernel
theorem dX12_partsNow_12 : decode cX12_partsNow 12 = .ok (.iload_n 1, 1) := by decide +kernel
theorem dX12_partsNow_13 : decode cX12_partsNow 13 = .ok (.aload_n 0, 1) := by decide +kernel
theorem dX12_partsNow_14 : decode cX12_partsNow 14 = .ok (.iload_n 2, 1) := by decide +kernel
theorem dX12_partsNow_15 : decode cX12_partsNow 15 = .ok (.invokevirtual 160, 3) := by decide +kernel
theorem dX12_partsNow_18 : decode cX12_partsNow 18 = .ok (.iload_n 2, 1) := by decide +kernel
theorem dX12_partsNow_19 : decode cX12_partsNow 19 = .ok (.if_icmp .ne 7, 3) := by decide +kernel
theorem dX12_partsNow_22 : decode cX12_partsNow 22 = .ok (.iconst 1, 1) := by decide +kernel
theorem dX12_partsNow_23 : decode cX12_partsNow 23 = .ok (.goto 4, 3) := by decide +kernel
theorem dX12_partsNow_26 : decode cX12_partsNow 26 = .ok (.iconst 0, 1) := by decide +kernel
theorem dX12_partsNow_27 : decode cX12_partsNow 27 = .ok (.iadd, 1) := by decide +kernel
theorem dX12_partsNow_28 : decode cX12_partsNow 28 = .ok (.istore_n 1, 1) := by decide +kernel
theorem dX12_partsNow_29 : decode cX12_partsNow 29 = .ok (.iinc 2 1, 3) := by decide +kernel
theorem dX12_partsNow_32 : decode cX12_partsNow 32 = .ok (.goto (-28), 3) := by decide +kernel
theorem dX12_partsNow_35 : decode cX12_partsNow 35 = .ok (.iload_n 1, 1) := by decide +kernel
theorem dX12_partsNow_36 : decode cX12_partsNow 36 = .ok (.ireturn, 1) := by decide +kernel
theorem dX12_node_0 : decode cX12_node 0 = .ok (.aload_n 0, 1) := by decide +kernel
theorem dX12_node_1 : decode cX12_node 1 = .ok (.iconst 0, 1) := by decide +kernel
theorem dX12_node_2 : decode cX12_node 2 = .ok (.putfield 136, 3) := by decide +kernel
theorem dX12_node_5 : decode cX12_node 5 = .ok (.aload_n 0, 1) := by decide +kernel
theorem dX12_node_6 : decode cX12_node 6 = .ok (.getfield 140, 3) := by decide +kernel
theorem dX12_node_9 : decode cX12_node 9 = .ok (.sipush 300, 3) := by decide +kernel
theorem dX12_node_12 : decode cX12_node 12 = .ok (.if_icmp .ne 9, 3) := by decide +kernel
theorem dX12_node_15 : decode cX12_node 15 = .ok (.aload_n 0, 1) := by decide +kernel
theorem dX12_node_16 : decode cX12_node 16 = .ok (.iconst 1, 1) := by decide +kernel
theorem dX12_node_17 : decode cX12_node 17 = .ok (.invokevirtual 164, 3) := by decide +kernel
theorem dX12_node_20 : decode cX12_node 20 = .ok (.ireturn, 1) := by decide +kernel
theorem dX12_node_21 : decode cX12_node 21 = .ok (.aload_n 0, 1) := by decide +kernel
theorem dX12_node_22 : decode cX12_node 22 = .ok (.iconst 0, 1) := by decide +kernel
theorem dX12_node_23 : decode cX12_node 23 = .ok (.putfield 167, 3) := by decide +kernel
theorem dX12_node_26 : decode cX12_node 26 = .ok (.aload_n 0, 1) := by decide +kernel
theorem dX12_node_27 : decode cX12_node 27 = .ok (.iload_n 1, 1) := by decide +kernel
theorem dX12_node_28 : decode cX12_node 28 = .ok (.invokevirtual 170, 3) := by decide +kernel
theorem dX12_node_31 : decode cX12_node 31 = .ok (.ireturn, 1) := by decide +kernel
theorem dX12_one_0 : decode cX12_one 0 = .ok (.aload_n 0, 1) := by decide +kernel
theorem dX12_one_1 : decode cX12_one 1 = .ok (.getfield 7, 3) := by decide +kernel
theorem dX12_one_4 : decode cX12_one 4 = .ok (.aload_n 0, 1) := by decide +kernel
theorem dX12_one_5 : decode cX12_one 5 = .ok (.getfield 140, 3) := by decide +kernel
theorem dX12_one_8 : decode cX12_one 8 = .ok (.iload_n 1, 1) := by decide +kernel
theorem dX12_one_9 : decode cX12_one 9 = .ok (.iastore, 1) := by decide +kernel
theorem dX12_one_10 : decode cX12_one 10 = .ok (.aload_n 0, 1) := by decide +kernel
theorem dX12_one_11 : decode cX12_one 11 = .ok (.getfield 35, 3) := by decide +kernel
theorem dX12_one_14 : decode cX12_one 14 = .ok (.aload_n 0, 1) := by decide +kernel
theorem dX12_one_15 : decode cX12_one 15 = .ok (.getfield 140, 3) := by decide +kernel
theorem dX12_one_18 : decode cX12_one 18 = .ok (.aload_n 0, 1) := by decide +kernel
theorem dX12_one_19 : decode cX12_one 19 = .ok (.getfield 140, 3) := by decide +kernel
theorem dX12_one_22 : decode cX12_one 22 = .ok (.iastore, 1) := by decide +kernel
theorem dX12_one_23 : decode cX12_one 23 = .ok (.aload_n 0, 1) := by decide +kernel
theorem dX12_one_24 : decode cX12_one 24 = .ok (.getfield 38, 3) := by decide +kernel
theorem dX12_one_27 : decode cX12_one 27 = .ok (.aload_n 0, 1) := by decide +kernel
theorem dX12_one_28 : decode cX12_one 28 = .ok (.getfield 140, 3) := by decide +kernel
theorem dX12_one_31 : decode cX12_one 31 = .ok (.aload_n 0, 1) := by decide +kernel
theorem dX12_one_32 : decode cX12_one 32 = .ok (.getfield 140, 3) := by decide +kernel
theorem dX12_one_35 : decode cX12_one 35 = .ok (.iastore, 1) := by decide +kernel
theorem dX12_one_36 : decode cX12_one 36 = .ok (.aload_n 0, 1) := by decide +kernel
theorem dX12_one_37 : decode cX12_one 37 = .ok (.dup, 1) := by decide +kernel
theorem dX12_one_38 : decode cX12_one 38 = .ok (.getfield 140, 3) := by decide +kernel
theorem dX12_one_41 : decode cX12_one 41 = .ok (.iconst 1, 1) := by decide +kernel
theorem dX12_one_42 : decode cX12_one 42 = .ok (.iadd, 1) := by decide +kernel
theorem dX12_one_43 : decode cX12_one 43 = .ok (.putfield 140, 3) := by decide +kernel
theorem dX12_one_46 : decode cX12_one 46 = .ok (.aload_n 0, 1) := by decide +kernel
theorem dX12_one_47 : decode cX12_one 47 = .ok (.getfield 140, 3) := by decide +kernel
theorem dX12_one_50 : decode cX12_one 50 = .ok (.iconst 1, 1) := by decide +kernel
theorem dX12_one_51 : decode cX12_one 51 = .ok (.isub, 1) := by decide +kernel
theorem dX12_one_52 : decode cX12_one 52 = .ok (.ireturn, 1) := by decide +kernel
theorem dX12_chain_0 : decode cX12_chain 0 = .ok (.aload_n 0, 1) := by decide +kernel
theorem dX12_chain_1 : decode cX12_chain 1 = .ok (.iconst 0, 1) := by decide +kernel
theorem dX12_chain_2 : decode cX12_chain 2 = .ok (.putfield 136, 3) := by decide +kernel
theorem dX12_chain_5 : decode cX12_chain 5 = .ok (.iload_n 1, 1) := by decide +kernel
theorem dX12_chain_6 : decode cX12_chain 6 = .ok (.iconst 1, 1) := by decide +kernel
theorem dX12_chain_7 : decode cX12_chain 7 = .ok (.if_icmp .lt 10, 3) := by decide +kernel
theorem dX12_chain_10 : decode cX12_chain 10 = .ok (.iload_n 1, 1) := by decide +kernel
theorem dX12_chain_11 : decode cX12_chain 11 = .ok (.sipush 300, 3) := by decide +kernel
theorem dX12_chain_14 : decode cX12_chain 14 = .ok (.if_icmp .le 9, 3) := by decide +kernel
theorem dX12_chain_17 : decode cX12_chain 17 = .ok (.aload_n 0, 1) := by decide +kernel
theorem dX12_chain_18 : decode cX12_chain 18 = .ok (.iconst 1, 1) := by decide +kernel
theorem dX12_chain_19 : decode cX12_chain 19 = .ok (.invokevirtual 164, 3) := by decide +kernel
theorem dX12_chain_22 : decode cX12_chain 22 = .ok (.ireturn, 1) := by decide +kernel
theorem dX12_chain_23 : decode cX12_chain 23 = .ok (.aload_n 0, 1) := by decide +kernel
theorem dX12_chain_24 : decode cX12_chain 24 = .ok (.getfield 140, 3) := by decide +kernel
theorem dX12_chain_27 : decode cX12_chain 27 = .ok (.iload_n 1, 1) := by decide +kernel
theorem dX12_chain_28 : decode cX12_chain 28 = .ok (.iadd, 1) := by decide +kernel
theorem dX12_chain_29 : decode cX12_chain 29 = .ok (.sipush 300, 3) := by decide +kernel
theorem dX12_chain_32 : decode cX12_chain 32 = .ok (.if_icmp .gt 31, 3) := by decide +kernel
theorem dX12_chain_35 : decode cX12_chain 35 = .ok (.aload_n 0, 1) := by decide +kernel
theorem dX12_chain_36 : decode cX12_chain 36 = .ok (.getfield 146, 3) := by decide +kernel
theorem dX12_chain_39 : decode cX12_chain 39 = .ok (.iload_n 1, 1) := by decide +kernel
theorem dX12_chain_40 : decode cX12_chain 40 = .ok (.iadd, 1) := by decide +kernel
theorem dX12_chain_41 : decode cX12_chain 41 = .ok (.iconst 1, 1) := by decide +kernel
theorem dX12_chain_42 : decode cX12_chain 42 = .ok (.isub, 1) := by decide +kernel
theorem dX12_chain_43 : decode cX12_chain 43 = .ok (.sipush 900, 3) := by decide +kernel
theorem dX12_chain_46 : decode cX12_chain 46 = .ok (.if_icmp .gt 17, 3) := by decide +kernel
theorem dX12_chain_49 : decode cX12_chain 49 = .ok (.aload_n 0, 1) := by decide +kernel
theorem dX12_chain_50 : decode cX12_chain 50 = .ok (.getfield 143, 3) := by decide +kernel
theorem dX12_chain_53 : decode cX12_chain 53 = .ok (.iload_n 1, 1) := by decide +kernel
theorem dX12_chain_54 : decode cX12_chain 54 = .ok (.iadd, 1) := by decide +kernel
theorem dX12_chain_55 : decode cX12_chain 55 = .ok (.iconst 1, 1) := by decide +kernel
theorem dX12_chain_56 : decode cX12_chain 56 = .ok (.isub, 1) := by decide +kernel
theorem dX12_chain_57 : decode cX12_chain 57 = .ok (.sipush 5000, 3) := by decide +kernel
theorem dX12_chain_60 : decode cX12_chain 60 = .ok (.if_icmp .le 9, 3) := by decide +kernel
theorem dX12_chain_63 : decode cX12_chain 63 = .ok (.aload_n 0, 1) := by decide +kernel
theorem dX12_chain_64 : decode cX12_chain 64 = .ok (.iconst 2, 1) := by decide +kernel
theorem dX12_chain_65 : decode cX12_chain 65 = .ok (.invokevirtual 164, 3) := by decide +kernel
theorem dX12_chain_68 : decode cX12_chain 68 = .ok (.ireturn, 1) := by decide +kernel
theorem dX12_chain_69 : decode cX12_chain 69 = .ok (.aload_n 0, 1) := by decide +kernel
theorem dX12_chain_70 : decode cX12_chain 70 = .ok (.iconst 0, 1) := by decide +kernel
theorem dX12_chain_71 : decode cX12_chain 71 = .ok (.putfield 167, 3) := by decide +kernel
theorem dX12_chain_74 : decode cX12_chain 74 = .ok (.aload_n 0, 1) := by decide +kernel
theorem dX12_chain_75 : decode cX12_chain 75 = .ok (.getfield 140, 3) := by decide +kernel
theorem dX12_chain_78 : decode cX12_chain 78 = .ok (.istore_n 2, 1) := by decide +kernel
theorem dX12_chain_79 : decode cX12_chain 79 = .ok (.iconst 0, 1) := by decide +kernel
theorem dX12_chain_80 : decode cX12_chain 80 = .ok (.istore_n 3, 1) := by decide +kernel
theorem dX12_chain_81 : decode cX12_chain 81 = .ok (.iload_n 3, 1) := by decide +kernel
theorem dX12_chain_82 : decode cX12_chain 82 = .ok (.iload_n 1, 1) := by decide +kernel
theorem dX12_chain_83 : decode cX12_chain 83 = .ok (.if_icmp .ge 15, 3) := by decide +kernel
theorem dX12_chain_86 : decode cX12_chain 86 = .ok (.aload_n 0, 1) := by decide +kernel
theorem dX12_chain_87 : decode cX12_chain 87 = .ok (.iconst 0, 1) := by decide +kernel
theorem dX12_chain_88 : decode cX12_chain 88 = .ok (.invokevirtual 170, 3) := by decide +kernel
theorem dX12_chain_91 : decode cX12_chain 91 = .ok (.pop, 1) := by decide +kernel
theorem dX12_chain_92 : decode cX12_chain 92 = .ok (.iinc 3 1, 3) := by decide +kernel
theorem dX12_chain_95 : decode cX12_chain 95 = .ok (.goto (-14), 3) := by decide +kernel
theorem dX12_chain_98 : decode cX12_chain 98 = .ok (.iconst 0, 1) := by decide +kernel
theorem dX12_chain_99 : decode cX12_chain 99 = .ok (.istore_n 3, 1) := by decide +kernel
theorem dX12_chain_100 : decode cX12_chain 100 = .ok (.iload_n 3, 1) := by decide +kernel
theorem dX12_chain_101 : decode cX12_chain 101 = .ok (.iconst 1, 1) := by decide +kernel
theorem dX12_chain_102 : decode cX12_chain 102 = .ok (.iadd, 1) := by decide +kernel
theorem dX12_chain_103 : decode cX12_chain 103 = .ok (.iload_n 1, 1) := by decide +kernel
theorem dX12_chain_104 : decode cX12_chain 104 = .ok (.if_icmp .ge 22, 3) := by decide +kernel
theorem dX12_chain_107 : decode cX12_chain 107 = .ok (.aload_n 0, 1) := by decide +kernel
theorem dX12_chain_108 : decode cX12_chain 108 = .ok (.iload_n 2, 1) := by decide +kernel
theorem dX12_chain_109 : decode cX12_chain 109 = .ok (.iload_n 3, 1) := by decide +kernel
theorem dX12_chain_110 : decode cX12_chain 110 = .ok (.iadd, 1) := by decide +kernel
theorem dX12_chain_111 : decode cX12_chain 111 = .ok (.iload_n 2, 1) := by decide +kernel
theorem dX12_chain_112 : decode cX12_chain 112 = .ok (.iload_n 3, 1) := by decide +kernel
theorem dX12_chain_113 : decode cX12_chain 113 = .ok (.iadd, 1) := by decide +kernel
theorem dX12_chain_114 : decode cX12_chain 114 = .ok (.iconst 1, 1) := by decide +kernel
theorem dX12_chain_115 : decode cX12_chain 115 = .ok (.iadd, 1) := by decide +kernel
theorem dX12_chain_116 : decode cX12_chain 116 = .ok (.invokevirtual 172, 3) := by decide +kernel
theorem dX12_chain_119 : decode cX12_chain 119 = .ok (.pop, 1) := by decide +kernel
theorem dX12_chain_120 : decode cX12_chain 120 = .ok (.iinc 3 1, 3) := by decide +kernel
theorem dX12_chain_123 : decode cX12_chain 123 = .ok (.goto (-23), 3) := by decide +kernel
theorem dX12_chain_126 : decode cX12_chain 126 = .ok (.iload_n 2, 1) := by decide +kernel
theorem dX12_chain_127 : decode cX12_chain 127 = .ok (.ireturn, 1) := by decide +kernel
theorem dX12_put_0 : decode cX12_put 0 = .ok (.aload_n 0, 1) := by decide +kernel
theorem dX12_put_1 : decode cX12_put 1 = .ok (.iconst 0, 1) := by decide +kernel
theorem dX12_put_2 : decode cX12_put 2 = .ok (.putfield 136, 3) := by decide +kernel
theorem dX12_put_5 : decode cX12_put 5 = .ok (.aload_n 0, 1) := by decide +kernel
theorem dX12_put_6 : decode cX12_put 6 = .ok (.iload_n 1, 1) := by decide +kernel
theorem dX12_put_7 : decode cX12_put 7 = .ok (.invokevirtual 176, 3) := by decide +kernel
theorem dX12_put_10 : decode cX12_put 10 = .ok (.ifCond .eq 11, 3) := by decide +kernel
theorem dX12_put_13 : decode cX12_put 13 = .ok (.aload_n 0, 1) := by decide +kernel
theorem dX12_put_14 : decode cX12_put 14 = .ok (.iload_n 2, 1) := by decide +kernel
theorem dX12_put_15 : decode cX12_put 15 = .ok (.invokevirtual 176, 3) := by decide +kernel
theorem dX12_put_18 : decode cX12_put 18 = .ok (.ifCond .ne 9, 3) := by decide +kernel
theorem dX12_put_21 : decode cX12_put 21 = .ok (.aload_n 0, 1) := by decide +kernel
theorem dX12_put_22 : decode cX12_put 22 = .ok (.iconst 1, 1) := by decide +kernel
theorem dX12_put_23 : decode cX12_put 23 = .ok (.invokevirtual 164, 3) := by decide +kernel
theorem dX12_put_26 : decode cX12_put 26 = .ok (.ireturn, 1) := by decide +kernel
theorem dX12_put_27 : decode cX12_put 27 = .ok (.aload_n 0, 1) := by decide +kernel
theorem dX12_put_28 : decode cX12_put 28 = .ok (.getfield 146, 3) := by decide +kernel
theorem dX12_put_31 : decode cX12_put 31 = .ok (.sipush 900, 3) := by decide +kernel
theorem dX12_put_34 : decode cX12_put 34 = .ok (.if_icmp .eq 13, 3) := by decide +kernel
theorem dX12_put_37 : decode cX12_put 37 = .ok (.aload_n 0, 1) := by decide +kernel
theorem dX12_put_38 : decode cX12_put 38 = .ok (.getfield 143, 3) := by decide +kernel
theorem dX12_put_41 : decode cX12_put 41 = .ok (.sipush 5000, 3) := by decide +kernel
theorem dX12_put_44 : decode cX12_put 44 = .ok (.if_icmp .ne 9, 3) := by decide +kernel
theorem dX12_put_47 : decode cX12_put 47 = .ok (.aload_n 0, 1) := by decide +kernel
theorem dX12_put_48 : decode cX12_put 48 = .ok (.iconst 2, 1) := by decide +kernel
theorem dX12_put_49 : decode cX12_put 49 = .ok (.invokevirtual 164, 3) := by decide +kernel
theorem dX12_put_52 : decode cX12_put 52 = .ok (.ireturn, 1) := by decide +kernel
theorem dX12_put_53 : decode cX12_put 53 = .ok (.iload_n 1, 1) := by decide +kernel
theorem dX12_put_54 : decode cX12_put 54 = .ok (.iload_n 2, 1) := by decide +kernel
theorem dX12_put_55 : decode cX12_put 55 = .ok (.if_icmp .ne 7, 3) := by decide +kernel
theorem dX12_put_58 : decode cX12_put 58 = .ok (.iconst 1, 1) := by decide +kernel
theorem dX12_put_59 : decode cX12_put 59 = .ok (.goto 4, 3) := by decide +kernel
theorem dX12_put_62 : decode cX12_put 62 = .ok (.iconst 0, 1) := by decide +kernel
theorem dX12_put_63 : decode cX12_put 63 = .ok (.istore_n 3, 1) := by decide +kernel
theorem dX12_put_64 : decode cX12_put 64 = .ok (.iload_n 1, 1) := by decide +kernel
theorem dX12_put_65 : decode cX12_put 65 = .ok (.iload_n 2, 1) := by decide +kernel
theorem dX12_put_66 : decode cX12_put 66 = .ok (.if_icmp .eq 18, 3) := by decide +kernel
theorem dX12_put_69 : decode cX12_put 69 = .ok (.aload_n 0, 1) := by decide +kernel
theorem dX12_put_70 : decode cX12_put 70 = .ok (.iload_n 2, 1) := by decide +kernel
theorem dX12_put_71 : decode cX12_put 71 = .ok (.iconst 4, 1) := by decide +kernel
theorem dX12_put_72 : decode cX12_put 72 = .ok (.iconst 0, 1) := by decide +kernel
theorem dX12_put_73 : decode cX12_put 73 = .ok (.iconst (-1), 1) := by decide +kernel
theorem dX12_put_74 : decode cX12_put 74 = .ok (.invokevirtual 152, 3) := by decide +kernel
theorem dX12_put_77 : decode cX12_put 77 = .ok (.aload_n 0, 1) := by decide +kernel
theorem dX12_put_78 : decode cX12_put 78 = .ok (.getfield 56, 3) := by decide +kernel
theorem dX12_put_81 : decode cX12_put 81 = .ok (.iload_n 1, 1) := by decide +kernel
theorem dX12_put_82 : decode cX12_put 82 = .ok (.baload, 1) := by decide +kernel
theorem dX12_put_83 : decode cX12_put 83 = .ok (.istore_n 3, 1) := by decide +kernel
theorem dX12_put_84 : decode cX12_put 84 = .ok (.iload_n 3, 1) := by decide +kernel
theorem dX12_put_85 : decode cX12_put 85 = .ok (.ifCond .eq 18, 3) := by decide +kernel
theorem dX12_put_88 : decode cX12_put 88 = .ok (.aload_n 0, 1) := by decide +kernel
theorem dX12_put_89 : decode cX12_put 89 = .ok (.iload_n 1, 1) := by decide +kernel
theorem dX12_put_90 : decode cX12_put 90 = .ok (.iload_n 2, 1) := by decide +kernel
theorem dX12_put_91 : decode cX12_put 91 = .ok (.invokevirtual 180, 3) := by decide +kernel
theorem dX12_put_94 : decode cX12_put 94 = .ok (.aload_n 0, 1) := by decide +kernel
theorem dX12_put_95 : decode cX12_put 95 = .ok (.getfield 132, 3) := by decide +kernel
theorem dX12_put_98 : decode cX12_put 98 = .ok (.ifCond .eq 5, 3) := by decide +kernel
theorem dX12_put_101 : decode cX12_put 101 = .ok (.iconst (-1), 1) := by decide +kernel
theorem dX12_put_102 : decode cX12_put 102 = .ok (.ireturn, 1) := by decide +kernel
theorem dX12_put_103 : decode cX12_put 103 = .ok (.aload_n 0, 1) := by decide +kernel
theorem dX12_put_104 : decode cX12_put 104 = .ok (.invokevirtual 184, 3) := by decide +kernel
theorem dX12_put_107 : decode cX12_put 107 = .ok (.aload_n 0, 1) := by decide +kernel
theorem dX12_put_108 : decode cX12_put 108 = .ok (.iload_n 1, 1) := by decide +kernel
theorem dX12_put_109 : decode cX12_put 109 = .ok (.iconst 1, 1) := by decide +kernel
theorem dX12_put_110 : decode cX12_put 110 = .ok (.iconst 0, 1) := by decide +kernel
theorem dX12_put_111 : decode cX12_put 111 = .ok (.iconst (-1), 1) := by decide +kernel
theorem dX12_put_112 : decode cX12_put 112 = .ok (.invokevirtual 152, 3) := by decide +kernel
theorem dX12_put_115 : decode cX12_put 115 = .ok (.aload_n 0, 1) := by decide +kernel
theorem dX12_put_116 : decode cX12_put 116 = .ok (.getfield 56, 3) := by decide +kernel
theorem dX12_put_119 : decode cX12_put 119 = .ok (.iload_n 2, 1) := by decide +kernel
theorem dX12_put_120 : decode cX12_put 120 = .ok (.baload, 1) := by decide +kernel
theorem dX12_put_121 : decode cX12_put 121 = .ok (.ifCond .ne 7, 3) := by decide +kernel
theorem dX12_put_124 : decode cX12_put 124 = .ok (.iconst 1, 1) := by decide +kernel
theorem dX12_put_125 : decode cX12_put 125 = .ok (.goto 4, 3) := by decide +kernel
theorem dX12_put_128 : decode cX12_put 128 = .ok (.iconst 0, 1) := by decide +kernel
theorem dX12_put_129 : decode cX12_put 129 = .ok (.istore 4, 2) := by decide +kernel
theorem dX12_put_131 : decode cX12_put 131 = .ok (.aload_n 0, 1) := by decide +kernel
theorem dX12_put_132 : decode cX12_put 132 = .ok (.getfield 143, 3) := by decide +kernel
theorem dX12_put_135 : decode cX12_put 135 = .ok (.istore 5, 2) := by decide +kernel
theorem dX12_put_137 : decode cX12_put 137 = .ok (.aload_n 0, 1) := by decide +kernel
theorem dX12_put_138 : decode cX12_put 138 = .ok (.dup, 1) := by decide +kernel
theorem dX12_put_139 : decode cX12_put 139 = .ok (.getfield 143, 3) := by decide +kernel
theorem dX12_put_142 : decode cX12_put 142 = .ok (.iconst 1, 1) := by decide +kernel
theorem dX12_put_143 : decode cX12_put 143 = .ok (.iadd, 1) := by decide +kernel
theorem dX12_put_144 : decode cX12_put 144 = .ok (.putfield 143, 3) := by decide +kernel
theorem dX12_put_147 : decode cX12_put 147 = .ok (.aload_n 0, 1) := by decide +kernel
theorem dX12_put_148 : decode cX12_put 148 = .ok (.getfield 13, 3) := by decide +kernel
theorem dX12_put_151 : decode cX12_put 151 = .ok (.iload 5, 2) := by decide +kernel
theorem dX12_put_153 : decode cX12_put 153 = .ok (.iload_n 1, 1) := by decide +kernel
theorem dX12_put_154 : decode cX12_put 154 = .ok (.iastore, 1) := by decide +kernel
theorem dX12_put_155 : decode cX12_put 155 = .ok (.aload_n 0, 1) := by decide +kernel
theorem dX12_put_156 : decode cX12_put 156 = .ok (.getfield 16, 3) := by decide +kernel
theorem dX12_put_159 : decode cX12_put 159 = .ok (.iload 5, 2) := by decide +kernel
theorem dX12_put_161 : decode cX12_put 161 = .ok (.iload_n 2, 1) := by decide +kernel
theorem dX12_put_162 : decode cX12_put 162 = .ok (.iastore, 1) := by decide +kernel
theorem dX12_put_163 : decode cX12_put 163 = .ok (.aload_n 0, 1) := by decide +kernel
theorem dX12_put_164 : decode cX12_put 164 = .ok (.getfield 19, 3) := by decide +kernel
theorem dX12_put_167 : decode cX12_put 167 = .ok (.iload 5, 2) := by decide +kernel
theorem dX12_put_169 : decode cX12_put 169 = .ok (.iconst 0, 1) := by decide +kernel
theorem dX12_put_170 : decode cX12_put 170 = .ok (.iastore, 1) := by decide +kernel
theorem dX12_put_171 : decode cX12_put 171 = .ok (.aload_n 0, 1) := by decide +kernel
theorem dX12_put_172 : decode cX12_put 172 = .ok (.getfield 22, 3) := by decide +kernel
theorem dX12_put_175 : decode cX12_put 175 = .ok (.iload 5, 2) := by decide +kernel
theorem dX12_put_177 : decode cX12_put 177 = .ok (.iload 4, 2) := by decide +kernel
theorem dX12_put_179 : decode cX12_put 179 = .ok (.bastore, 1) := by decide +kernel
theorem dX12_put_180 : decode cX12_put 180 = .ok (.aload_n 0, 1) := by decide +kernel
theorem dX12_put_181 : decode cX12_put 181 = .ok (.getfield 26, 3) := by decide +kernel
theorem dX12_put_184 : decode cX12_put 184 = .ok (.iload 5, 2) := by decide +kernel
theorem dX12_put_186 : decode cX12_put 186 = .ok (.iconst 1, 1) := by decide +kernel
theorem dX12_put_187 : decode cX12_put 187 = .ok (.bastore, 1) := by decide +kernel
theorem dX12_put_188 : decode cX12_put 188 = .ok (.aload_n 0, 1) := by decide +kernel
theorem dX12_put_189 : decode cX12_put 189 = .ok (.getfield 29, 3) := by decide +kernel
theorem dX12_put_192 : decode cX12_put 192 = .ok (.iload 5, 2) := by decide +kernel
theorem dX12_put_194 : decode cX12_put 194 = .ok (.iconst 1, 1) := by decide +kernel
theorem dX12_put_195 : decode cX12_put 195 = .ok (.bastore, 1) := by decide +kernel
theorem dX12_put_196 : decode cX12_put 196 = .ok (.aload_n 0, 1) := by decide +kernel
theorem dX12_put_197 : decode cX12_put 197 = .ok (.getfield 32, 3) := by decide +kernel
theorem dX12_put_200 : decode cX12_put 200 = .ok (.aload_n 0, 1) := by decide +kernel
theorem dX12_put_201 : decode cX12_put 201 = .ok (.getfield 146, 3) := by decide +kernel
theorem dX12_put_204 : decode cX12_put 204 = .ok (.iload 5, 2) := by decide +kernel
theorem dX12_put_206 : decode cX12_put 206 = .ok (.iastore, 1) := by decide +kernel
theorem dX12_put_207 : decode cX12_put 207 = .ok (.aload_n 0, 1) := by decide +kernel
theorem dX12_put_208 : decode cX12_put 208 = .ok (.dup, 1) := by decide +kernel
theorem dX12_put_209 : decode cX12_put 209 = .ok (.getfield 146, 3) := by decide +kernel
theorem dX12_put_212 : decode cX12_put 212 = .ok (.iconst 1, 1) := by decide +kernel
theorem dX12_put_213 : decode cX12_put 213 = .ok (.iadd, 1) := by decide +kernel
theorem dX12_put_214 : decode cX12_put 214 = .ok (.putfield 146, 3) := by decide +kernel
theorem dX12_put_217 : decode cX12_put 217 = .ok (.iload_n 3, 1) := by decide +kernel
theorem dX12_put_218 : decode cX12_put 218 = .ok (.ifCond .ne 9, 3) := by decide +kernel
theorem dX12_put_221 : decode cX12_put 221 = .ok (.aload_n 0, 1) := by decide +kernel
theorem dX12_put_222 : decode cX12_put 222 = .ok (.iload 5, 2) := by decide +kernel
theorem dX12_put_224 : decode cX12_put 224 = .ok (.invokevirtual 187, 3) := by decide +kernel
theorem dX12_put_227 : decode cX12_put 227 = .ok (.aload_n 0, 1) := by decide +kernel
theorem dX12_put_228 : decode cX12_put 228 = .ok (.iconst 0, 1) := by decide +kernel
theorem dX12_put_229 : decode cX12_put 229 = .ok (.putfield 167, 3) := by decide +kernel
theorem dX12_put_232 : decode cX12_put 232 = .ok (.aload_n 0, 1) := by decide +kernel
theorem dX12_put_233 : decode cX12_put 233 = .ok (.aload_n 0, 1) := by decide +kernel
theorem dX12_put_234 : decode cX12_put 234 = .ok (.invokevirtual 191, 3) := by decide +kernel
theorem dX12_put_237 : decode cX12_put 237 = .ok (.putfield 194, 3) := by decide +kernel
theorem dX12_put_240 : decode cX12_put 240 = .ok (.iload 5, 2) := by decide +kernel
theorem dX12_put_242 : decode cX12_put 242 = .ok (.ireturn, 1) := by decide +kernel
theorem dX12_tellRing_0 : decode cX12_tellRing 0 = .ok (.aload_n 0, 1) := by decide +kernel
theorem dX12_tellRing_1 : decode cX12_tellRing 1 = .ok (.iconst 0, 1) := by decide +kernel
theorem dX12_tellRing_2 : decode cX12_tellRing 2 = .ok (.putfield 197, 3) := by decide +kernel
theorem dX12_tellRing_5 : decode cX12_tellRing 5 = .ok (.iload_n 1, 1) := by decide +kernel
theorem dX12_tellRing_6 : decode cX12_tellRing 6 = .ok (.iload_n 2, 1) := by decide +kernel
theorem dX12_tellRing_7 : decode cX12_tellRing 7 = .ok (.if_icmp .ne 4, 3) := by decide +kernel
theorem dX12_tellRing_10 : decode cX12_tellRing 10 = .ok (.return_, 1) := by decide +kernel
theorem dX12_tellRing_11 : decode cX12_tellRing 11 = .ok (.aload_n 0, 1) := by decide +kernel
theorem dX12_tellRing_12 : decode cX12_tellRing 12 = .ok (.iload_n 1, 1) := by decide +kernel
theorem dX12_tellRing_13 : decode cX12_tellRing 13 = .ok (.iconst 5, 1) := by decide +kernel
theorem dX12_tellRing_14 : decode cX12_tellRing 14 = .ok (.iconst 0, 1) := by decide +kernel
theorem dX12_tellRing_15 : decode cX12_tellRing 15 = .ok (.iconst (-1), 1) := by decide +kernel
theorem dX12_tellRing_16 : decode cX12_tellRing 16 = .ok (.invokevirtual 152, 3) := by decide +kernel
theorem dX12_tellRing_19 : decode cX12_tellRing 19 = .ok (.iload_n 2, 1) := by decide +kernel
theorem dX12_tellRing_20 : decode cX12_tellRing 20 = .ok (.istore_n 3, 1) := by decide +kernel
theorem dX12_tellRing_21 : decode cX12_tellRing 21 = .ok (.iload_n 3, 1) := by decide +kernel
theorem dX12_tellRing_22 : decode cX12_tellRing 22 = .ok (.iload_n 1, 1) := by decide +kernel
theorem dX12_tellRing_23 : decode cX12_tellRing 23 = .ok (.if_icmp .eq 138, 3) := by decide +kernel
theorem dX12_tellRing_26 : decode cX12_tellRing 26 = .ok (.iconst (-1), 1) := by decide +kernel
theorem dX12_tellRing_27 : decode cX12_tellRing 27 = .ok (.istore 4, 2) := by decide +kernel
theorem dX12_tellRing_29 : decode cX12_tellRing 29 = .ok (.iconst 0, 1) := by decide +kernel
theorem dX12_tellRing_30 : decode cX12_tellRing 30 = .ok (.istore 5, 2) := by decide +kernel
theorem dX12_tellRing_32 : decode cX12_tellRing 32 = .ok (.iload 5, 2) := by decide +kernel
theorem dX12_tellRing_34 : decode cX12_tellRing 34 = .ok (.aload_n 0, 1) := by decide +kernel
theorem dX12_tellRing_35 : decode cX12_tellRing 35 = .ok (.getfield 146, 3) := by decide +kernel
theorem dX12_tellRing_38 : decode cX12_tellRing 38 = .ok (.if_icmp .ge 91, 3) := by decide +kernel
theorem dX12_tellRing_41 : decode cX12_tellRing 41 = .ok (.iload 4, 2) := by decide +kernel
theorem dX12_tellRing_43 : decode cX12_tellRing 43 = .ok (.iconst (-1), 1) := by decide +kernel
theorem dX12_tellRing_44 : decode cX12_tellRing 44 = .ok (.if_icmp .ne 85, 3) := by decide +kernel
theorem dX12_tellRing_47 : decode cX12_tellRing 47 = .ok (.aload_n 0, 1) := by decide +kernel
theorem dX12_tellRing_48 : decode cX12_tellRing 48 = .ok (.getfield 32, 3) := by decide +kernel
theorem dX12_tellRing_51 : decode cX12_tellRing 51 = .ok (.iload 5, 2) := by decide +kernel
theorem dX12_tellRing_53 : decode cX12_tellRing 53 = .ok (.iaload, 1) := by decide +kernel
theorem dX12_tellRing_54 : decode cX12_tellRing 54 = .ok (.istore 6, 2) := by decide +kernel
theorem dX12_tellRing_56 : decode cX12_tellRing 56 = .ok (.aload_n 0, 1) := by decide +kernel
theorem dX12_tellRing_57 : decode cX12_tellRing 57 = .ok (.getfield 26, 3) := by decide +kernel
theorem dX12_tellRing_60 : decode cX12_tellRing 60 = .ok (.iload 6, 2) := by decide +kernel
theorem dX12_tellRing_62 : decode cX12_tellRing 62 = .ok (.baload, 1) := by decide +kernel
theorem dX12_tellRing_63 : decode cX12_tellRing 63 = .ok (.ifCond .ne 57, 3) := by decide +kernel
theorem dX12_tellRing_66 : decode cX12_tellRing 66 = .ok (.aload_n 0, 1) := by decide +kernel
theorem dX12_tellRing_67 : decode cX12_tellRing 67 = .ok (.getfield 13, 3) := by decide +kernel
theorem dX12_tellRing_70 : decode cX12_tellRing 70 = .ok (.iload 6, 2) := by decide +kernel
theorem dX12_tellRing_72 : decode cX12_tellRing 72 = .ok (.iaload, 1) := by decide +kernel
theorem dX12_tellRing_73 : decode cX12_tellRing 73 = .ok (.iload_n 3, 1) := by decide +kernel
theorem dX12_tellRing_74 : decode cX12_tellRing 74 = .ok (.if_icmp .ne 46, 3) := by decide +kernel
theorem dX12_tellRing_77 : decode cX12_tellRing 77 = .ok (.aload_n 0, 1) := by decide +kernel
theorem dX12_tellRing_78 : decode cX12_tellRing 78 = .ok (.getfield 56, 3) := by decide +kernel
theorem dX12_tellRing_81 : decode cX12_tellRing 81 = .ok (.aload_n 0, 1) := by decide +kernel
theorem dX12_tellRing_82 : decode cX12_tellRing 82 = .ok (.getfield 16, 3) := by decide +kernel
theorem dX12_tellRing_85 : decode cX12_tellRing 85 = .ok (.iload 6, 2) := by decide +kernel
theorem dX12_tellRing_87 : decode cX12_tellRing 87 = .ok (.iaload, 1) := by decide +kernel
theorem dX12_tellRing_88 : decode cX12_tellRing 88 = .ok (.baload, 1) := by decide +kernel
theorem dX12_tellRing_89 : decode cX12_tellRing 89 = .ok (.ifCond .eq 31, 3) := by decide +kernel
theorem dX12_tellRing_92 : decode cX12_tellRing 92 = .ok (.aload_n 0, 1) := by decide +kernel
theorem dX12_tellRing_93 : decode cX12_tellRing 93 = .ok (.getfield 65, 3) := by decide +kernel
theorem dX12_tellRing_96 : decode cX12_tellRing 96 = .ok (.aload_n 0, 1) := by decide +kernel
theorem dX12_tellRing_97 : decode cX12_tellRing 97 = .ok (.getfield 16, 3) := by decide +kernel
theorem dX12_tellRing_100 : decode cX12_tellRing 100 = .ok (.iload 6, 2) := by decide +kernel
theorem dX12_tellRing_102 : decode cX12_tellRing 102 = .ok (.iaload, 1) := by decide +kernel
theorem dX12_tellRing_103 : decode cX12_tellRing 103 = .ok (.iaload, 1) := by decide +kernel
theorem dX12_tellRing_104 : decode cX12_tellRing 104 = .ok (.aload_n 0, 1) := by decide +kernel
theorem dX12_tellRing_105 : decode cX12_tellRing 105 = .ok (.getfield 65, 3) := by decide +kernel
theorem dX12_tellRing_108 : decode cX12_tellRing 108 = .ok (.iload_n 3, 1) := by decide +kernel
theorem dX12_tellRing_109 : decode cX12_tellRing 109 = .ok (.iaload, 1) := by decide +kernel
theorem dX12_tellRing_110 : decode cX12_tellRing 110 = .ok (.iconst 1, 1) := by decide +kernel
theorem dX12_tellRing_111 : decode cX12_tellRing 111 = .ok (.isub, 1) := by decide +kernel
theorem dX12_tellRing_112 : decode cX12_tellRing 112 = .ok (.if_icmp .ne 8, 3) := by decide +kernel
theorem dX12_tellRing_115 : decode cX12_tellRing 115 = .ok (.iload 6, 2) := by decide +kernel
theorem dX12_tellRing_117 : decode cX12_tellRing 117 = .ok (.goto 4, 3) := by decide +kernel
theorem dX12_tellRing_120 : decode cX12_tellRing 120 = .ok (.iconst (-1), 1) := by decide +kernel
theorem dX12_tellRing_121 : decode cX12_tellRing 121 = .ok (.istore 4, 2) := by decide +kernel
theorem dX12_tellRing_123 : decode cX12_tellRing 123 = .ok (.iinc 5 1, 3) := by decide +kernel
theorem dX12_tellRing_126 : decode cX12_tellRing 126 = .ok (.goto (-94), 3) := by decide +kernel
theorem dX12_tellRing_129 : decode cX12_tellRing 129 = .ok (.aload_n 0, 1) := by decide +kernel
theorem dX12_tellRing_130 : decode cX12_tellRing 130 = .ok (.getfield 41, 3) := by decide +kernel
theorem dX12_tellRing_133 : decode cX12_tellRing 133 = .ok (.aload_n 0, 1) := by decide +kernel
theorem dX12_tellRing_134 : decode cX12_tellRing 134 = .ok (.getfield 197, 3) := by decide +kernel
theorem dX12_tellRing_137 : decode cX12_tellRing 137 = .ok (.iload 4, 2) := by decide +kernel
theorem dX12_tellRing_139 : decode cX12_tellRing 139 = .ok (.iastore, 1) := by decide +kernel
theorem dX12_tellRing_140 : decode cX12_tellRing 140 = .ok (.aload_n 0, 1) := by decide +kernel
theorem dX12_tellRing_141 : decode cX12_tellRing 141 = .ok (.dup, 1) := by decide +kernel
theorem dX12_tellRing_142 : decode cX12_tellRing 142 = .ok (.getfield 197, 3) := by decide +kernel
theorem dX12_tellRing_145 : decode cX12_tellRing 145 = .ok (.iconst 1, 1) := by decide +kernel
theorem dX12_tellRing_146 : decode cX12_tellRing 146 = .ok (.iadd, 1) := by decide +kernel
theorem dX12_tellRing_147 : decode cX12_tellRing 147 = .ok (.putfield 197, 3) := by decide +kernel
theorem dX12_tellRing_150 : decode cX12_tellRing 150 = .ok (.aload_n 0, 1) := by decide +kernel
theorem dX12_tellRing_151 : decode cX12_tellRing 151 = .ok (.getfield 16, 3) := by decide +kernel
theorem dX12_tellRing_154 : decode cX12_tellRing 154 = .ok (.iload 4, 2) := by decide +kernel
theorem dX12_tellRing_156 : decode cX12_tellRing 156 = .ok (.iaload, 1) := by decide +kernel
theorem dX12_tellRing_157 : decode cX12_tellRing 157 = .ok (.istore_n 3, 1) := by decide +kernel
theorem dX12_tellRing_158 : decode cX12_tellRing 158 = .ok (.goto (-137), 3) := by decide +kernel
theorem dX12_tellRing_161 : decode cX12_tellRing 161 = .ok (.return_, 1) := by decide +kernel
theorem dX12_becomeOrdered_0 : decode cX12_becomeOrdered 0 = .ok (.aload_n 0, 1) := by decide +kernel
theorem dX12_becomeOrdered_1 : decode cX12_becomeOrdered 1 = .ok (.getfield 13, 3) := by decide +kernel
theorem dX12_becomeOrdered_4 : decode cX12_becomeOrdered 4 = .ok (.iload_n 1, 1) := by decide +kernel
theorem dX12_becomeOrdered_5 : decode cX12_becomeOrdered 5 = .ok (.iaload, 1) := by decide +kernel
theorem dX12_becomeOrdered_6 : decode cX12_becomeOrdered 6 = .ok (.istore_n 2, 1) := by decide +kernel
theorem dX12_becomeOrdered_7 : decode cX12_becomeOrdered 7 = .ok (.aload_n 0, 1) := by decide +kernel
theorem dX12_becomeOrdered_8 : decode cX12_becomeOrdered 8 = .ok (.getfield 16, 3) := by decide +kernel
theorem dX12_becomeOrdered_11 : decode cX12_becomeOrdered 11 = .ok (.iload_n 1, 1) := by decide +kernel
theorem dX12_becomeOrdered_12 : decode cX12_becomeOrdered 12 = .ok (.iaload, 1) := by decide +kernel
theorem dX12_becomeOrdered_13 : decode cX12_becomeOrdered 13 = .ok (.istore_n 3, 1) := by decide +kernel
theorem dX12_becomeOrdered_14 : decode cX12_becomeOrdered 14 = .ok (.aload_n 0, 1) := by decide +kernel
theorem dX12_becomeOrdered_15 : decode cX12_becomeOrdered 15 = .ok (.getfield 38, 3) := by decide +kernel
theorem dX12_becomeOrdered_18 : decode cX12_becomeOrdered 18 = .ok (.iload_n 2, 1) := by decide +kernel
theorem dX12_becomeOrdered_19 : decode cX12_becomeOrdered 19 = .ok (.iaload, 1) := by decide +kernel
theorem dX12_becomeOrdered_20 : decode cX12_becomeOrdered 20 = .ok (.aload_n 0, 1) := by decide +kernel
theorem dX12_becomeOrdered_21 : decode cX12_becomeOrdered 21 = .ok (.getfield 38, 3) := by decide +kernel
theorem dX12_becomeOrdered_24 : decode cX12_becomeOrdered 24 = .ok (.iload_n 3, 1) := by decide +kernel
theorem dX12_becomeOrdered_25 : decode cX12_becomeOrdered 25 = .ok (.iaload, 1) := by decide +kernel
theorem dX12_becomeOrdered_26 : decode cX12_becomeOrdered 26 = .ok (.if_icmp .le 365, 3) := by decide +kernel
theorem dX12_becomeOrdered_29 : decode cX12_becomeOrdered 29 = .ok (.aload_n 0, 1) := by decide +kernel
theorem dX12_becomeOrdered_30 : decode cX12_becomeOrdered 30 = .ok (.iload_n 3, 1) := by decide +kernel
theorem dX12_becomeOrdered_31 : decode cX12_becomeOrdered 31 = .ok (.iconst 4, 1) := by decide +kernel
theorem dX12_becomeOrdered_32 : decode cX12_becomeOrdered 32 = .ok (.iconst 0, 1) := by decide +kernel
theorem dX12_becomeOrdered_33 : decode cX12_becomeOrdered 33 = .ok (.iconst (-1), 1) := by decide +kernel
theorem dX12_becomeOrdered_34 : decode cX12_becomeOrdered 34 = .ok (.invokevirtual 152, 3) := by decide +kernel
theorem dX12_becomeOrdered_37 : decode cX12_becomeOrdered 37 = .ok (.iconst 0, 1) := by decide +kernel
theorem dX12_becomeOrdered_38 : decode cX12_becomeOrdered 38 = .ok (.istore 4, 2) := by decide +kernel
theorem dX12_becomeOrdered_40 : decode cX12_becomeOrdered 40 = .ok (.iload 4, 2) := by decide +kernel
theorem dX12_becomeOrdered_42 : decode cX12_becomeOrdered 42 = .ok (.aload_n 0, 1) := by decide +kernel
theorem dX12_becomeOrdered_43 : decode cX12_becomeOrdered 43 = .ok (.getfield 140, 3) := by decide +kernel
theorem dX12_becomeOrdered_46 : decode cX12_becomeOrdered 46 = .ok (.if_icmp .ge 47, 3) := by decide +kernel
theorem dX12_becomeOrdered_49 : decode cX12_becomeOrdered 49 = .ok (.aload_n 0, 1) := by decide +kernel
theorem dX12_becomeOrdered_50 : decode cX12_becomeOrdered 50 = .ok (.getfield 74, 3) := by decide +kernel
theorem dX12_becomeOrdered_53 : decode cX12_becomeOrdered 53 = .ok (.iload 4, 2) := by decide +kernel
theorem dX12_becomeOrdered_55 : decode cX12_becomeOrdered 55 = .ok (.aload_n 0, 1) := by decide +kernel
theorem dX12_becomeOrdered_56 : decode cX12_becomeOrdered 56 = .ok (.getfield 56, 3) := by decide +kernel
theorem dX12_becomeOrdered_59 : decode cX12_becomeOrdered 59 = .ok (.iload 4, 2) := by decide +kernel
theorem dX12_becomeOrdered_61 : decode cX12_becomeOrdered 61 = .ok (.baload, 1) := by decide +kernel
theorem dX12_becomeOrdered_62 : decode cX12_becomeOrdered 62 = .ok (.ifCond .eq 23, 3) := by decide +kernel
theorem dX12_becomeOrdered_65 : decode cX12_becomeOrdered 65 = .ok (.aload_n 0, 1) := by decide +kernel
theorem dX12_becomeOrdered_66 : decode cX12_becomeOrdered 66 = .ok (.getfield 38, 3) := by decide +kernel
theorem dX12_becomeOrdered_69 : decode cX12_becomeOrdered 69 = .ok (.iload 4, 2) := by decide +kernel
theorem dX12_becomeOrdered_71 : decode cX12_becomeOrdered 71 = .ok (.iaload, 1) := by decide +kernel
theorem dX12_becomeOrdered_72 : decode cX12_becomeOrdered 72 = .ok (.aload_n 0, 1) := by decide +kernel
theorem dX12_becomeOrdered_73 : decode cX12_becomeOrdered 73 = .ok (.getfield 38, 3) := by decide +kernel
theorem dX12_becomeOrdered_76 : decode cX12_becomeOrdered 76 = .ok (.iload_n 2, 1) := by decide +kernel
theorem dX12_becomeOrdered_77 : decode cX12_becomeOrdered 77 = .ok (.iaload, 1) := by decide +kernel
theorem dX12_becomeOrdered_78 : decode cX12_becomeOrdered 78 = .ok (.if_icmp .gt 7, 3) := by decide +kernel
theorem dX12_becomeOrdered_81 : decode cX12_becomeOrdered 81 = .ok (.iconst 1, 1) := by decide +kernel
theorem dX12_becomeOrdered_82 : decode cX12_becomeOrdered 82 = .ok (.goto 4, 3) := by decide +kernel
theorem dX12_becomeOrdered_85 : decode cX12_becomeOrdered 85 = .ok (.iconst 0, 1) := by decide +kernel
theorem dX12_becomeOrdered_86 : decode cX12_becomeOrdered 86 = .ok (.bastore, 1) := by decide +kernel
theorem dX12_becomeOrdered_87 : decode cX12_becomeOrdered 87 = .ok (.iinc 4 1, 3) := by decide +kernel
theorem dX12_becomeOrdered_90 : decode cX12_becomeOrdered 90 = .ok (.goto (-50), 3) := by decide +kernel
theorem dX12_becomeOrdered_93 : decode cX12_becomeOrdered 93 = .ok (.aload_n 0, 1) := by decide +kernel
theorem dX12_becomeOrdered_94 : decode cX12_becomeOrdered 94 = .ok (.iload_n 2, 1) := by decide +kernel
theorem dX12_becomeOrdered_95 : decode cX12_becomeOrdered 95 = .ok (.iconst 5, 1) := by decide +kernel
theorem dX12_becomeOrdered_96 : decode cX12_becomeOrdered 96 = .ok (.iconst 0, 1) := by decide +kernel
theorem dX12_becomeOrdered_97 : decode cX12_becomeOrdered 97 = .ok (.iconst (-1), 1) := by decide +kernel
theorem dX12_becomeOrdered_98 : decode cX12_becomeOrdered 98 = .ok (.invokevirtual 152, 3) := by decide +kernel
theorem dX12_becomeOrdered_101 : decode cX12_becomeOrdered 101 = .ok (.iconst 0, 1) := by decide +kernel
theorem dX12_becomeOrdered_102 : decode cX12_becomeOrdered 102 = .ok (.istore 4, 2) := by decide +kernel
theorem dX12_becomeOrdered_104 : decode cX12_becomeOrdered 104 = .ok (.iload 4, 2) := by decide +kernel
theorem dX12_becomeOrdered_106 : decode cX12_becomeOrdered 106 = .ok (.aload_n 0, 1) := by decide +kernel
theorem dX12_becomeOrdered_107 : decode cX12_becomeOrdered 107 = .ok (.getfield 140, 3) := by decide +kernel
theorem dX12_becomeOrdered_110 : decode cX12_becomeOrdered 110 = .ok (.if_icmp .ge 47, 3) := by decide +kernel
theorem dX12_becomeOrdered_113 : decode cX12_becomeOrdered 113 = .ok (.aload_n 0, 1) := by decide +kernel
theorem dX12_becomeOrdered_114 : decode cX12_becomeOrdered 114 = .ok (.getfield 77, 3) := by decide +kernel
theorem dX12_becomeOrdered_117 : decode cX12_becomeOrdered 117 = .ok (.iload 4, 2) := by decide +kernel
theorem dX12_becomeOrdered_119 : decode cX12_becomeOrdered 119 = .ok (.aload_n 0, 1) := by decide +kernel
theorem dX12_becomeOrdered_120 : decode cX12_becomeOrdered 120 = .ok (.getfield 56, 3) := by decide +kernel
theorem dX12_becomeOrdered_123 : decode cX12_becomeOrdered 123 = .ok (.iload 4, 2) := by decide +kernel
theorem dX12_becomeOrdered_125 : decode cX12_becomeOrdered 125 = .ok (.baload, 1) := by decide +kernel
theorem dX12_becomeOrdered_126 : decode cX12_becomeOrdered 126 = .ok (.ifCond .eq 23, 3) := by decide +kernel
theorem dX12_becomeOrdered_129 : decode cX12_becomeOrdered 129 = .ok (.aload_n 0, 1) := by decide +kernel
theorem dX12_becomeOrdered_130 : decode cX12_becomeOrdered 130 = .ok (.getfield 38, 3) := by decide +kernel
theorem dX12_becomeOrdered_133 : decode cX12_becomeOrdered 133 = .ok (.iload 4, 2) := by decide +kernel
theorem dX12_becomeOrdered_135 : decode cX12_becomeOrdered 135 = .ok (.iaload, 1) := by decide +kernel
theorem dX12_becomeOrdered_136 : decode cX12_becomeOrdered 136 = .ok (.aload_n 0, 1) := by decide +kernel
theorem dX12_becomeOrdered_137 : decode cX12_becomeOrdered 137 = .ok (.getfield 38, 3) := by decide +kernel
theorem dX12_becomeOrdered_140 : decode cX12_becomeOrdered 140 = .ok (.iload_n 3, 1) := by decide +kernel
theorem dX12_becomeOrdered_141 : decode cX12_becomeOrdered 141 = .ok (.iaload, 1) := by decide +kernel
theorem dX12_becomeOrdered_142 : decode cX12_becomeOrdered 142 = .ok (.if_icmp .lt 7, 3) := by decide +kernel
theorem dX12_becomeOrdered_145 : decode cX12_becomeOrdered 145 = .ok (.iconst 1, 1) := by decide +kernel
theorem dX12_becomeOrdered_146 : decode cX12_becomeOrdered 146 = .ok (.goto 4, 3) := by decide +kernel
theorem dX12_becomeOrdered_149 : decode cX12_becomeOrdered 149 = .ok (.iconst 0, 1) := by decide +kernel
theorem dX12_becomeOrdered_150 : decode cX12_becomeOrdered 150 = .ok (.bastore, 1) := by decide +kernel
theorem dX12_becomeOrdered_151 : decode cX12_becomeOrdered 151 = .ok (.iinc 4 1, 3) := by decide +kernel
theorem dX12_becomeOrdered_154 : decode cX12_becomeOrdered 154 = .ok (.goto (-50), 3) := by decide +kernel
theorem dX12_becomeOrdered_157 : decode cX12_becomeOrdered 157 = .ok (.iconst 0, 1) := by decide +kernel
theorem dX12_becomeOrdered_158 : decode cX12_becomeOrdered 158 = .ok (.istore 4, 2) := by decide +kernel
theorem dX12_becomeOrdered_160 : decode cX12_becomeOrdered 160 = .ok (.iconst 0, 1) := by decide +kernel
theorem dX12_becomeOrdered_161 : decode cX12_becomeOrdered 161 = .ok (.istore 5, 2) := by decide +kernel
theorem dX12_becomeOrdered_163 : decode cX12_becomeOrdered 163 = .ok (.iload 5, 2) := by decide +kernel
theorem dX12_becomeOrdered_165 : decode cX12_becomeOrdered 165 = .ok (.aload_n 0, 1) := by decide +kernel
theorem dX12_becomeOrdered_166 : decode cX12_becomeOrdered 166 = .ok (.getfield 140, 3) := by decide +kernel
theorem dX12_becomeOrdered_169 : decode cX12_becomeOrdered 169 = .ok (.if_icmp .ge 41, 3) := by decide +kernel
theorem dX12_becomeOrdered_172 : decode cX12_becomeOrdered 172 = .ok (.aload_n 0, 1) := by decide +kernel
theorem dX12_becomeOrdered_173 : decode cX12_becomeOrdered 173 = .ok (.getfield 77, 3) := by decide +kernel
theorem dX12_becomeOrdered_176 : decode cX12_becomeOrdered 176 = .ok (.aload_n 0, 1) := by decide +kernel
theorem dX12_becomeOrdered_177 : decode cX12_becomeOrdered 177 = .ok (.getfield 35, 3) := by decide +kernel
theorem dX12_becomeOrdered_180 : decode cX12_becomeOrdered 180 = .ok (.iload 5, 2) := by decide +kernel
theorem dX12_becomeOrdered_182 : decode cX12_becomeOrdered 182 = .ok (.iaload, 1) := by decide +kernel
theorem dX12_becomeOrdered_183 : decode cX12_becomeOrdered 183 = .ok (.baload, 1) := by decide +kernel
theorem dX12_becomeOrdered_184 : decode cX12_becomeOrdered 184 = .ok (.ifCond .eq 20, 3) := by decide +kernel
theorem dX12_becomeOrdered_187 : decode cX12_becomeOrdered 187 = .ok (.aload_n 0, 1) := by decide +kernel
theorem dX12_becomeOrdered_188 : decode cX12_becomeOrdered 188 = .ok (.getfield 80, 3) := by decide +kernel
theorem dX12_becomeOrdered_191 : decode cX12_becomeOrdered 191 = .ok (.iload 4, 2) := by decide +kernel
theorem dX12_becomeOrdered_193 : decode cX12_becomeOrdered 193 = .ok (.aload_n 0, 1) := by decide +kernel
theorem dX12_becomeOrdered_194 : decode cX12_becomeOrdered 194 = .ok (.getfield 35, 3) := by decide +kernel
theorem dX12_becomeOrdered_197 : decode cX12_becomeOrdered 197 = .ok (.iload 5, 2) := by decide +kernel
theorem dX12_becomeOrdered_199 : decode cX12_becomeOrdered 199 = .ok (.iaload, 1) := by decide +kernel
theorem dX12_becomeOrdered_200 : decode cX12_becomeOrdered 200 = .ok (.iastore, 1) := by decide +kernel
theorem dX12_becomeOrdered_201 : decode cX12_becomeOrdered 201 = .ok (.iinc 4 1, 3) := by decide +kernel
theorem dX12_becomeOrdered_204 : decode cX12_becomeOrdered 204 = .ok (.iinc 5 1, 3) := by decide +kernel
theorem dX12_becomeOrdered_207 : decode cX12_becomeOrdered 207 = .ok (.goto (-44), 3) := by decide +kernel
theorem dX12_becomeOrdered_210 : decode cX12_becomeOrdered 210 = .ok (.iconst 0, 1) := by decide +kernel
theorem dX12_becomeOrdered_211 : decode cX12_becomeOrdered 211 = .ok (.istore 5, 2) := by decide +kernel
theorem dX12_becomeOrdered_213 : decode cX12_becomeOrdered 213 = .ok (.iload 5, 2) := by decide +kernel
theorem dX12_becomeOrdered_215 : decode cX12_becomeOrdered 215 = .ok (.aload_n 0, 1) := by decide +kernel
theorem dX12_becomeOrdered_216 : decode cX12_becomeOrdered 216 = .ok (.getfield 140, 3) := by decide +kernel
theorem dX12_becomeOrdered_219 : decode cX12_becomeOrdered 219 = .ok (.if_icmp .ge 41, 3) := by decide +kernel
theorem dX12_becomeOrdered_222 : decode cX12_becomeOrdered 222 = .ok (.aload_n 0, 1) := by decide +kernel
theorem dX12_becomeOrdered_223 : decode cX12_becomeOrdered 223 = .ok (.getfield 74, 3) := by decide +kernel
theorem dX12_becomeOrdered_226 : decode cX12_becomeOrdered 226 = .ok (.aload_n 0, 1) := by decide +kernel
theorem dX12_becomeOrdered_227 : decode cX12_becomeOrdered 227 = .ok (.getfield 35, 3) := by decide +kernel
theorem dX12_becomeOrdered_230 : decode cX12_becomeOrdered 230 = .ok (.iload 5, 2) := by decide +kernel
theorem dX12_becomeOrdered_232 : decode cX12_becomeOrdered 232 = .ok (.iaload, 1) := by decide +kernel
theorem dX12_becomeOrdered_233 : decode cX12_becomeOrdered 233 = .ok (.baload, 1) := by decide +kernel
theorem dX12_becomeOrdered_234 : decode cX12_becomeOrdered 234 = .ok (.ifCond .eq 20, 3) := by decide +kernel
theorem dX12_becomeOrdered_237 : decode cX12_becomeOrdered 237 = .ok (.aload_n 0, 1) := by decide +kernel
theorem dX12_becomeOrdered_238 : decode cX12_becomeOrdered 238 = .ok (.getfield 80, 3) := by decide +kernel
theorem dX12_becomeOrdered_241 : decode cX12_becomeOrdered 241 = .ok (.iload 4, 2) := by decide +kernel
theorem dX12_becomeOrdered_243 : decode cX12_becomeOrdered 243 = .ok (.aload_n 0, 1) := by decide +kernel
theorem dX12_becomeOrdered_244 : decode cX12_becomeOrdered 244 = .ok (.getfield 35, 3) := by decide +kernel
theorem dX12_becomeOrdered_247 : decode cX12_becomeOrdered 247 = .ok (.iload 5, 2) := by decide +kernel
theorem dX12_becomeOrdered_249 : decode cX12_becomeOrdered 249 = .ok (.iaload, 1) := by decide +kernel
theorem dX12_becomeOrdered_250 : decode cX12_becomeOrdered 250 = .ok (.iastore, 1) := by decide +kernel
theorem dX12_becomeOrdered_251 : decode cX12_becomeOrdered 251 = .ok (.iinc 4 1, 3) := by decide +kernel
theorem dX12_becomeOrdered_254 : decode cX12_becomeOrdered 254 = .ok (.iinc 5 1, 3) := by decide +kernel
theorem dX12_becomeOrdered_257 : decode cX12_becomeOrdered 257 = .ok (.goto (-44), 3) := by decide +kernel
theorem dX12_becomeOrdered_260 : decode cX12_becomeOrdered 260 = .ok (.iconst 0, 1) := by decide +kernel
theorem dX12_becomeOrdered_261 : decode cX12_becomeOrdered 261 = .ok (.istore 5, 2) := by decide +kernel
theorem dX12_becomeOrdered_263 : decode cX12_becomeOrdered 263 = .ok (.iconst 0, 1) := by decide +kernel
theorem dX12_becomeOrdered_264 : decode cX12_becomeOrdered 264 = .ok (.istore 6, 2) := by decide +kernel
theorem dX12_becomeOrdered_266 : decode cX12_becomeOrdered 266 = .ok (.iload 6, 2) := by decide +kernel
theorem dX12_becomeOrdered_268 : decode cX12_becomeOrdered 268 = .ok (.aload_n 0, 1) := by decide +kernel
theorem dX12_becomeOrdered_269 : decode cX12_becomeOrdered 269 = .ok (.getfield 140, 3) := by decide +kernel
theorem dX12_becomeOrdered_272 : decode cX12_becomeOrdered 272 = .ok (.if_icmp .ge 73, 3) := by decide +kernel
theorem dX12_becomeOrdered_275 : decode cX12_becomeOrdered 275 = .ok (.aload_n 0, 1) := by decide +kernel
theorem dX12_becomeOrdered_276 : decode cX12_becomeOrdered 276 = .ok (.getfield 74, 3) := by decide +kernel
theorem dX12_becomeOrdered_279 : decode cX12_becomeOrdered 279 = .ok (.aload_n 0, 1) := by decide +kernel
theorem dX12_becomeOrdered_280 : decode cX12_becomeOrdered 280 = .ok (.getfield 35, 3) := by decide +kernel
theorem dX12_becomeOrdered_283 : decode cX12_becomeOrdered 283 = .ok (.iload 6, 2) := by decide +kernel
theorem dX12_becomeOrdered_285 : decode cX12_becomeOrdered 285 = .ok (.iaload, 1) := by decide +kernel
theorem dX12_becomeOrdered_286 : decode cX12_becomeOrdered 286 = .ok (.baload, 1) := by decide +kernel
theorem dX12_becomeOrdered_287 : decode cX12_becomeOrdered 287 = .ok (.ifCond .ne 18, 3) := by decide +kernel
theorem dX12_becomeOrdered_290 : decode cX12_becomeOrdered 290 = .ok (.aload_n 0, 1) := by decide +kernel
theorem dX12_becomeOrdered_291 : decode cX12_becomeOrdered 291 = .ok (.getfield 77, 3) := by decide +kernel
theorem dX12_becomeOrdered_294 : decode cX12_becomeOrdered 294 = .ok (.aload_n 0, 1) := by decide +kernel
theorem dX12_becomeOrdered_295 : decode cX12_becomeOrdered 295 = .ok (.getfield 35, 3) := by decide +kernel
theorem dX12_becomeOrdered_298 : decode cX12_becomeOrdered 298 = .ok (.iload 6, 2) := by decide +kernel
theorem dX12_becomeOrdered_300 : decode cX12_becomeOrdered 300 = .ok (.iaload, 1) := by decide +kernel
theorem dX12_becomeOrdered_301 : decode cX12_becomeOrdered 301 = .ok (.baload, 1) := by decide +kernel
theorem dX12_becomeOrdered_302 : decode cX12_becomeOrdered 302 = .ok (.ifCond .eq 23, 3) := by decide +kernel
theorem dX12_becomeOrdered_305 : decode cX12_becomeOrdered 305 = .ok (.aload_n 0, 1) := by decide +kernel
theorem dX12_becomeOrdered_306 : decode cX12_becomeOrdered 306 = .ok (.getfield 62, 3) := by decide +kernel
theorem dX12_becomeOrdered_309 : decode cX12_becomeOrdered 309 = .ok (.iload 6, 2) := by decide +kernel
theorem dX12_becomeOrdered_311 : decode cX12_becomeOrdered 311 = .ok (.aload_n 0, 1) := by decide +kernel
theorem dX12_becomeOrdered_312 : decode cX12_becomeOrdered 312 = .ok (.getfield 80, 3) := by decide +kernel
theorem dX12_becomeOrdered_315 : decode cX12_becomeOrdered 315 = .ok (.iload 5, 2) := by decide +kernel
theorem dX12_becomeOrdered_317 : decode cX12_becomeOrdered 317 = .ok (.iaload, 1) := by decide +kernel
theorem dX12_becomeOrdered_318 : decode cX12_becomeOrdered 318 = .ok (.iastore, 1) := by decide +kernel
theorem dX12_becomeOrdered_319 : decode cX12_becomeOrdered 319 = .ok (.iinc 5 1, 3) := by decide +kernel
theorem dX12_becomeOrdered_322 : decode cX12_becomeOrdered 322 = .ok (.goto 17, 3) := by decide +kernel
theorem dX12_becomeOrdered_325 : decode cX12_becomeOrdered 325 = .ok (.aload_n 0, 1) := by decide +kernel
theorem dX12_becomeOrdered_326 : decode cX12_becomeOrdered 326 = .ok (.getfield 62, 3) := by decide +kernel
theorem dX12_becomeOrdered_329 : decode cX12_becomeOrdered 329 = .ok (.iload 6, 2) := by decide +kernel
theorem dX12_becomeOrdered_331 : decode cX12_becomeOrdered 331 = .ok (.aload_n 0, 1) := by decide +kernel
theorem dX12_becomeOrdered_332 : decode cX12_becomeOrdered 332 = .ok (.getfield 35, 3) := by decide +kernel
theorem dX12_becomeOrdered_335 : decode cX12_becomeOrdered 335 = .ok (.iload 6, 2) := by decide +kernel
theorem dX12_becomeOrdered_337 : decode cX12_becomeOrdered 337 = .ok (.iaload, 1) := by decide +kernel
theorem dX12_becomeOrdered_338 : decode cX12_becomeOrdered 338 = .ok (.iastore, 1) := by decide +kernel
theorem dX12_becomeOrdered_339 : decode cX12_becomeOrdered 339 = .ok (.iinc 6 1, 3) := by decide +kernel
theorem dX12_becomeOrdered_342 : decode cX12_becomeOrdered 342 = .ok (.goto (-76), 3) := by decide +kernel
theorem dX12_becomeOrdered_345 : decode cX12_becomeOrdered 345 = .ok (.iconst 0, 1) := by decide +kernel
theorem dX12_becomeOrdered_346 : decode cX12_becomeOrdered 346 = .ok (.istore 6, 2) := by decide +kernel
theorem dX12_becomeOrdered_348 : decode cX12_becomeOrdered 348 = .ok (.iload 6, 2) := by decide +kernel
theorem dX12_becomeOrdered_350 : decode cX12_becomeOrdered 350 = .ok (.aload_n 0, 1) := by decide +kernel
theorem dX12_becomeOrdered_351 : decode cX12_becomeOrdered 351 = .ok (.getfield 140, 3) := by decide +kernel
theorem dX12_becomeOrdered_354 : decode cX12_becomeOrdered 354 = .ok (.if_icmp .ge 37, 3) := by decide +kernel
theorem dX12_becomeOrdered_357 : decode cX12_becomeOrdered 357 = .ok (.aload_n 0, 1) := by decide +kernel
theorem dX12_becomeOrdered_358 : decode cX12_becomeOrdered 358 = .ok (.getfield 35, 3) := by decide +kernel
theorem dX12_becomeOrdered_361 : decode cX12_becomeOrdered 361 = .ok (.iload 6, 2) := by decide +kernel
theorem dX12_becomeOrdered_363 : decode cX12_becomeOrdered 363 = .ok (.aload_n 0, 1) := by decide +kernel
theorem dX12_becomeOrdered_364 : decode cX12_becomeOrdered 364 = .ok (.getfield 62, 3) := by decide +kernel
theorem dX12_becomeOrdered_367 : decode cX12_becomeOrdered 367 = .ok (.iload 6, 2) := by decide +kernel
theorem dX12_becomeOrdered_369 : decode cX12_becomeOrdered 369 = .ok (.iaload, 1) := by decide +kernel
theorem dX12_becomeOrdered_370 : decode cX12_becomeOrdered 370 = .ok (.iastore, 1) := by decide +kernel
theorem dX12_becomeOrdered_371 : decode cX12_becomeOrdered 371 = .ok (.aload_n 0, 1) := by decide +kernel
theorem dX12_becomeOrdered_372 : decode cX12_becomeOrdered 372 = .ok (.getfield 38, 3) := by decide +kernel
theorem dX12_becomeOrdered_375 : decode cX12_becomeOrdered 375 = .ok (.aload_n 0, 1) := by decide +kernel
theorem dX12_becomeOrdered_376 : decode cX12_becomeOrdered 376 = .ok (.getfield 35, 3) := by decide +kernel
theorem dX12_becomeOrdered_379 : decode cX12_becomeOrdered 379 = .ok (.iload 6, 2) := by decide +kernel
theorem dX12_becomeOrdered_381 : decode cX12_becomeOrdered 381 = .ok (.iaload, 1) := by decide +kernel
theorem dX12_becomeOrdered_382 : decode cX12_becomeOrdered 382 = .ok (.iload 6, 2) := by decide +kernel
theorem dX12_becomeOrdered_384 : decode cX12_becomeOrdered 384 = .ok (.iastore, 1) := by decide +kernel
theorem dX12_becomeOrdered_385 : decode cX12_becomeOrdered 385 = .ok (.iinc 6 1, 3) := by decide +kernel
theorem dX12_becomeOrdered_388 : decode cX12_becomeOrdered 388 = .ok (.goto (-40), 3) := by decide +kernel
theorem dX12_becomeOrdered_391 : decode cX12_becomeOrdered 391 = .ok (.aload_n 0, 1) := by decide +kernel
theorem dX12_becomeOrdered_392 : decode cX12_becomeOrdered 392 = .ok (.getfield 26, 3) := by decide +kernel
theorem dX12_becomeOrdered_395 : decode cX12_becomeOrdered 395 = .ok (.iload_n 1, 1) := by decide +kernel
theorem dX12_becomeOrdered_396 : decode cX12_becomeOrdered 396 = .ok (.iconst 0, 1) := by decide +kernel
theorem dX12_becomeOrdered_397 : decode cX12_becomeOrdered 397 = .ok (.bastore, 1) := by decide +kernel
theorem dX12_becomeOrdered_398 : decode cX12_becomeOrdered 398 = .ok (.return_, 1) := by decide +kernel
theorem dX12_take_0 : decode cX12_take 0 = .ok (.aload_n 0, 1) := by decide +kernel
theorem dX12_take_1 : decode cX12_take 1 = .ok (.iconst 0, 1) := by decide +kernel
theorem dX12_take_2 : decode cX12_take 2 = .ok (.putfield 136, 3) := by decide +kernel
theorem dX12_take_5 : decode cX12_take 5 = .ok (.aload_n 0, 1) := by decide +kernel
theorem dX12_take_6 : decode cX12_take 6 = .ok (.iload_n 1, 1) := by decide +kernel
theorem dX12_take_7 : decode cX12_take 7 = .ok (.invokevirtual 200, 3) := by decide +kernel
theorem dX12_take_10 : decode cX12_take 10 = .ok (.ifCond .ne 9, 3) := by decide +kernel
theorem dX12_take_13 : decode cX12_take 13 = .ok (.aload_n 0, 1) := by decide +kernel
theorem dX12_take_14 : decode cX12_take 14 = .ok (.iconst 1, 1) := by decide +kernel
theorem dX12_take_15 : decode cX12_take 15 = .ok (.invokevirtual 164, 3) := by decide +kernel
theorem dX12_take_18 : decode cX12_take 18 = .ok (.ireturn, 1) := by decide +kernel
theorem dX12_take_19 : decode cX12_take 19 = .ok (.aload_n 0, 1) := by decide +kernel
theorem dX12_take_20 : decode cX12_take 20 = .ok (.invokevirtual 184, 3) := by decide +kernel
theorem dX12_take_23 : decode cX12_take 23 = .ok (.aload_n 0, 1) := by decide +kernel
theorem dX12_take_24 : decode cX12_take 24 = .ok (.getfield 29, 3) := by decide +kernel
theorem dX12_take_27 : decode cX12_take 27 = .ok (.iload_n 1, 1) := by decide +kernel
theorem dX12_take_28 : decode cX12_take 28 = .ok (.iconst 0, 1) := by decide +kernel
theorem dX12_take_29 : decode cX12_take 29 = .ok (.bastore, 1) := by decide +kernel
theorem dX12_take_30 : decode cX12_take 30 = .ok (.iconst 0, 1) := by decide +kernel
theorem dX12_take_31 : decode cX12_take 31 = .ok (.istore_n 2, 1) := by decide +kernel
theorem dX12_take_32 : decode cX12_take 32 = .ok (.aload_n 0, 1) := by decide +kernel
theorem dX12_take_33 : decode cX12_take 33 = .ok (.getfield 32, 3) := by decide +kernel
theorem dX12_take_36 : decode cX12_take 36 = .ok (.iload_n 2, 1) := by decide +kernel
theorem dX12_take_37 : decode cX12_take 37 = .ok (.iaload, 1) := by decide +kernel
theorem dX12_take_38 : decode cX12_take 38 = .ok (.iload_n 1, 1) := by decide +kernel
theorem dX12_take_39 : decode cX12_take 39 = .ok (.if_icmp .eq 9, 3) := by decide +kernel
theorem dX12_take_42 : decode cX12_take 42 = .ok (.iinc 2 1, 3) := by decide +kernel
theorem dX12_take_45 : decode cX12_take 45 = .ok (.goto (-13), 3) := by decide +kernel
theorem dX12_take_48 : decode cX12_take 48 = .ok (.aload_n 0, 1) := by decide +kernel
theorem dX12_take_49 : decode cX12_take 49 = .ok (.dup, 1) := by decide +kernel
theorem dX12_take_50 : decode cX12_take 50 = .ok (.getfield 146, 3) := by decide +kernel
theorem dX12_take_53 : decode cX12_take 53 = .ok (.iconst 1, 1) := by decide +kernel
theorem dX12_take_54 : decode cX12_take 54 = .ok (.isub, 1) := by decide +kernel
theorem dX12_take_55 : decode cX12_take 55 = .ok (.putfield 146, 3) := by decide +kernel
theorem dX12_take_58 : decode cX12_take 58 = .ok (.iload_n 2, 1) := by decide +kernel
theorem dX12_take_59 : decode cX12_take 59 = .ok (.aload_n 0, 1) := by decide +kernel
theorem dX12_take_60 : decode cX12_take 60 = .ok (.getfield 146, 3) := by decide +kernel
theorem dX12_take_63 : decode cX12_take 63 = .ok (.if_icmp .ge 23, 3) := by decide +kernel
theorem dX12_take_66 : decode cX12_take 66 = .ok (.aload_n 0, 1) := by decide +kernel
theorem dX12_take_67 : decode cX12_take 67 = .ok (.getfield 32, 3) := by decide +kernel
theorem dX12_take_70 : decode cX12_take 70 = .ok (.iload_n 2, 1) := by decide +kernel
theorem dX12_take_71 : decode cX12_take 71 = .ok (.aload_n 0, 1) := by decide +kernel
theorem dX12_take_72 : decode cX12_take 72 = .ok (.getfield 32, 3) := by decide +kernel
theorem dX12_take_75 : decode cX12_take 75 = .ok (.iload_n 2, 1) := by decide +kernel
theorem dX12_take_76 : decode cX12_take 76 = .ok (.iconst 1, 1) := by decide +kernel
theorem dX12_take_77 : decode cX12_take 77 = .ok (.iadd, 1) := by decide +kernel
theorem dX12_take_78 : decode cX12_take 78 = .ok (.iaload, 1) := by decide +kernel
theorem dX12_take_79 : decode cX12_take 79 = .ok (.iastore, 1) := by decide +kernel
theorem dX12_take_80 : decode cX12_take 80 = .ok (.iinc 2 1, 3) := by decide +kernel
theorem dX12_take_83 : decode cX12_take 83 = .ok (.goto (-25), 3) := by decide +kernel
theorem dX12_take_86 : decode cX12_take 86 = .ok (.aload_n 0, 1) := by decide +kernel
theorem dX12_take_87 : decode cX12_take 87 = .ok (.getfield 22, 3) := by decide +kernel
theorem dX12_take_90 : decode cX12_take 90 = .ok (.iload_n 1, 1) := by decide +kernel
theorem dX12_take_91 : decode cX12_take 91 = .ok (.baload, 1) := by decide +kernel
theorem dX12_take_92 : decode cX12_take 92 = .ok (.ifCond .eq 8, 3) := by decide +kernel
theorem dX12_take_95 : decode cX12_take 95 = .ok (.aload_n 0, 1) := by decide +kernel
theorem dX12_take_96 : decode cX12_take 96 = .ok (.iload_n 1, 1) := by decide +kernel
theorem dX12_take_97 : decode cX12_take 97 = .ok (.invokevirtual 203, 3) := by decide +kernel
theorem dX12_take_100 : decode cX12_take 100 = .ok (.aload_n 0, 1) := by decide +kernel
theorem dX12_take_101 : decode cX12_take 101 = .ok (.getfield 26, 3) := by decide +kernel
theorem dX12_take_104 : decode cX12_take 104 = .ok (.iload_n 1, 1) := by decide +kernel
theorem dX12_take_105 : decode cX12_take 105 = .ok (.baload, 1) := by decide +kernel
theorem dX12_take_106 : decode cX12_take 106 = .ok (.ifCond .ne 89, 3) := by decide +kernel
theorem dX12_take_109 : decode cX12_take 109 = .ok (.iconst 0, 1) := by decide +kernel
theorem dX12_take_110 : decode cX12_take 110 = .ok (.istore_n 3, 1) := by decide +kernel
theorem dX12_take_111 : decode cX12_take 111 = .ok (.iload_n 3, 1) := by decide +kernel
theorem dX12_take_112 : decode cX12_take 112 = .ok (.aload_n 0, 1) := by decide +kernel
theorem dX12_take_113 : decode cX12_take 113 = .ok (.getfield 146, 3) := by decide +kernel
theorem dX12_take_116 : decode cX12_take 116 = .ok (.if_icmp .ge 79, 3) := by decide +kernel
theorem dX12_take_119 : decode cX12_take 119 = .ok (.aload_n 0, 1) := by decide +kernel
theorem dX12_take_120 : decode cX12_take 120 = .ok (.getfield 32, 3) := by decide +kernel
theorem dX12_take_123 : decode cX12_take 123 = .ok (.iload_n 3, 1) := by decide +kernel
theorem dX12_take_124 : decode cX12_take 124 = .ok (.iaload, 1) := by decide +kernel
theorem dX12_take_125 : decode cX12_take 125 = .ok (.istore 4, 2) := by decide +kernel
theorem dX12_take_127 : decode cX12_take 127 = .ok (.aload_n 0, 1) := by decide +kernel
theorem dX12_take_128 : decode cX12_take 128 = .ok (.getfield 26, 3) := by decide +kernel
theorem dX12_take_131 : decode cX12_take 131 = .ok (.iload 4, 2) := by decide +kernel
theorem dX12_take_133 : decode cX12_take 133 = .ok (.baload, 1) := by decide +kernel
theorem dX12_take_134 : decode cX12_take 134 = .ok (.ifCond .eq 55, 3) := by decide +kernel
theorem dX12_take_137 : decode cX12_take 137 = .ok (.aload_n 0, 1) := by decide +kernel
theorem dX12_take_138 : decode cX12_take 138 = .ok (.getfield 13, 3) := by decide +kernel
theorem dX12_take_141 : decode cX12_take 141 = .ok (.iload 4, 2) := by decide +kernel
theorem dX12_take_143 : decode cX12_take 143 = .ok (.iaload, 1) := by decide +kernel
theorem dX12_take_144 : decode cX12_take 144 = .ok (.aload_n 0, 1) := by decide +kernel
theorem dX12_take_145 : decode cX12_take 145 = .ok (.getfield 16, 3) := by decide +kernel
theorem dX12_take_148 : decode cX12_take 148 = .ok (.iload 4, 2) := by decide +kernel
theorem dX12_take_150 : decode cX12_take 150 = .ok (.iaload, 1) := by decide +kernel
theorem dX12_take_151 : decode cX12_take 151 = .ok (.if_icmp .eq 38, 3) := by decide +kernel
theorem dX12_take_154 : decode cX12_take 154 = .ok (.aload_n 0, 1) := by decide +kernel
theorem dX12_take_155 : decode cX12_take 155 = .ok (.aload_n 0, 1) := by decide +kernel
theorem dX12_take_156 : decode cX12_take 156 = .ok (.getfield 16, 3) := by decide +kernel
theorem dX12_take_159 : decode cX12_take 159 = .ok (.iload 4, 2) := by decide +kernel
theorem dX12_take_161 : decode cX12_take 161 = .ok (.iaload, 1) := by decide +kernel
theorem dX12_take_162 : decode cX12_take 162 = .ok (.iconst 4, 1) := by decide +kernel
theorem dX12_take_163 : decode cX12_take 163 = .ok (.iconst 0, 1) := by decide +kernel
theorem dX12_take_164 : decode cX12_take 164 = .ok (.iconst (-1), 1) := by decide +kernel
theorem dX12_take_165 : decode cX12_take 165 = .ok (.invokevirtual 152, 3) := by decide +kernel
theorem dX12_take_168 : decode cX12_take 168 = .ok (.aload_n 0, 1) := by decide +kernel
theorem dX12_take_169 : decode cX12_take 169 = .ok (.getfield 56, 3) := by decide +kernel
theorem dX12_take_172 : decode cX12_take 172 = .ok (.aload_n 0, 1) := by decide +kernel
theorem dX12_take_173 : decode cX12_take 173 = .ok (.getfield 13, 3) := by decide +kernel
theorem dX12_take_176 : decode cX12_take 176 = .ok (.iload 4, 2) := by decide +kernel
theorem dX12_take_178 : decode cX12_take 178 = .ok (.iaload, 1) := by decide +kernel
theorem dX12_take_179 : decode cX12_take 179 = .ok (.baload, 1) := by decide +kernel
theorem dX12_take_180 : decode cX12_take 180 = .ok (.ifCond .ne 9, 3) := by decide +kernel
theorem dX12_take_183 : decode cX12_take 183 = .ok (.aload_n 0, 1) := by decide +kernel
theorem dX12_take_184 : decode cX12_take 184 = .ok (.iload 4, 2) := by decide +kernel
theorem dX12_take_186 : decode cX12_take 186 = .ok (.invokevirtual 187, 3) := by decide +kernel
theorem dX12_take_189 : decode cX12_take 189 = .ok (.iinc 3 1, 3) := by decide +kernel
theorem dX12_take_192 : decode cX12_take 192 = .ok (.goto (-81), 3) := by decide +kernel
theorem dX12_take_195 : decode cX12_take 195 = .ok (.aload_n 0, 1) := by decide +kernel
theorem dX12_take_196 : decode cX12_take 196 = .ok (.iconst 0, 1) := by decide +kernel
theorem dX12_take_197 : decode cX12_take 197 = .ok (.putfield 167, 3) := by decide +kernel
theorem dX12_take_200 : decode cX12_take 200 = .ok (.aload_n 0, 1) := by decide +kernel
theorem dX12_take_201 : decode cX12_take 201 = .ok (.aload_n 0, 1) := by decide +kernel
theorem dX12_take_202 : decode cX12_take 202 = .ok (.invokevirtual 191, 3) := by decide +kernel
theorem dX12_take_205 : decode cX12_take 205 = .ok (.putfield 194, 3) := by decide +kernel
theorem dX12_take_208 : decode cX12_take 208 = .ok (.aload_n 0, 1) := by decide +kernel
theorem dX12_take_209 : decode cX12_take 209 = .ok (.invokevirtual 206, 3) := by decide +kernel
theorem dX12_take_212 : decode cX12_take 212 = .ok (.ireturn, 1) := by decide +kernel
theorem dX12_replace_0 : decode cX12_replace 0 = .ok (.aload_n 0, 1) := by decide +kernel
theorem dX12_replace_1 : decode cX12_replace 1 = .ok (.getfield 19, 3) := by decide +kernel
theorem dX12_replace_4 : decode cX12_replace 4 = .ok (.iload_n 1, 1) := by decide +kernel
theorem dX12_replace_5 : decode cX12_replace 5 = .ok (.iaload, 1) := by decide +kernel
theorem dX12_replace_6 : decode cX12_replace 6 = .ok (.istore_n 2, 1) := by decide +kernel
theorem dX12_replace_7 : decode cX12_replace 7 = .ok (.iload_n 2, 1) := by decide +kernel
theorem dX12_replace_8 : decode cX12_replace 8 = .ok (.ifCond .lt 387, 3) := by decide +kernel
theorem dX12_replace_11 : decode cX12_replace 11 = .ok (.aload_n 0, 1) := by decide +kernel
theorem dX12_replace_12 : decode cX12_replace 12 = .ok (.aload_n 0, 1) := by decide +kernel
theorem dX12_replace_13 : decode cX12_replace 13 = .ok (.getfield 13, 3) := by decide +kernel
theorem dX12_replace_16 : decode cX12_replace 16 = .ok (.iload_n 1, 1) := by decide +kernel
theorem dX12_replace_17 : decode cX12_replace 17 = .ok (.iaload, 1) := by decide +kernel
theorem dX12_replace_18 : decode cX12_replace 18 = .ok (.iconst 0, 1) := by decide +kernel
theorem dX12_replace_19 : decode cX12_replace 19 = .ok (.iload_n 2, 1) := by decide +kernel
theorem dX12_replace_20 : decode cX12_replace 20 = .ok (.iconst (-1), 1) := by decide +kernel
theorem dX12_replace_21 : decode cX12_replace 21 = .ok (.invokevirtual 152, 3) := by decide +kernel
theorem dX12_replace_24 : decode cX12_replace 24 = .ok (.aload_n 0, 1) := by decide +kernel
theorem dX12_replace_25 : decode cX12_replace 25 = .ok (.getfield 149, 3) := by decide +kernel
theorem dX12_replace_28 : decode cX12_replace 28 = .ok (.istore_n 3, 1) := by decide +kernel
theorem dX12_replace_29 : decode cX12_replace 29 = .ok (.iconst 0, 1) := by decide +kernel
theorem dX12_replace_30 : decode cX12_replace 30 = .ok (.istore 4, 2) := by decide +kernel
theorem dX12_replace_32 : decode cX12_replace 32 = .ok (.iload 4, 2) := by decide +kernel
theorem dX12_replace_34 : decode cX12_replace 34 = .ok (.aload_n 0, 1) := by decide +kernel
theorem dX12_replace_35 : decode cX12_replace 35 = .ok (.getfield 140, 3) := by decide +kernel
theorem dX12_replace_38 : decode cX12_replace 38 = .ok (.if_icmp .ge 23, 3) := by decide +kernel
theorem dX12_replace_41 : decode cX12_replace 41 = .ok (.aload_n 0, 1) := by decide +kernel
theorem dX12_replace_42 : decode cX12_replace 42 = .ok (.getfield 83, 3) := by decide +kernel
theorem dX12_replace_45 : decode cX12_replace 45 = .ok (.iload 4, 2) := by decide +kernel
theorem dX12_replace_47 : decode cX12_replace 47 = .ok (.aload_n 0, 1) := by decide +kernel
theorem dX12_replace_48 : decode cX12_replace 48 = .ok (.getfield 56, 3) := by decide +kernel
theorem dX12_replace_51 : decode cX12_replace 51 = .ok (.iload 4, 2) := by decide +kernel
theorem dX12_replace_53 : decode cX12_replace 53 = .ok (.baload, 1) := by decide +kernel
theorem dX12_replace_54 : decode cX12_replace 54 = .ok (.bastore, 1) := by decide +kernel
theorem dX12_replace_55 : decode cX12_replace 55 = .ok (.iinc 4 1, 3) := by decide +kernel
theorem dX12_replace_58 : decode cX12_replace 58 = .ok (.goto (-26), 3) := by decide +kernel
theorem dX12_replace_61 : decode cX12_replace 61 = .ok (.aload_n 0, 1) := by decide +kernel
theorem dX12_replace_62 : decode cX12_replace 62 = .ok (.aload_n 0, 1) := by decide +kernel
theorem dX12_replace_63 : decode cX12_replace 63 = .ok (.getfield 16, 3) := by decide +kernel
theorem dX12_replace_66 : decode cX12_replace 66 = .ok (.iload_n 1, 1) := by decide +kernel
theorem dX12_replace_67 : decode cX12_replace 67 = .ok (.iaload, 1) := by decide +kernel
theorem dX12_replace_68 : decode cX12_replace 68 = .ok (.iconst 0, 1) := by decide +kernel
theorem dX12_replace_69 : decode cX12_replace 69 = .ok (.iload_n 2, 1) := by decide +kernel
theorem dX12_replace_70 : decode cX12_replace 70 = .ok (.iconst (-1), 1) := by decide +kernel
theorem dX12_replace_71 : decode cX12_replace 71 = .ok (.invokevirtual 152, 3) := by decide +kernel
theorem dX12_replace_74 : decode cX12_replace 74 = .ok (.aload_n 0, 1) := by decide +kernel
theorem dX12_replace_75 : decode cX12_replace 75 = .ok (.getfield 149, 3) := by decide +kernel
theorem dX12_replace_78 : decode cX12_replace 78 = .ok (.iload_n 3, 1) := by decide +kernel
theorem dX12_replace_79 : decode cX12_replace 79 = .ok (.if_icmp .ge 7, 3) := by decide +kernel
theorem dX12_replace_82 : decode cX12_replace 82 = .ok (.iconst 1, 1) := by decide +kernel
theorem dX12_replace_83 : decode cX12_replace 83 = .ok (.goto 4, 3) := by decide +kernel
theorem dX12_replace_86 : decode cX12_replace 86 = .ok (.iconst 0, 1) := by decide +kernel
theorem dX12_replace_87 : decode cX12_replace 87 = .ok (.istore 4, 2) := by decide +kernel
theorem dX12_replace_89 : decode cX12_replace 89 = .ok (.iconst 0, 1) := by decide +kernel
theorem dX12_replace_90 : decode cX12_replace 90 = .ok (.istore 5, 2) := by decide +kernel
theorem dX12_replace_92 : decode cX12_replace 92 = .ok (.iload 5, 2) := by decide +kernel
theorem dX12_replace_94 : decode cX12_replace 94 = .ok (.aload_n 0, 1) := by decide +kernel
theorem dX12_replace_95 : decode cX12_replace 95 = .ok (.getfield 140, 3) := by decide +kernel
theorem dX12_replace_98 : decode cX12_replace 98 = .ok (.if_icmp .ge 67, 3) := by decide +kernel
theorem dX12_replace_101 : decode cX12_replace 101 = .ok (.aload_n 0, 1) := by decide +kernel
theorem dX12_replace_102 : decode cX12_replace 102 = .ok (.getfield 86, 3) := by decide +kernel
theorem dX12_replace_105 : decode cX12_replace 105 = .ok (.iload 5, 2) := by decide +kernel
theorem dX12_replace_107 : decode cX12_replace 107 = .ok (.iload 4, 2) := by decide +kernel
theorem dX12_replace_109 : decode cX12_replace 109 = .ok (.ifCond .eq 13, 3) := by decide +kernel
theorem dX12_replace_112 : decode cX12_replace 112 = .ok (.aload_n 0, 1) := by decide +kernel
theorem dX12_replace_113 : decode cX12_replace 113 = .ok (.getfield 56, 3) := by decide +kernel
theorem dX12_replace_116 : decode cX12_replace 116 = .ok (.iload 5, 2) := by decide +kernel
theorem dX12_replace_118 : decode cX12_replace 118 = .ok (.baload, 1) := by decide +kernel
theorem dX12_replace_119 : decode cX12_replace 119 = .ok (.goto 10, 3) := by decide +kernel
theorem dX12_replace_122 : decode cX12_replace 122 = .ok (.aload_n 0, 1) := by decide +kernel
theorem dX12_replace_123 : decode cX12_replace 123 = .ok (.getfield 83, 3) := by decide +kernel
theorem dX12_replace_126 : decode cX12_replace 126 = .ok (.iload 5, 2) := by decide +kernel
theorem dX12_replace_128 : decode cX12_replace 128 = .ok (.baload, 1) := by decide +kernel
theorem dX12_replace_129 : decode cX12_replace 129 = .ok (.bastore, 1) := by decide +kernel
theorem dX12_replace_130 : decode cX12_replace 130 = .ok (.aload_n 0, 1) := by decide +kernel
theorem dX12_replace_131 : decode cX12_replace 131 = .ok (.getfield 89, 3) := by decide +kernel
theorem dX12_replace_134 : decode cX12_replace 134 = .ok (.iload 5, 2) := by decide +kernel
theorem dX12_replace_136 : decode cX12_replace 136 = .ok (.iload 4, 2) := by decide +kernel
theorem dX12_replace_138 : decode cX12_replace 138 = .ok (.ifCond .eq 13, 3) := by decide +kernel
theorem dX12_replace_141 : decode cX12_replace 141 = .ok (.aload_n 0, 1) := by decide +kernel
theorem dX12_replace_142 : decode cX12_replace 142 = .ok (.getfield 83, 3) := by decide +kernel
theorem dX12_replace_145 : decode cX12_replace 145 = .ok (.iload 5, 2) := by decide +kernel
theorem dX12_replace_147 : decode cX12_replace 147 = .ok (.baload, 1) := by decide +kernel
theorem dX12_replace_148 : decode cX12_replace 148 = .ok (.goto 10, 3) := by decide +kernel
theorem dX12_replace_151 : decode cX12_replace 151 = .ok (.aload_n 0, 1) := by decide +kernel
theorem dX12_replace_152 : decode cX12_replace 152 = .ok (.getfield 56, 3) := by decide +kernel
theorem dX12_replace_155 : decode cX12_replace 155 = .ok (.iload 5, 2) := by decide +kernel
theorem dX12_replace_157 : decode cX12_replace 157 = .ok (.baload, 1) := by decide +kernel
theorem dX12_replace_158 : decode cX12_replace 158 = .ok (.bastore, 1) := by decide +kernel
theorem dX12_replace_159 : decode cX12_replace 159 = .ok (.iinc 5 1, 3) := by decide +kernel
theorem dX12_replace_162 : decode cX12_replace 162 = .ok (.goto (-70), 3) := by decide +kernel
theorem dX12_replace_165 : decode cX12_replace 165 = .ok (.iconst 0, 1) := by decide +kernel
theorem dX12_replace_166 : decode cX12_replace 166 = .ok (.istore 5, 2) := by decide +kernel
theorem dX12_replace_168 : decode cX12_replace 168 = .ok (.iload 5, 2) := by decide +kernel
theorem dX12_replace_170 : decode cX12_replace 170 = .ok (.aload_n 0, 1) := by decide +kernel
theorem dX12_replace_171 : decode cX12_replace 171 = .ok (.getfield 146, 3) := by decide +kernel
theorem dX12_replace_174 : decode cX12_replace 174 = .ok (.if_icmp .ge 84, 3) := by decide +kernel
theorem dX12_replace_177 : decode cX12_replace 177 = .ok (.aload_n 0, 1) := by decide +kernel
theorem dX12_replace_178 : decode cX12_replace 178 = .ok (.getfield 32, 3) := by decide +kernel
theorem dX12_replace_181 : decode cX12_replace 181 = .ok (.iload 5, 2) := by decide +kernel
theorem dX12_replace_183 : decode cX12_replace 183 = .ok (.iaload, 1) := by decide +kernel
theorem dX12_replace_184 : decode cX12_replace 184 = .ok (.istore 6, 2) := by decide +kernel
theorem dX12_replace_186 : decode cX12_replace 186 = .ok (.aload_n 0, 1) := by decide +kernel
theorem dX12_replace_187 : decode cX12_replace 187 = .ok (.getfield 19, 3) := by decide +kernel
theorem dX12_replace_190 : decode cX12_replace 190 = .ok (.iload 6, 2) := by decide +kernel
theorem dX12_replace_192 : decode cX12_replace 192 = .ok (.dup2, 1) := by decide +kernel
theorem dX12_replace_193 : decode cX12_replace 193 = .ok (.iaload, 1) := by decide +kernel
theorem dX12_replace_194 : decode cX12_replace 194 = .ok (.aload_n 0, 1) := by decide +kernel
theorem dX12_replace_195 : decode cX12_replace 195 = .ok (.getfield 22, 3) := by decide +kernel
theorem dX12_replace_198 : decode cX12_replace 198 = .ok (.iload 6, 2) := by decide +kernel
theorem dX12_replace_200 : decode cX12_replace 200 = .ok (.baload, 1) := by decide +kernel
theorem dX12_replace_201 : decode cX12_replace 201 = .ok (.ifCond .eq 48, 3) := by decide +kernel
theorem dX12_replace_204 : decode cX12_replace 204 = .ok (.aload_n 0, 1) := by decide +kernel
theorem dX12_replace_205 : decode cX12_replace 205 = .ok (.getfield 19, 3) := by decide +kernel
theorem dX12_replace_208 : decode cX12_replace 208 = .ok (.iload 6, 2) := by decide +kernel
theorem dX12_replace_210 : decode cX12_replace 210 = .ok (.iaload, 1) := by decide +kernel
theorem dX12_replace_211 : decode cX12_replace 211 = .ok (.iload_n 2, 1) := by decide +kernel
theorem dX12_replace_212 : decode cX12_replace 212 = .ok (.if_icmp .ne 37, 3) := by decide +kernel
theorem dX12_replace_215 : decode cX12_replace 215 = .ok (.aload_n 0, 1) := by decide +kernel
theorem dX12_replace_216 : decode cX12_replace 216 = .ok (.getfield 86, 3) := by decide +kernel
theorem dX12_replace_219 : decode cX12_replace 219 = .ok (.aload_n 0, 1) := by decide +kernel
theorem dX12_replace_220 : decode cX12_replace 220 = .ok (.getfield 13, 3) := by decide +kernel
theorem dX12_replace_223 : decode cX12_replace 223 = .ok (.iload 6, 2) := by decide +kernel
theorem dX12_replace_225 : decode cX12_replace 225 = .ok (.iaload, 1) := by decide +kernel
theorem dX12_replace_226 : decode cX12_replace 226 = .ok (.baload, 1) := by decide +kernel
theorem dX12_replace_227 : decode cX12_replace 227 = .ok (.ifCond .eq 22, 3) := by decide +kernel
theorem dX12_replace_230 : decode cX12_replace 230 = .ok (.aload_n 0, 1) := by decide +kernel
theorem dX12_replace_231 : decode cX12_replace 231 = .ok (.getfield 86, 3) := by decide +kernel
theorem dX12_replace_234 : decode cX12_replace 234 = .ok (.aload_n 0, 1) := by decide +kernel
theorem dX12_replace_235 : decode cX12_replace 235 = .ok (.getfield 16, 3) := by decide +kernel
theorem dX12_replace_238 : decode cX12_replace 238 = .ok (.iload 6, 2) := by decide +kernel
theorem dX12_replace_240 : decode cX12_replace 240 = .ok (.iaload, 1) := by decide +kernel
theorem dX12_replace_241 : decode cX12_replace 241 = .ok (.baload, 1) := by decide +kernel
theorem dX12_replace_242 : decode cX12_replace 242 = .ok (.ifCond .eq 7, 3) := by decide +kernel
theorem dX12_replace_245 : decode cX12_replace 245 = .ok (.iconst 1, 1) := by decide +kernel
theorem dX12_replace_246 : decode cX12_replace 246 = .ok (.goto 4, 3) := by decide +kernel
theorem dX12_replace_249 : decode cX12_replace 249 = .ok (.iconst 0, 1) := by decide +kernel
theorem dX12_replace_250 : decode cX12_replace 250 = .ok (.iadd, 1) := by decide +kernel
theorem dX12_replace_251 : decode cX12_replace 251 = .ok (.iastore, 1) := by decide +kernel
theorem dX12_replace_252 : decode cX12_replace 252 = .ok (.iinc 5 1, 3) := by decide +kernel
theorem dX12_replace_255 : decode cX12_replace 255 = .ok (.goto (-87), 3) := by decide +kernel
theorem dX12_replace_258 : decode cX12_replace 258 = .ok (.iconst 0, 1) := by decide +kernel
theorem dX12_replace_259 : decode cX12_replace 259 = .ok (.istore 5, 2) := by decide +kernel
theorem dX12_replace_261 : decode cX12_replace 261 = .ok (.iload 5, 2) := by decide +kernel
theorem dX12_replace_263 : decode cX12_replace 263 = .ok (.aload_n 0, 1) := by decide +kernel
theorem dX12_replace_264 : decode cX12_replace 264 = .ok (.getfield 146, 3) := by decide +kernel
theorem dX12_replace_267 : decode cX12_replace 267 = .ok (.if_icmp .ge 122, 3) := by decide +kernel
theorem dX12_replace_270 : decode cX12_replace 270 = .ok (.aload_n 0, 1) := by decide +kernel
theorem dX12_replace_271 : decode cX12_replace 271 = .ok (.getfield 32, 3) := by decide +kernel
theorem dX12_replace_274 : decode cX12_replace 274 = .ok (.iload 5, 2) := by decide +kernel
theorem dX12_replace_276 : decode cX12_replace 276 = .ok (.iaload, 1) := by decide +kernel
theorem dX12_replace_277 : decode cX12_replace 277 = .ok (.istore 6, 2) := by decide +kernel
theorem dX12_replace_279 : decode cX12_replace 279 = .ok (.aload_n 0, 1) := by decide +kernel
theorem dX12_replace_280 : decode cX12_replace 280 = .ok (.getfield 22, 3) := by decide +kernel
theorem dX12_replace_283 : decode cX12_replace 283 = .ok (.iload 6, 2) := by decide +kernel
theorem dX12_replace_285 : decode cX12_replace 285 = .ok (.baload, 1) := by decide +kernel
theorem dX12_replace_286 : decode cX12_replace 286 = .ok (.ifCond .ne 97, 3) := by decide +kernel
theorem dX12_replace_289 : decode cX12_replace 289 = .ok (.aload_n 0, 1) := by decide +kernel
theorem dX12_replace_290 : decode cX12_replace 290 = .ok (.getfield 19, 3) := by decide +kernel
theorem dX12_replace_293 : decode cX12_replace 293 = .ok (.iload 6, 2) := by decide +kernel
theorem dX12_replace_295 : decode cX12_replace 295 = .ok (.iaload, 1) := by decide +kernel
theorem dX12_replace_296 : decode cX12_replace 296 = .ok (.iload_n 2, 1) := by decide +kernel
theorem dX12_replace_297 : decode cX12_replace 297 = .ok (.if_icmp .ne 86, 3) := by decide +kernel
theorem dX12_replace_300 : decode cX12_replace 300 = .ok (.aload_n 0, 1) := by decide +kernel
theorem dX12_replace_301 : decode cX12_replace 301 = .ok (.getfield 86, 3) := by decide +kernel
theorem dX12_replace_304 : decode cX12_replace 304 = .ok (.aload_n 0, 1) := by decide +kernel
theorem dX12_replace_305 : decode cX12_replace 305 = .ok (.getfield 13, 3) := by decide +kernel
theorem dX12_replace_308 : decode cX12_replace 308 = .ok (.iload 6, 2) := by decide +kernel
theorem dX12_replace_310 : decode cX12_replace 310 = .ok (.iaload, 1) := by decide +kernel
theorem dX12_replace_311 : decode cX12_replace 311 = .ok (.baload, 1) := by decide +kernel
theorem dX12_replace_312 : decode cX12_replace 312 = .ok (.ifCond .ne 21, 3) := by decide +kernel
theorem dX12_replace_315 : decode cX12_replace 315 = .ok (.aload_n 0, 1) := by decide +kernel
theorem dX12_replace_316 : decode cX12_replace 316 = .ok (.getfield 86, 3) := by decide +kernel
theorem dX12_replace_319 : decode cX12_replace 319 = .ok (.aload_n 0, 1) := by decide +kernel
theorem dX12_replace_320 : decode cX12_replace 320 = .ok (.getfield 16, 3) := by decide +kernel
theorem dX12_replace_323 : decode cX12_replace 323 = .ok (.iload 6, 2) := by decide +kernel
theorem dX12_replace_325 : decode cX12_replace 325 = .ok (.iaload, 1) := by decide +kernel
theorem dX12_replace_326 : decode cX12_replace 326 = .ok (.baload, 1) := by decide +kernel
theorem dX12_replace_327 : decode cX12_replace 327 = .ok (.ifCond .ne 6, 3) := by decide +kernel
theorem dX12_replace_330 : decode cX12_replace 330 = .ok (.goto 53, 3) := by decide +kernel
theorem dX12_replace_333 : decode cX12_replace 333 = .ok (.aload_n 0, 1) := by decide +kernel
theorem dX12_replace_334 : decode cX12_replace 334 = .ok (.getfield 89, 3) := by decide +kernel
theorem dX12_replace_337 : decode cX12_replace 337 = .ok (.aload_n 0, 1) := by decide +kernel
theorem dX12_replace_338 : decode cX12_replace 338 = .ok (.getfield 13, 3) := by decide +kernel
theorem dX12_replace_341 : decode cX12_replace 341 = .ok (.iload 6, 2) := by decide +kernel
theorem dX12_replace_343 : decode cX12_replace 343 = .ok (.iaload, 1) := by decide +kernel
theorem dX12_replace_344 : decode cX12_replace 344 = .ok (.baload, 1) := by decide +kernel
theorem dX12_replace_345 : decode cX12_replace 345 = .ok (.ifCond .ne 18, 3) := by decide +kernel
theorem dX12_replace_348 : decode cX12_replace 348 = .ok (.aload_n 0, 1) := by decide +kernel
theorem dX12_replace_349 : decode cX12_replace 349 = .ok (.getfield 89, 3) := by decide +kernel
theorem dX12_replace_352 : decode cX12_replace 352 = .ok (.aload_n 0, 1) := by decide +kernel
theorem dX12_replace_353 : decode cX12_replace 353 = .ok (.getfield 16, 3) := by decide +kernel
theorem dX12_replace_356 : decode cX12_replace 356 = .ok (.iload 6, 2) := by decide +kernel
theorem dX12_replace_358 : decode cX12_replace 358 = .ok (.iaload, 1) := by decide +kernel
theorem dX12_replace_359 : decode cX12_replace 359 = .ok (.baload, 1) := by decide +kernel
theorem dX12_replace_360 : decode cX12_replace 360 = .ok (.ifCond .eq 12, 3) := by decide +kernel
theorem dX12_replace_363 : decode cX12_replace 363 = .ok (.aload_n 0, 1) := by decide +kernel
theorem dX12_replace_364 : decode cX12_replace 364 = .ok (.getfield 22, 3) := by decide +kernel
theorem dX12_replace_367 : decode cX12_replace 367 = .ok (.iload 6, 2) := by decide +kernel
theorem dX12_replace_369 : decode cX12_replace 369 = .ok (.iconst 1, 1) := by decide +kernel
theorem dX12_replace_370 : decode cX12_replace 370 = .ok (.bastore, 1) := by decide +kernel
theorem dX12_replace_371 : decode cX12_replace 371 = .ok (.return_, 1) := by decide +kernel
theorem dX12_replace_372 : decode cX12_replace 372 = .ok (.aload_n 0, 1) := by decide +kernel
theorem dX12_replace_373 : decode cX12_replace 373 = .ok (.getfield 19, 3) := by decide +kernel
theorem dX12_replace_376 : decode cX12_replace 376 = .ok (.iload 6, 2) := by decide +kernel
theorem dX12_replace_378 : decode cX12_replace 378 = .ok (.dup2, 1) := by decide +kernel
theorem dX12_replace_379 : decode cX12_replace 379 = .ok (.iaload, 1) := by decide +kernel
theorem dX12_replace_380 : decode cX12_replace 380 = .ok (.iconst 1, 1) := by decide +kernel
theorem dX12_replace_381 : decode cX12_replace 381 = .ok (.iadd, 1) := by decide +kernel
theorem dX12_replace_382 : decode cX12_replace 382 = .ok (.iastore, 1) := by decide +kernel
theorem dX12_replace_383 : decode cX12_replace 383 = .ok (.iinc 5 1, 3) := by decide +kernel
theorem dX12_replace_386 : decode cX12_replace 386 = .ok (.goto (-125), 3) := by decide +kernel
theorem dX12_replace_389 : decode cX12_replace 389 = .ok (.iinc 2 (-1), 3) := by decide +kernel
theorem dX12_replace_392 : decode cX12_replace 392 = .ok (.goto (-385), 3) := by decide +kernel
theorem dX12_replace_395 : decode cX12_replace 395 = .ok (.return_, 1) := by decide +kernel
theorem dX12_neighbours_0 : decode cX12_neighbours 0 = .ok (.iconst 0, 1) := by decide +kernel
theorem dX12_neighbours_1 : decode cX12_neighbours 1 = .ok (.istore_n 1, 1) := by decide +kernel
theorem dX12_neighbours_2 : decode cX12_neighbours 2 = .ok (.iload_n 1, 1) := by decide +kernel
theorem dX12_neighbours_3 : decode cX12_neighbours 3 = .ok (.aload_n 0, 1) := by decide +kernel
theorem dX12_neighbours_4 : decode cX12_neighbours 4 = .ok (.getfield 140, 3) := by decide +kernel
theorem dX12_neighbours_7 : decode cX12_neighbours 7 = .ok (.if_icmp .ge 45, 3) := by decide +kernel
theorem dX12_neighbours_10 : decode cX12_neighbours 10 = .ok (.iconst 0, 1) := by decide +kernel
theorem dX12_neighbours_11 : decode cX12_neighbours 11 = .ok (.istore_n 2, 1) := by decide +kernel
theorem dX12_neighbours_12 : decode cX12_neighbours 12 = .ok (.iload_n 2, 1) := by decide +kernel
theorem dX12_neighbours_13 : decode cX12_neighbours 13 = .ok (.aload_n 0, 1) := by decide +kernel
theorem dX12_neighbours_14 : decode cX12_neighbours 14 = .ok (.getfield 140, 3) := by decide +kernel
theorem dX12_neighbours_17 : decode cX12_neighbours 17 = .ok (.if_icmp .ge 22, 3) := by decide +kernel
theorem dX12_neighbours_20 : decode cX12_neighbours 20 = .ok (.aload_n 0, 1) := by decide +kernel
theorem dX12_neighbours_21 : decode cX12_neighbours 21 = .ok (.getfield 93, 3) := by decide +kernel
theorem dX12_neighbours_24 : decode cX12_neighbours 24 = .ok (.sipush 300, 3) := by decide +kernel
theorem dX12_neighbours_27 : decode cX12_neighbours 27 = .ok (.iload_n 1, 1) := by decide +kernel
theorem dX12_neighbours_28 : decode cX12_neighbours 28 = .ok (.imul, 1) := by decide +kernel
theorem dX12_neighbours_29 : decode cX12_neighbours 29 = .ok (.iload_n 2, 1) := by decide +kernel
theorem dX12_neighbours_30 : decode cX12_neighbours 30 = .ok (.iadd, 1) := by decide +kernel
theorem dX12_neighbours_31 : decode cX12_neighbours 31 = .ok (.iconst 0, 1) := by decide +kernel
theorem dX12_neighbours_32 : decode cX12_neighbours 32 = .ok (.bastore, 1) := by decide +kernel
theorem dX12_neighbours_33 : decode cX12_neighbours 33 = .ok (.iinc 2 1, 3) := by decide +kernel
theorem dX12_neighbours_36 : decode cX12_neighbours 36 = .ok (.goto (-24), 3) := by decide +kernel
theorem dX12_neighbours_39 : decode cX12_neighbours 39 = .ok (.aload_n 0, 1) := by decide +kernel
theorem dX12_neighbours_40 : decode cX12_neighbours 40 = .ok (.getfield 96, 3) := by decide +kernel
theorem dX12_neighbours_43 : decode cX12_neighbours 43 = .ok (.iload_n 1, 1) := by decide +kernel
theorem dX12_neighbours_44 : decode cX12_neighbours 44 = .ok (.iconst 0, 1) := by decide +kernel
theorem dX12_neighbours_45 : decode cX12_neighbours 45 = .ok (.iastore, 1) := by decide +kernel
theorem dX12_neighbours_46 : decode cX12_neighbours 46 = .ok (.iinc 1 1, 3) := by decide +kernel
theorem dX12_neighbours_49 : decode cX12_neighbours 49 = .ok (.goto (-47), 3) := by decide +kernel
theorem dX12_neighbours_52 : decode cX12_neighbours 52 = .ok (.iconst 0, 1) := by decide +kernel
theorem dX12_neighbours_53 : decode cX12_neighbours 53 = .ok (.istore_n 1, 1) := by decide +kernel
theorem dX12_neighbours_54 : decode cX12_neighbours 54 = .ok (.iload_n 1, 1) := by decide +kernel
theorem dX12_neighbours_55 : decode cX12_neighbours 55 = .ok (.aload_n 0, 1) := by decide +kernel
theorem dX12_neighbours_56 : decode cX12_neighbours 56 = .ok (.getfield 146, 3) := by decide +kernel
theorem dX12_neighbours_59 : decode cX12_neighbours 59 = .ok (.if_icmp .ge 99, 3) := by decide +kernel
theorem dX12_neighbours_62 : decode cX12_neighbours 62 = .ok (.aload_n 0, 1) := by decide +kernel
theorem dX12_neighbours_63 : decode cX12_neighbours 63 = .ok (.getfield 13, 3) := by decide +kernel
theorem dX12_neighbours_66 : decode cX12_neighbours 66 = .ok (.aload_n 0, 1) := by decide +kernel
theorem dX12_neighbours_67 : decode cX12_neighbours 67 = .ok (.getfield 32, 3) := by decide +kernel
theorem dX12_neighbours_70 : decode cX12_neighbours 70 = .ok (.iload_n 1, 1) := by decide +kernel
theorem dX12_neighbours_71 : decode cX12_neighbours 71 = .ok (.iaload, 1) := by decide +kernel
theorem dX12_neighbours_72 : decode cX12_neighbours 72 = .ok (.iaload, 1) := by decide +kernel
theorem dX12_neighbours_73 : decode cX12_neighbours 73 = .ok (.istore_n 2, 1) := by decide +kernel
theorem dX12_neighbours_74 : decode cX12_neighbours 74 = .ok (.aload_n 0, 1) := by decide +kernel
theorem dX12_neighbours_75 : decode cX12_neighbours 75 = .ok (.getfield 16, 3) := by decide +kernel
theorem dX12_neighbours_78 : decode cX12_neighbours 78 = .ok (.aload_n 0, 1) := by decide +kernel
theorem dX12_neighbours_79 : decode cX12_neighbours 79 = .ok (.getfield 32, 3) := by decide +kernel
theorem dX12_neighbours_82 : decode cX12_neighbours 82 = .ok (.iload_n 1, 1) := by decide +kernel
theorem dX12_neighbours_83 : decode cX12_neighbours 83 = .ok (.iaload, 1) := by decide +kernel
theorem dX12_neighbours_84 : decode cX12_neighbours 84 = .ok (.iaload, 1) := by decide +kernel
theorem dX12_neighbours_85 : decode cX12_neighbours 85 = .ok (.istore_n 3, 1) := by decide +kernel
theorem dX12_neighbours_86 : decode cX12_neighbours 86 = .ok (.iload_n 2, 1) := by decide +kernel
theorem dX12_neighbours_87 : decode cX12_neighbours 87 = .ok (.iload_n 3, 1) := by decide +kernel
theorem dX12_neighbours_88 : decode cX12_neighbours 88 = .ok (.if_icmp .eq 64, 3) := by decide +kernel
theorem dX12_neighbours_91 : decode cX12_neighbours 91 = .ok (.aload_n 0, 1) := by decide +kernel
theorem dX12_neighbours_92 : decode cX12_neighbours 92 = .ok (.getfield 93, 3) := by decide +kernel
theorem dX12_neighbours_95 : decode cX12_neighbours 95 = .ok (.sipush 300, 3) := by decide +kernel
theorem dX12_neighbours_98 : decode cX12_neighbours 98 = .ok (.iload_n 2, 1) := by decide +kernel
theorem dX12_neighbours_99 : decode cX12_neighbours 99 = .ok (.imul, 1) := by decide +kernel
theorem dX12_neighbours_100 : decode cX12_neighbours 100 = .ok (.iload_n 3, 1) := by decide +kernel
theorem dX12_neighbours_101 : decode cX12_neighbours 101 = .ok (.iadd, 1) := by decide +kernel
theorem dX12_neighbours_102 : decode cX12_neighbours 102 = .ok (.baload, 1) := by decide +kernel
theorem dX12_neighbours_103 : decode cX12_neighbours 103 = .ok (.ifCond .ne 49, 3) := by decide +kernel
theorem dX12_neighbours_106 : decode cX12_neighbours 106 = .ok (.aload_n 0, 1) := by decide +kernel
theorem dX12_neighbours_107 : decode cX12_neighbours 107 = .ok (.getfield 93, 3) := by decide +kernel
theorem dX12_neighbours_110 : decode cX12_neighbours 110 = .ok (.sipush 300, 3) := by decide +kernel
theorem dX12_neighbours_113 : decode cX12_neighbours 113 = .ok (.iload_n 2, 1) := by decide +kernel
theorem dX12_neighbours_114 : decode cX12_neighbours 114 = .ok (.imul, 1) := by decide +kernel
theorem dX12_neighbours_115 : decode cX12_neighbours 115 = .ok (.iload_n 3, 1) := by decide +kernel
theorem dX12_neighbours_116 : decode cX12_neighbours 116 = .ok (.iadd, 1) := by decide +kernel
theorem dX12_neighbours_117 : decode cX12_neighbours 117 = .ok (.iconst 1, 1) := by decide +kernel
theorem dX12_neighbours_118 : decode cX12_neighbours 118 = .ok (.bastore, 1) := by decide +kernel
theorem dX12_neighbours_119 : decode cX12_neighbours 119 = .ok (.aload_n 0, 1) := by decide +kernel
theorem dX12_neighbours_120 : decode cX12_neighbours 120 = .ok (.getfield 93, 3) := by decide +kernel
theorem dX12_neighbours_123 : decode cX12_neighbours 123 = .ok (.sipush 300, 3) := by decide +kernel
theorem dX12_neighbours_126 : decode cX12_neighbours 126 = .ok (.iload_n 3, 1) := by decide +kernel
theorem dX12_neighbours_127 : decode cX12_neighbours 127 = .ok (.imul, 1) := by decide +kernel
theorem dX12_neighbours_128 : decode cX12_neighbours 128 = .ok (.iload_n 2, 1) := by decide +kernel
theorem dX12_neighbours_129 : decode cX12_neighbours 129 = .ok (.iadd, 1) := by decide +kernel
theorem dX12_neighbours_130 : decode cX12_neighbours 130 = .ok (.iconst 1, 1) := by decide +kernel
theorem dX12_neighbours_131 : decode cX12_neighbours 131 = .ok (.bastore, 1) := by decide +kernel
theorem dX12_neighbours_132 : decode cX12_neighbours 132 = .ok (.aload_n 0, 1) := by decide +kernel
theorem dX12_neighbours_133 : decode cX12_neighbours 133 = .ok (.getfield 96, 3) := by decide +kernel
theorem dX12_neighbours_136 : decode cX12_neighbours 136 = .ok (.iload_n 2, 1) := by decide +kernel
theorem dX12_neighbours_137 : decode cX12_neighbours 137 = .ok (.dup2, 1) := by decide +kernel
theorem dX12_neighbours_138 : decode cX12_neighbours 138 = .ok (.iaload, 1) := by decide +kernel
theorem dX12_neighbours_139 : decode cX12_neighbours 139 = .ok (.iconst 1, 1) := by decide +kernel
theorem dX12_neighbours_140 : decode cX12_neighbours 140 = .ok (.iadd, 1) := by decide +kernel
theorem dX12_neighbours_141 : decode cX12_neighbours 141 = .ok (.iastore, 1) := by decide +kernel
theorem dX12_neighbours_142 : decode cX12_neighbours 142 = .ok (.aload_n 0, 1) := by decide +kernel
theorem dX12_neighbours_143 : decode cX12_neighbours 143 = .ok (.getfield 96, 3) := by decide +kernel
theorem dX12_neighbours_146 : decode cX12_neighbours 146 = .ok (.iload_n 3, 1) := by decide +kernel
theorem dX12_neighbours_147 : decode cX12_neighbours 147 = .ok (.dup2, 1) := by decide +kernel
theorem dX12_neighbours_148 : decode cX12_neighbours 148 = .ok (.iaload, 1) := by decide +kernel
theorem dX12_neighbours_149 : decode cX12_neighbours 149 = .ok (.iconst 1, 1) := by decide +kernel
theorem dX12_neighbours_150 : decode cX12_neighbours 150 = .ok (.iadd, 1) := by decide +kernel
theorem dX12_neighbours_151 : decode cX12_neighbours 151 = .ok (.iastore, 1) := by decide +kernel
theorem dX12_neighbours_152 : decode cX12_neighbours 152 = .ok (.iinc 1 1, 3) := by decide +kernel
theorem dX12_neighbours_155 : decode cX12_neighbours 155 = .ok (.goto (-101), 3) := by decide +kernel
theorem dX12_neighbours_158 : decode cX12_neighbours 158 = .ok (.return_, 1) := by decide +kernel
theorem dX12_theSet_0 : decode cX12_theSet 0 = .ok (.aload_n 0, 1) := by decide +kernel
theorem dX12_theSet_1 : decode cX12_theSet 1 = .ok (.invokevirtual 209, 3) := by decide +kernel
theorem dX12_theSet_4 : decode cX12_theSet 4 = .ok (.iconst 0, 1) := by decide +kernel
theorem dX12_theSet_5 : decode cX12_theSet 5 = .ok (.istore_n 1, 1) := by decide +kernel
theorem dX12_theSet_6 : decode cX12_theSet 6 = .ok (.iload_n 1, 1) := by decide +kernel
theorem dX12_theSet_7 : decode cX12_theSet 7 = .ok (.aload_n 0, 1) := by decide +kernel
theorem dX12_theSet_8 : decode cX12_theSet 8 = .ok (.getfield 140, 3) := by decide +kernel
theorem dX12_theSet_11 : decode cX12_theSet 11 = .ok (.if_icmp .ge 23, 3) := by decide +kernel
theorem dX12_theSet_14 : decode cX12_theSet 14 = .ok (.aload_n 0, 1) := by decide +kernel
theorem dX12_theSet_15 : decode cX12_theSet 15 = .ok (.getfield 99, 3) := by decide +kernel
theorem dX12_theSet_18 : decode cX12_theSet 18 = .ok (.iload_n 1, 1) := by decide +kernel
theorem dX12_theSet_19 : decode cX12_theSet 19 = .ok (.iconst 0, 1) := by decide +kernel
theorem dX12_theSet_20 : decode cX12_theSet 20 = .ok (.bastore, 1) := by decide +kernel
theorem dX12_theSet_21 : decode cX12_theSet 21 = .ok (.aload_n 0, 1) := by decide +kernel
theorem dX12_theSet_22 : decode cX12_theSet 22 = .ok (.getfield 105, 3) := by decide +kernel
theorem dX12_theSet_25 : decode cX12_theSet 25 = .ok (.iload_n 1, 1) := by decide +kernel
theorem dX12_theSet_26 : decode cX12_theSet 26 = .ok (.iconst 0, 1) := by decide +kernel
theorem dX12_theSet_27 : decode cX12_theSet 27 = .ok (.bastore, 1) := by decide +kernel
theorem dX12_theSet_28 : decode cX12_theSet 28 = .ok (.iinc 1 1, 3) := by decide +kernel
theorem dX12_theSet_31 : decode cX12_theSet 31 = .ok (.goto (-25), 3) := by decide +kernel
theorem dX12_theSet_34 : decode cX12_theSet 34 = .ok (.iconst 0, 1) := by decide +kernel
theorem dX12_theSet_35 : decode cX12_theSet 35 = .ok (.istore_n 1, 1) := by decide +kernel
theorem dX12_theSet_36 : decode cX12_theSet 36 = .ok (.iload_n 1, 1) := by decide +kernel
theorem dX12_theSet_37 : decode cX12_theSet 37 = .ok (.aload_n 0, 1) := by decide +kernel
theorem dX12_theSet_38 : decode cX12_theSet 38 = .ok (.getfield 140, 3) := by decide +kernel
theorem dX12_theSet_41 : decode cX12_theSet 41 = .ok (.if_icmp .ge 123, 3) := by decide +kernel
theorem dX12_theSet_44 : decode cX12_theSet 44 = .ok (.iconst (-1), 1) := by decide +kernel
theorem dX12_theSet_45 : decode cX12_theSet 45 = .ok (.istore_n 2, 1) := by decide +kernel
theorem dX12_theSet_46 : decode cX12_theSet 46 = .ok (.iconst 0, 1) := by decide +kernel
theorem dX12_theSet_47 : decode cX12_theSet 47 = .ok (.istore_n 3, 1) := by decide +kernel
theorem dX12_theSet_48 : decode cX12_theSet 48 = .ok (.iload_n 3, 1) := by decide +kernel
theorem dX12_theSet_49 : decode cX12_theSet 49 = .ok (.aload_n 0, 1) := by decide +kernel
theorem dX12_theSet_50 : decode cX12_theSet 50 = .ok (.getfield 140, 3) := by decide +kernel
theorem dX12_theSet_53 : decode cX12_theSet 53 = .ok (.if_icmp .ge 44, 3) := by decide +kernel
theorem dX12_theSet_56 : decode cX12_theSet 56 = .ok (.aload_n 0, 1) := by decide +kernel
theorem dX12_theSet_57 : decode cX12_theSet 57 = .ok (.getfield 105, 3) := by decide +kernel
theorem dX12_theSet_60 : decode cX12_theSet 60 = .ok (.iload_n 3, 1) := by decide +kernel
theorem dX12_theSet_61 : decode cX12_theSet 61 = .ok (.baload, 1) := by decide +kernel
theorem dX12_theSet_62 : decode cX12_theSet 62 = .ok (.ifCond .ne 27, 3) := by decide +kernel
theorem dX12_theSet_65 : decode cX12_theSet 65 = .ok (.iload_n 2, 1) := by decide +kernel
theorem dX12_theSet_66 : decode cX12_theSet 66 = .ok (.iconst (-1), 1) := by decide +kernel
theorem dX12_theSet_67 : decode cX12_theSet 67 = .ok (.if_icmp .eq 18, 3) := by decide +kernel
theorem dX12_theSet_70 : decode cX12_theSet 70 = .ok (.aload_n 0, 1) := by decide +kernel
theorem dX12_theSet_71 : decode cX12_theSet 71 = .ok (.getfield 7, 3) := by decide +kernel
theorem dX12_theSet_74 : decode cX12_theSet 74 = .ok (.iload_n 3, 1) := by decide +kernel
theorem dX12_theSet_75 : decode cX12_theSet 75 = .ok (.iaload, 1) := by decide +kernel
theorem dX12_theSet_76 : decode cX12_theSet 76 = .ok (.aload_n 0, 1) := by decide +kernel
theorem dX12_theSet_77 : decode cX12_theSet 77 = .ok (.getfield 7, 3) := by decide +kernel
theorem dX12_theSet_80 : decode cX12_theSet 80 = .ok (.iload_n 2, 1) := by decide +kernel
theorem dX12_theSet_81 : decode cX12_theSet 81 = .ok (.iaload, 1) := by decide +kernel
theorem dX12_theSet_82 : decode cX12_theSet 82 = .ok (.if_icmp .le 7, 3) := by decide +kernel
theorem dX12_theSet_85 : decode cX12_theSet 85 = .ok (.iload_n 3, 1) := by decide +kernel
theorem dX12_theSet_86 : decode cX12_theSet 86 = .ok (.goto 4, 3) := by decide +kernel
theorem dX12_theSet_89 : decode cX12_theSet 89 = .ok (.iload_n 2, 1) := by decide +kernel
theorem dX12_theSet_90 : decode cX12_theSet 90 = .ok (.istore_n 2, 1) := by decide +kernel
theorem dX12_theSet_91 : decode cX12_theSet 91 = .ok (.iinc 3 1, 3) := by decide +kernel
theorem dX12_theSet_94 : decode cX12_theSet 94 = .ok (.goto (-46), 3) := by decide +kernel
theorem dX12_theSet_97 : decode cX12_theSet 97 = .ok (.aload_n 0, 1) := by decide +kernel
theorem dX12_theSet_98 : decode cX12_theSet 98 = .ok (.getfield 105, 3) := by decide +kernel
theorem dX12_theSet_101 : decode cX12_theSet 101 = .ok (.iload_n 2, 1) := by decide +kernel
theorem dX12_theSet_102 : decode cX12_theSet 102 = .ok (.iconst 1, 1) := by decide +kernel
theorem dX12_theSet_103 : decode cX12_theSet 103 = .ok (.bastore, 1) := by decide +kernel
theorem dX12_theSet_104 : decode cX12_theSet 104 = .ok (.aload_n 0, 1) := by decide +kernel
theorem dX12_theSet_105 : decode cX12_theSet 105 = .ok (.getfield 99, 3) := by decide +kernel
theorem dX12_theSet_108 : decode cX12_theSet 108 = .ok (.iload_n 2, 1) := by decide +kernel
theorem dX12_theSet_109 : decode cX12_theSet 109 = .ok (.iconst 1, 1) := by decide +kernel
theorem dX12_theSet_110 : decode cX12_theSet 110 = .ok (.bastore, 1) := by decide +kernel
theorem dX12_theSet_111 : decode cX12_theSet 111 = .ok (.iconst 0, 1) := by decide +kernel
theorem dX12_theSet_112 : decode cX12_theSet 112 = .ok (.istore_n 3, 1) := by decide +kernel
theorem dX12_theSet_113 : decode cX12_theSet 113 = .ok (.iload_n 3, 1) := by decide +kernel
theorem dX12_theSet_114 : decode cX12_theSet 114 = .ok (.aload_n 0, 1) := by decide +kernel
theorem dX12_theSet_115 : decode cX12_theSet 115 = .ok (.getfield 140, 3) := by decide +kernel
theorem dX12_theSet_118 : decode cX12_theSet 118 = .ok (.if_icmp .ge 40, 3) := by decide +kernel
theorem dX12_theSet_121 : decode cX12_theSet 121 = .ok (.aload_n 0, 1) := by decide +kernel
theorem dX12_theSet_122 : decode cX12_theSet 122 = .ok (.getfield 99, 3) := by decide +kernel
theorem dX12_theSet_125 : decode cX12_theSet 125 = .ok (.iload_n 3, 1) := by decide +kernel
theorem dX12_theSet_126 : decode cX12_theSet 126 = .ok (.baload, 1) := by decide +kernel
theorem dX12_theSet_127 : decode cX12_theSet 127 = .ok (.ifCond .eq 25, 3) := by decide +kernel
theorem dX12_theSet_130 : decode cX12_theSet 130 = .ok (.aload_n 0, 1) := by decide +kernel
theorem dX12_theSet_131 : decode cX12_theSet 131 = .ok (.getfield 93, 3) := by decide +kernel
theorem dX12_theSet_134 : decode cX12_theSet 134 = .ok (.sipush 300, 3) := by decide +kernel
theorem dX12_theSet_137 : decode cX12_theSet 137 = .ok (.iload_n 2, 1) := by decide +kernel
theorem dX12_theSet_138 : decode cX12_theSet 138 = .ok (.imul, 1) := by decide +kernel
theorem dX12_theSet_139 : decode cX12_theSet 139 = .ok (.iload_n 3, 1) := by decide +kernel
theorem dX12_theSet_140 : decode cX12_theSet 140 = .ok (.iadd, 1) := by decide +kernel
theorem dX12_theSet_141 : decode cX12_theSet 141 = .ok (.baload, 1) := by decide +kernel
theorem dX12_theSet_142 : decode cX12_theSet 142 = .ok (.ifCond .eq 10, 3) := by decide +kernel
theorem dX12_theSet_145 : decode cX12_theSet 145 = .ok (.aload_n 0, 1) := by decide +kernel
theorem dX12_theSet_146 : decode cX12_theSet 146 = .ok (.getfield 99, 3) := by decide +kernel
theorem dX12_theSet_149 : decode cX12_theSet 149 = .ok (.iload_n 2, 1) := by decide +kernel
theorem dX12_theSet_150 : decode cX12_theSet 150 = .ok (.iconst 0, 1) := by decide +kernel
theorem dX12_theSet_151 : decode cX12_theSet 151 = .ok (.bastore, 1) := by decide +kernel
theorem dX12_theSet_152 : decode cX12_theSet 152 = .ok (.iinc 3 1, 3) := by decide +kernel
theorem dX12_theSet_155 : decode cX12_theSet 155 = .ok (.goto (-42), 3) := by decide +kernel
theorem dX12_theSet_158 : decode cX12_theSet 158 = .ok (.iinc 1 1, 3) := by decide +kernel
theorem dX12_theSet_161 : decode cX12_theSet 161 = .ok (.goto (-125), 3) := by decide +kernel
theorem dX12_theSet_164 : decode cX12_theSet 164 = .ok (.return_, 1) := by decide +kernel
theorem dX12_keepSet_0 : decode cX12_keepSet 0 = .ok (.aload_n 0, 1) := by decide +kernel
theorem dX12_keepSet_1 : decode cX12_keepSet 1 = .ok (.invokevirtual 212, 3) := by decide +kernel
theorem dX12_keepSet_4 : decode cX12_keepSet 4 = .ok (.iconst 0, 1) := by decide +kernel
theorem dX12_keepSet_5 : decode cX12_keepSet 5 = .ok (.istore_n 1, 1) := by decide +kernel
theorem dX12_keepSet_6 : decode cX12_keepSet 6 = .ok (.iload_n 1, 1) := by decide +kernel
theorem dX12_keepSet_7 : decode cX12_keepSet 7 = .ok (.aload_n 0, 1) := by decide +kernel
theorem dX12_keepSet_8 : decode cX12_keepSet 8 = .ok (.getfield 140, 3) := by decide +kernel
theorem dX12_keepSet_11 : decode cX12_keepSet 11 = .ok (.if_icmp .ge 21, 3) := by decide +kernel
theorem dX12_keepSet_14 : decode cX12_keepSet 14 = .ok (.aload_n 0, 1) := by decide +kernel
theorem dX12_keepSet_15 : decode cX12_keepSet 15 = .ok (.getfield 102, 3) := by decide +kernel
theorem dX12_keepSet_18 : decode cX12_keepSet 18 = .ok (.iload_n 1, 1) := by decide +kernel
theorem dX12_keepSet_19 : decode cX12_keepSet 19 = .ok (.aload_n 0, 1) := by decide +kernel
theorem dX12_keepSet_20 : decode cX12_keepSet 20 = .ok (.getfield 99, 3) := by decide +kernel
theorem dX12_keepSet_23 : decode cX12_keepSet 23 = .ok (.iload_n 1, 1) := by decide +kernel
theorem dX12_keepSet_24 : decode cX12_keepSet 24 = .ok (.baload, 1) := by decide +kernel
theorem dX12_keepSet_25 : decode cX12_keepSet 25 = .ok (.bastore, 1) := by decide +kernel
theorem dX12_keepSet_26 : decode cX12_keepSet 26 = .ok (.iinc 1 1, 3) := by decide +kernel
theorem dX12_keepSet_29 : decode cX12_keepSet 29 = .ok (.goto (-23), 3) := by decide +kernel
theorem dX12_keepSet_32 : decode cX12_keepSet 32 = .ok (.return_, 1) := by decide +kernel
theorem dX12_differ_0 : decode cX12_differ 0 = .ok (.aload_n 0, 1) := by decide +kernel
theorem dX12_differ_1 : decode cX12_differ 1 = .ok (.invokevirtual 212, 3) := by decide +kernel
theorem dX12_differ_4 : decode cX12_differ 4 = .ok (.iconst 0, 1) := by decide +kernel
theorem dX12_differ_5 : decode cX12_differ 5 = .ok (.istore_n 1, 1) := by decide +kernel
theorem dX12_differ_6 : decode cX12_differ 6 = .ok (.iconst 0, 1) := by decide +kernel
theorem dX12_differ_7 : decode cX12_differ 7 = .ok (.istore_n 2, 1) := by decide +kernel
theorem dX12_differ_8 : decode cX12_differ 8 = .ok (.iload_n 2, 1) := by decide +kernel
theorem dX12_differ_9 : decode cX12_differ 9 = .ok (.aload_n 0, 1) := by decide +kernel
theorem dX12_differ_10 : decode cX12_differ 10 = .ok (.getfield 140, 3) := by decide +kernel
theorem dX12_differ_13 : decode cX12_differ 13 = .ok (.if_icmp .ge 32, 3) := by decide +kernel
theorem dX12_differ_16 : decode cX12_differ 16 = .ok (.iload_n 1, 1) := by decide +kernel
theorem dX12_differ_17 : decode cX12_differ 17 = .ok (.aload_n 0, 1) := by decide +kernel
theorem dX12_differ_18 : decode cX12_differ 18 = .ok (.getfield 102, 3) := by decide +kernel
theorem dX12_differ_21 : decode cX12_differ 21 = .ok (.iload_n 2, 1) := by decide +kernel
theorem dX12_differ_22 : decode cX12_differ 22 = .ok (.baload, 1) := by decide +kernel
theorem dX12_differ_23 : decode cX12_differ 23 = .ok (.aload_n 0, 1) := by decide +kernel
theorem dX12_differ_24 : decode cX12_differ 24 = .ok (.getfield 99, 3) := by decide +kernel
theorem dX12_differ_27 : decode cX12_differ 27 = .ok (.iload_n 2, 1) := by decide +kernel
theorem dX12_differ_28 : decode cX12_differ 28 = .ok (.baload, 1) := by decide +kernel
theorem dX12_differ_29 : decode cX12_differ 29 = .ok (.if_icmp .eq 7, 3) := by decide +kernel
theorem dX12_differ_32 : decode cX12_differ 32 = .ok (.iconst 1, 1) := by decide +kernel
theorem dX12_differ_33 : decode cX12_differ 33 = .ok (.goto 4, 3) := by decide +kernel
theorem dX12_differ_36 : decode cX12_differ 36 = .ok (.iconst 0, 1) := by decide +kernel
theorem dX12_differ_37 : decode cX12_differ 37 = .ok (.iadd, 1) := by decide +kernel
theorem dX12_differ_38 : decode cX12_differ 38 = .ok (.istore_n 1, 1) := by decide +kernel
theorem dX12_differ_39 : decode cX12_differ 39 = .ok (.iinc 2 1, 3) := by decide +kernel
theorem dX12_differ_42 : decode cX12_differ 42 = .ok (.goto (-34), 3) := by decide +kernel
theorem dX12_differ_45 : decode cX12_differ 45 = .ok (.iload_n 1, 1) := by decide +kernel
theorem dX12_differ_46 : decode cX12_differ 46 = .ok (.ireturn, 1) := by decide +kernel
theorem dX12_cores_0 : decode cX12_cores 0 = .ok (.aload_n 0, 1) := by decide +kernel
theorem dX12_cores_1 : decode cX12_cores 1 = .ok (.invokevirtual 209, 3) := by decide +kernel
theorem dX12_cores_4 : decode cX12_cores 4 = .ok (.iconst 0, 1) := by decide +kernel
theorem dX12_cores_5 : decode cX12_cores 5 = .ok (.istore_n 1, 1) := by decide +kernel
theorem dX12_cores_6 : decode cX12_cores 6 = .ok (.iload_n 1, 1) := by decide +kernel
theorem dX12_cores_7 : decode cX12_cores 7 = .ok (.aload_n 0, 1) := by decide +kernel
theorem dX12_cores_8 : decode cX12_cores 8 = .ok (.getfield 140, 3) := by decide +kernel
theorem dX12_cores_11 : decode cX12_cores 11 = .ok (.if_icmp .ge 28, 3) := by decide +kernel
theorem dX12_cores_14 : decode cX12_cores 14 = .ok (.aload_n 0, 1) := by decide +kernel
theorem dX12_cores_15 : decode cX12_cores 15 = .ok (.getfield 111, 3) := by decide +kernel
theorem dX12_cores_18 : decode cX12_cores 18 = .ok (.iload_n 1, 1) := by decide +kernel
theorem dX12_cores_19 : decode cX12_cores 19 = .ok (.aload_n 0, 1) := by decide +kernel
theorem dX12_cores_20 : decode cX12_cores 20 = .ok (.getfield 96, 3) := by decide +kernel
theorem dX12_cores_23 : decode cX12_cores 23 = .ok (.iload_n 1, 1) := by decide +kernel
theorem dX12_cores_24 : decode cX12_cores 24 = .ok (.iaload, 1) := by decide +kernel
theorem dX12_cores_25 : decode cX12_cores 25 = .ok (.iastore, 1) := by decide +kernel
theorem dX12_cores_26 : decode cX12_cores 26 = .ok (.aload_n 0, 1) := by decide +kernel
theorem dX12_cores_27 : decode cX12_cores 27 = .ok (.getfield 105, 3) := by decide +kernel
theorem dX12_cores_30 : decode cX12_cores 30 = .ok (.iload_n 1, 1) := by decide +kernel
theorem dX12_cores_31 : decode cX12_cores 31 = .ok (.iconst 0, 1) := by decide +kernel
theorem dX12_cores_32 : decode cX12_cores 32 = .ok (.bastore, 1) := by decide +kernel
theorem dX12_cores_33 : decode cX12_cores 33 = .ok (.iinc 1 1, 3) := by decide +kernel
theorem dX12_cores_36 : decode cX12_cores 36 = .ok (.goto (-30), 3) := by decide +kernel
theorem dX12_cores_39 : decode cX12_cores 39 = .ok (.iconst 0, 1) := by decide +kernel
theorem dX12_cores_40 : decode cX12_cores 40 = .ok (.istore_n 1, 1) := by decide +kernel
theorem dX12_cores_41 : decode cX12_cores 41 = .ok (.iconst 0, 1) := by decide +kernel
theorem dX12_cores_42 : decode cX12_cores 42 = .ok (.istore_n 2, 1) := by decide +kernel
theorem dX12_cores_43 : decode cX12_cores 43 = .ok (.iload_n 2, 1) := by decide +kernel
theorem dX12_cores_44 : decode cX12_cores 44 = .ok (.aload_n 0, 1) := by decide +kernel
theorem dX12_cores_45 : decode cX12_cores 45 = .ok (.getfield 140, 3) := by decide +kernel
theorem dX12_cores_48 : decode cX12_cores 48 = .ok (.if_icmp .ge 151, 3) := by decide +kernel
theorem dX12_cores_51 : decode cX12_cores 51 = .ok (.iconst (-1), 1) := by decide +kernel
theorem dX12_cores_52 : decode cX12_cores 52 = .ok (.istore_n 3, 1) := by decide +kernel
theorem dX12_cores_53 : decode cX12_cores 53 = .ok (.iconst 0, 1) := by decide +kernel
theorem dX12_cores_54 : decode cX12_cores 54 = .ok (.istore 4, 2) := by decide +kernel
theorem dX12_cores_56 : decode cX12_cores 56 = .ok (.iload 4, 2) := by decide +kernel
theorem dX12_cores_58 : decode cX12_cores 58 = .ok (.aload_n 0, 1) := by decide +kernel
theorem dX12_cores_59 : decode cX12_cores 59 = .ok (.getfield 140, 3) := by decide +kernel
theorem dX12_cores_62 : decode cX12_cores 62 = .ok (.if_icmp .ge 47, 3) := by decide +kernel
theorem dX12_cores_65 : decode cX12_cores 65 = .ok (.aload_n 0, 1) := by decide +kernel
theorem dX12_cores_66 : decode cX12_cores 66 = .ok (.getfield 105, 3) := by decide +kernel
theorem dX12_cores_69 : decode cX12_cores 69 = .ok (.iload 4, 2) := by decide +kernel
theorem dX12_cores_71 : decode cX12_cores 71 = .ok (.baload, 1) := by decide +kernel
theorem dX12_cores_72 : decode cX12_cores 72 = .ok (.ifCond .ne 29, 3) := by decide +kernel
theorem dX12_cores_75 : decode cX12_cores 75 = .ok (.iload_n 3, 1) := by decide +kernel
theorem dX12_cores_76 : decode cX12_cores 76 = .ok (.iconst (-1), 1) := by decide +kernel
theorem dX12_cores_77 : decode cX12_cores 77 = .ok (.if_icmp .eq 19, 3) := by decide +kernel
theorem dX12_cores_80 : decode cX12_cores 80 = .ok (.aload_n 0, 1) := by decide +kernel
theorem dX12_cores_81 : decode cX12_cores 81 = .ok (.getfield 111, 3) := by decide +kernel
theorem dX12_cores_84 : decode cX12_cores 84 = .ok (.iload 4, 2) := by decide +kernel
theorem dX12_cores_86 : decode cX12_cores 86 = .ok (.iaload, 1) := by decide +kernel
theorem dX12_cores_87 : decode cX12_cores 87 = .ok (.aload_n 0, 1) := by decide +kernel
theorem dX12_cores_88 : decode cX12_cores 88 = .ok (.getfield 111, 3) := by decide +kernel
theorem dX12_cores_91 : decode cX12_cores 91 = .ok (.iload_n 3, 1) := by decide +kernel
theorem dX12_cores_92 : decode cX12_cores 92 = .ok (.iaload, 1) := by decide +kernel
theorem dX12_cores_93 : decode cX12_cores 93 = .ok (.if_icmp .ge 8, 3) := by decide +kernel
theorem dX12_cores_96 : decode cX12_cores 96 = .ok (.iload 4, 2) := by decide +kernel
theorem dX12_cores_98 : decode cX12_cores 98 = .ok (.goto 4, 3) := by decide +kernel
theorem dX12_cores_101 : decode cX12_cores 101 = .ok (.iload_n 3, 1) := by decide +kernel
theorem dX12_cores_102 : decode cX12_cores 102 = .ok (.istore_n 3, 1) := by decide +kernel
theorem dX12_cores_103 : decode cX12_cores 103 = .ok (.iinc 4 1, 3) := by decide +kernel
theorem dX12_cores_106 : decode cX12_cores 106 = .ok (.goto (-50), 3) := by decide +kernel
theorem dX12_cores_109 : decode cX12_cores 109 = .ok (.aload_n 0, 1) := by decide +kernel
theorem dX12_cores_110 : decode cX12_cores 110 = .ok (.getfield 111, 3) := by decide +kernel
theorem dX12_cores_113 : decode cX12_cores 113 = .ok (.iload_n 3, 1) := by decide +kernel
theorem dX12_cores_114 : decode cX12_cores 114 = .ok (.iaload, 1) := by decide +kernel
theorem dX12_cores_115 : decode cX12_cores 115 = .ok (.iload_n 1, 1) := by decide +kernel
theorem dX12_cores_116 : decode cX12_cores 116 = .ok (.if_icmp .le 12, 3) := by decide +kernel
theorem dX12_cores_119 : decode cX12_cores 119 = .ok (.aload_n 0, 1) := by decide +kernel
theorem dX12_cores_120 : decode cX12_cores 120 = .ok (.getfield 111, 3) := by decide +kernel
theorem dX12_cores_123 : decode cX12_cores 123 = .ok (.iload_n 3, 1) := by decide +kernel
theorem dX12_cores_124 : decode cX12_cores 124 = .ok (.iaload, 1) := by decide +kernel
theorem dX12_cores_125 : decode cX12_cores 125 = .ok (.goto 4, 3) := by decide +kernel
theorem dX12_cores_128 : decode cX12_cores 128 = .ok (.iload_n 1, 1) := by decide +kernel
theorem dX12_cores_129 : decode cX12_cores 129 = .ok (.istore_n 1, 1) := by decide +kernel
theorem dX12_cores_130 : decode cX12_cores 130 = .ok (.aload_n 0, 1) := by decide +kernel
theorem dX12_cores_131 : decode cX12_cores 131 = .ok (.getfield 108, 3) := by decide +kernel
theorem dX12_cores_134 : decode cX12_cores 134 = .ok (.iload_n 3, 1) := by decide +kernel
theorem dX12_cores_135 : decode cX12_cores 135 = .ok (.iload_n 1, 1) := by decide +kernel
theorem dX12_cores_136 : decode cX12_cores 136 = .ok (.iastore, 1) := by decide +kernel
theorem dX12_cores_137 : decode cX12_cores 137 = .ok (.aload_n 0, 1) := by decide +kernel
theorem dX12_cores_138 : decode cX12_cores 138 = .ok (.getfield 105, 3) := by decide +kernel
theorem dX12_cores_141 : decode cX12_cores 141 = .ok (.iload_n 3, 1) := by decide +kernel
theorem dX12_cores_142 : decode cX12_cores 142 = .ok (.iconst 1, 1) := by decide +kernel
theorem dX12_cores_143 : decode cX12_cores 143 = .ok (.bastore, 1) := by decide +kernel
theorem dX12_cores_144 : decode cX12_cores 144 = .ok (.iconst 0, 1) := by decide +kernel
theorem dX12_cores_145 : decode cX12_cores 145 = .ok (.istore 4, 2) := by decide +kernel
theorem dX12_cores_147 : decode cX12_cores 147 = .ok (.iload 4, 2) := by decide +kernel
theorem dX12_cores_149 : decode cX12_cores 149 = .ok (.aload_n 0, 1) := by decide +kernel
theorem dX12_cores_150 : decode cX12_cores 150 = .ok (.getfield 140, 3) := by decide +kernel
theorem dX12_cores_153 : decode cX12_cores 153 = .ok (.if_icmp .ge 40, 3) := by decide +kernel
theorem dX12_cores_156 : decode cX12_cores 156 = .ok (.aload_n 0, 1) := by decide +kernel
theorem dX12_cores_157 : decode cX12_cores 157 = .ok (.getfield 111, 3) := by decide +kernel
theorem dX12_cores_160 : decode cX12_cores 160 = .ok (.iload 4, 2) := by decide +kernel
theorem dX12_cores_162 : decode cX12_cores 162 = .ok (.dup2, 1) := by decide +kernel
theorem dX12_cores_163 : decode cX12_cores 163 = .ok (.iaload, 1) := by decide +kernel
theorem dX12_cores_164 : decode cX12_cores 164 = .ok (.aload_n 0, 1) := by decide +kernel
theorem dX12_cores_165 : decode cX12_cores 165 = .ok (.getfield 93, 3) := by decide +kernel
theorem dX12_cores_168 : decode cX12_cores 168 = .ok (.sipush 300, 3) := by decide +kernel
theorem dX12_cores_171 : decode cX12_cores 171 = .ok (.iload_n 3, 1) := by decide +kernel
theorem dX12_cores_172 : decode cX12_cores 172 = .ok (.imul, 1) := by decide +kernel
theorem dX12_cores_173 : decode cX12_cores 173 = .ok (.iload 4, 2) := by decide +kernel
theorem dX12_cores_175 : decode cX12_cores 175 = .ok (.iadd, 1) := by decide +kernel
theorem dX12_cores_176 : decode cX12_cores 176 = .ok (.baload, 1) := by decide +kernel
theorem dX12_cores_177 : decode cX12_cores 177 = .ok (.ifCond .eq 7, 3) := by decide +kernel
theorem dX12_cores_180 : decode cX12_cores 180 = .ok (.iconst 1, 1) := by decide +kernel
theorem dX12_cores_181 : decode cX12_cores 181 = .ok (.goto 4, 3) := by decide +kernel
theorem dX12_cores_184 : decode cX12_cores 184 = .ok (.iconst 0, 1) := by decide +kernel
theorem dX12_cores_185 : decode cX12_cores 185 = .ok (.isub, 1) := by decide +kernel
theorem dX12_cores_186 : decode cX12_cores 186 = .ok (.iastore, 1) := by decide +kernel
theorem dX12_cores_187 : decode cX12_cores 187 = .ok (.iinc 4 1, 3) := by decide +kernel
theorem dX12_cores_190 : decode cX12_cores 190 = .ok (.goto (-43), 3) := by decide +kernel
theorem dX12_cores_193 : decode cX12_cores 193 = .ok (.iinc 2 1, 3) := by decide +kernel
theorem dX12_cores_196 : decode cX12_cores 196 = .ok (.goto (-153), 3) := by decide +kernel
theorem dX12_cores_199 : decode cX12_cores 199 = .ok (.return_, 1) := by decide +kernel
theorem dX12_weigh_0 : decode cX12_weigh 0 = .ok (.aload_n 0, 1) := by decide +kernel
theorem dX12_weigh_1 : decode cX12_weigh 1 = .ok (.iconst 0, 1) := by decide +kernel
theorem dX12_weigh_2 : decode cX12_weigh 2 = .ok (.putfield 136, 3) := by decide +kernel
theorem dX12_weigh_5 : decode cX12_weigh 5 = .ok (.aload_n 0, 1) := by decide +kernel
theorem dX12_weigh_6 : decode cX12_weigh 6 = .ok (.iload_n 1, 1) := by decide +kernel
theorem dX12_weigh_7 : decode cX12_weigh 7 = .ok (.invokevirtual 176, 3) := by decide +kernel
theorem dX12_weigh_10 : decode cX12_weigh 10 = .ok (.ifCond .ne 9, 3) := by decide +kernel
theorem dX12_weigh_13 : decode cX12_weigh 13 = .ok (.aload_n 0, 1) := by decide +kernel
theorem dX12_weigh_14 : decode cX12_weigh 14 = .ok (.iconst 1, 1) := by decide +kernel
theorem dX12_weigh_15 : decode cX12_weigh 15 = .ok (.invokevirtual 164, 3) := by decide +kernel
theorem dX12_weigh_18 : decode cX12_weigh 18 = .ok (.ireturn, 1) := by decide +kernel
theorem dX12_weigh_19 : decode cX12_weigh 19 = .ok (.aload_n 0, 1) := by decide +kernel
theorem dX12_weigh_20 : decode cX12_weigh 20 = .ok (.invokevirtual 184, 3) := by decide +kernel
theorem dX12_weigh_23 : decode cX12_weigh 23 = .ok (.aload_n 0, 1) := by decide +kernel
theorem dX12_weigh_24 : decode cX12_weigh 24 = .ok (.getfield 7, 3) := by decide +kernel
theorem dX12_weigh_27 : decode cX12_weigh 27 = .ok (.iload_n 1, 1) := by decide +kernel
theorem dX12_weigh_28 : decode cX12_weigh 28 = .ok (.iload_n 2, 1) := by decide +kernel
theorem dX12_weigh_29 : decode cX12_weigh 29 = .ok (.iastore, 1) := by decide +kernel
theorem dX12_weigh_30 : decode cX12_weigh 30 = .ok (.aload_n 0, 1) := by decide +kernel
theorem dX12_weigh_31 : decode cX12_weigh 31 = .ok (.invokevirtual 191, 3) := by decide +kernel
theorem dX12_weigh_34 : decode cX12_weigh 34 = .ok (.ireturn, 1) := by decide +kernel
theorem dX12_joined_0 : decode cX12_joined 0 = .ok (.aload_n 0, 1) := by decide +kernel
theorem dX12_joined_1 : decode cX12_joined 1 = .ok (.iconst 0, 1) := by decide +kernel
theorem dX12_joined_2 : decode cX12_joined 2 = .ok (.putfield 136, 3) := by decide +kernel
theorem dX12_joined_5 : decode cX12_joined 5 = .ok (.aload_n 0, 1) := by decide +kernel
theorem dX12_joined_6 : decode cX12_joined 6 = .ok (.iload_n 1, 1) := by decide +kernel
theorem dX12_joined_7 : decode cX12_joined 7 = .ok (.invokevirtual 176, 3) := by decide +kernel
theorem dX12_joined_10 : decode cX12_joined 10 = .ok (.ifCond .eq 11, 3) := by decide +kernel
theorem dX12_joined_13 : decode cX12_joined 13 = .ok (.aload_n 0, 1) := by decide +kernel
theorem dX12_joined_14 : decode cX12_joined 14 = .ok (.iload_n 2, 1) := by decide +kernel
theorem dX12_joined_15 : decode cX12_joined 15 = .ok (.invokevirtual 176, 3) := by decide +kernel
theorem dX12_joined_18 : decode cX12_joined 18 = .ok (.ifCond .ne 17, 3) := by decide +kernel
theorem dX12_joined_21 : decode cX12_joined 21 = .ok (.aload_n 0, 1) := by decide +kernel
theorem dX12_joined_22 : decode cX12_joined 22 = .ok (.iconst 1, 1) := by decide +kernel
theorem dX12_joined_23 : decode cX12_joined 23 = .ok (.invokevirtual 164, 3) := by decide +kernel
theorem dX12_joined_26 : decode cX12_joined 26 = .ok (.ifCond .le 7, 3) := by decide +kernel
theorem dX12_joined_29 : decode cX12_joined 29 = .ok (.iconst 1, 1) := by decide +kernel
theorem dX12_joined_30 : decode cX12_joined 30 = .ok (.goto 4, 3) := by decide +kernel
theorem dX12_joined_33 : decode cX12_joined 33 = .ok (.iconst 0, 1) := by decide +kernel
theorem dX12_joined_34 : decode cX12_joined 34 = .ok (.ireturn, 1) := by decide +kernel
theorem dX12_joined_35 : decode cX12_joined 35 = .ok (.aload_n 0, 1) := by decide +kernel
theorem dX12_joined_36 : decode cX12_joined 36 = .ok (.iload_n 1, 1) := by decide +kernel
theorem dX12_joined_37 : decode cX12_joined 37 = .ok (.iconst 1, 1) := by decide +kernel
theorem dX12_joined_38 : decode cX12_joined 38 = .ok (.iconst 0, 1) := by decide +kernel
theorem dX12_joined_39 : decode cX12_joined 39 = .ok (.iconst (-1), 1) := by decide +kernel
theorem dX12_joined_40 : decode cX12_joined 40 = .ok (.invokevirtual 152, 3) := by decide +kernel
theorem dX12_joined_43 : decode cX12_joined 43 = .ok (.aload_n 0, 1) := by decide +kernel
theorem dX12_joined_44 : decode cX12_joined 44 = .ok (.getfield 56, 3) := by decide +kernel
theorem dX12_joined_47 : decode cX12_joined 47 = .ok (.iload_n 2, 1) := by decide +kernel
theorem dX12_joined_48 : decode cX12_joined 48 = .ok (.baload, 1) := by decide +kernel
theorem dX12_joined_49 : decode cX12_joined 49 = .ok (.ireturn, 1) := by decide +kernel
theorem dX12_two_0 : decode cX12_two 0 = .ok (.aload_n 0, 1) := by decide +kernel
theorem dX12_two_1 : decode cX12_two 1 = .ok (.iconst 0, 1) := by decide +kernel
theorem dX12_two_2 : decode cX12_two 2 = .ok (.putfield 136, 3) := by decide +kernel
theorem dX12_two_5 : decode cX12_two 5 = .ok (.aload_n 0, 1) := by decide +kernel
theorem dX12_two_6 : decode cX12_two 6 = .ok (.iload_n 1, 1) := by decide +kernel
theorem dX12_two_7 : decode cX12_two 7 = .ok (.invokevirtual 176, 3) := by decide +kernel
theorem dX12_two_10 : decode cX12_two 10 = .ok (.ifCond .eq 11, 3) := by decide +kernel
theorem dX12_two_13 : decode cX12_two 13 = .ok (.aload_n 0, 1) := by decide +kernel
theorem dX12_two_14 : decode cX12_two 14 = .ok (.iload_n 2, 1) := by decide +kernel
theorem dX12_two_15 : decode cX12_two 15 = .ok (.invokevirtual 176, 3) := by decide +kernel
theorem dX12_two_18 : decode cX12_two 18 = .ok (.ifCond .ne 17, 3) := by decide +kernel
theorem dX12_two_21 : decode cX12_two 21 = .ok (.aload_n 0, 1) := by decide +kernel
theorem dX12_two_22 : decode cX12_two 22 = .ok (.iconst 1, 1) := by decide +kernel
theorem dX12_two_23 : decode cX12_two 23 = .ok (.invokevirtual 164, 3) := by decide +kernel
theorem dX12_two_26 : decode cX12_two 26 = .ok (.ifCond .le 7, 3) := by decide +kernel
theorem dX12_two_29 : decode cX12_two 29 = .ok (.iconst 1, 1) := by decide +kernel
theorem dX12_two_30 : decode cX12_two 30 = .ok (.goto 4, 3) := by decide +kernel
theorem dX12_two_33 : decode cX12_two 33 = .ok (.iconst 0, 1) := by decide +kernel
theorem dX12_two_34 : decode cX12_two 34 = .ok (.ireturn, 1) := by decide +kernel
theorem dX12_two_35 : decode cX12_two 35 = .ok (.iload_n 1, 1) := by decide +kernel
theorem dX12_two_36 : decode cX12_two 36 = .ok (.iload_n 2, 1) := by decide +kernel
theorem dX12_two_37 : decode cX12_two 37 = .ok (.if_icmp .ne 5, 3) := by decide +kernel
theorem dX12_two_40 : decode cX12_two 40 = .ok (.iconst 1, 1) := by decide +kernel
theorem dX12_two_41 : decode cX12_two 41 = .ok (.ireturn, 1) := by decide +kernel
theorem dX12_two_42 : decode cX12_two 42 = .ok (.aload_n 0, 1) := by decide +kernel
theorem dX12_two_43 : decode cX12_two 43 = .ok (.iload_n 1, 1) := by decide +kernel
theorem dX12_two_44 : decode cX12_two 44 = .ok (.iconst 1, 1) := by decide +kernel
theorem dX12_two_45 : decode cX12_two 45 = .ok (.iconst 0, 1) := by decide +kernel
theorem dX12_two_46 : decode cX12_two 46 = .ok (.iconst (-1), 1) := by decide +kernel
theorem dX12_two_47 : decode cX12_two 47 = .ok (.invokevirtual 152, 3) := by decide +kernel
theorem dX12_two_50 : decode cX12_two 50 = .ok (.aload_n 0, 1) := by decide +kernel
theorem dX12_two_51 : decode cX12_two 51 = .ok (.getfield 56, 3) := by decide +kernel
theorem dX12_two_54 : decode cX12_two 54 = .ok (.iload_n 2, 1) := by decide +kernel
theorem dX12_two_55 : decode cX12_two 55 = .ok (.baload, 1) := by decide +kernel
theorem dX12_two_56 : decode cX12_two 56 = .ok (.istore_n 3, 1) := by decide +kernel
theorem dX12_two_57 : decode cX12_two 57 = .ok (.iconst 0, 1) := by decide +kernel
theorem dX12_two_58 : decode cX12_two 58 = .ok (.istore 4, 2) := by decide +kernel
theorem dX12_two_60 : decode cX12_two 60 = .ok (.iload_n 2, 1) := by decide +kernel
theorem dX12_two_61 : decode cX12_two 61 = .ok (.istore 5, 2) := by decide +kernel
theorem dX12_two_63 : decode cX12_two 63 = .ok (.iload_n 3, 1) := by decide +kernel
theorem dX12_two_64 : decode cX12_two 64 = .ok (.ifCond .eq 44, 3) := by decide +kernel
theorem dX12_two_67 : decode cX12_two 67 = .ok (.iload 5, 2) := by decide +kernel
theorem dX12_two_69 : decode cX12_two 69 = .ok (.iload_n 1, 1) := by decide +kernel
theorem dX12_two_70 : decode cX12_two 70 = .ok (.if_icmp .eq 38, 3) := by decide +kernel
theorem dX12_two_73 : decode cX12_two 73 = .ok (.aload_n 0, 1) := by decide +kernel
theorem dX12_two_74 : decode cX12_two 74 = .ok (.getfield 114, 3) := by decide +kernel
theorem dX12_two_77 : decode cX12_two 77 = .ok (.iload 4, 2) := by decide +kernel
theorem dX12_two_79 : decode cX12_two 79 = .ok (.aload_n 0, 1) := by decide +kernel
theorem dX12_two_80 : decode cX12_two 80 = .ok (.getfield 62, 3) := by decide +kernel
theorem dX12_two_83 : decode cX12_two 83 = .ok (.iload 5, 2) := by decide +kernel
theorem dX12_two_85 : decode cX12_two 85 = .ok (.iaload, 1) := by decide +kernel
theorem dX12_two_86 : decode cX12_two 86 = .ok (.iconst 2, 1) := by decide +kernel
theorem dX12_two_87 : decode cX12_two 87 = .ok (.idiv, 1) := by decide +kernel
theorem dX12_two_88 : decode cX12_two 88 = .ok (.iastore, 1) := by decide +kernel
theorem dX12_two_89 : decode cX12_two 89 = .ok (.iinc 4 1, 3) := by decide +kernel
theorem dX12_two_92 : decode cX12_two 92 = .ok (.aload_n 0, 1) := by decide +kernel
theorem dX12_two_93 : decode cX12_two 93 = .ok (.aload_n 0, 1) := by decide +kernel
theorem dX12_two_94 : decode cX12_two 94 = .ok (.getfield 62, 3) := by decide +kernel
theorem dX12_two_97 : decode cX12_two 97 = .ok (.iload 5, 2) := by decide +kernel
theorem dX12_two_99 : decode cX12_two 99 = .ok (.iaload, 1) := by decide +kernel
theorem dX12_two_100 : decode cX12_two 100 = .ok (.invokevirtual 215, 3) := by decide +kernel
theorem dX12_two_103 : decode cX12_two 103 = .ok (.istore 5, 2) := by decide +kernel
theorem dX12_two_105 : decode cX12_two 105 = .ok (.goto (-42), 3) := by decide +kernel
theorem dX12_two_108 : decode cX12_two 108 = .ok (.iconst 0, 1) := by decide +kernel
theorem dX12_two_109 : decode cX12_two 109 = .ok (.istore 5, 2) := by decide +kernel
theorem dX12_two_111 : decode cX12_two 111 = .ok (.iload 5, 2) := by decide +kernel
theorem dX12_two_113 : decode cX12_two 113 = .ok (.iload 4, 2) := by decide +kernel
theorem dX12_two_115 : decode cX12_two 115 = .ok (.if_icmp .ge 34, 3) := by decide +kernel
theorem dX12_two_118 : decode cX12_two 118 = .ok (.iload_n 3, 1) := by decide +kernel
theorem dX12_two_119 : decode cX12_two 119 = .ok (.ifCond .eq 30, 3) := by decide +kernel
theorem dX12_two_122 : decode cX12_two 122 = .ok (.aload_n 0, 1) := by decide +kernel
theorem dX12_two_123 : decode cX12_two 123 = .ok (.iload_n 1, 1) := by decide +kernel
theorem dX12_two_124 : decode cX12_two 124 = .ok (.iconst 1, 1) := by decide +kernel
theorem dX12_two_125 : decode cX12_two 125 = .ok (.iconst 0, 1) := by decide +kernel
theorem dX12_two_126 : decode cX12_two 126 = .ok (.aload_n 0, 1) := by decide +kernel
theorem dX12_two_127 : decode cX12_two 127 = .ok (.getfield 114, 3) := by decide +kernel
theorem dX12_two_130 : decode cX12_two 130 = .ok (.iload 5, 2) := by decide +kernel
theorem dX12_two_132 : decode cX12_two 132 = .ok (.iaload, 1) := by decide +kernel
theorem dX12_two_133 : decode cX12_two 133 = .ok (.invokevirtual 152, 3) := by decide +kernel
theorem dX12_two_136 : decode cX12_two 136 = .ok (.aload_n 0, 1) := by decide +kernel
theorem dX12_two_137 : decode cX12_two 137 = .ok (.getfield 56, 3) := by decide +kernel
theorem dX12_two_140 : decode cX12_two 140 = .ok (.iload_n 2, 1) := by decide +kernel
theorem dX12_two_141 : decode cX12_two 141 = .ok (.baload, 1) := by decide +kernel
theorem dX12_two_142 : decode cX12_two 142 = .ok (.istore_n 3, 1) := by decide +kernel
theorem dX12_two_143 : decode cX12_two 143 = .ok (.iinc 5 1, 3) := by decide +kernel
theorem dX12_two_146 : decode cX12_two 146 = .ok (.goto (-35), 3) := by decide +kernel
theorem dX12_two_149 : decode cX12_two 149 = .ok (.iload_n 3, 1) := by decide +kernel
theorem dX12_two_150 : decode cX12_two 150 = .ok (.ireturn, 1) := by decide +kernel
theorem dX12_other_0 : decode cX12_other 0 = .ok (.iload_n 1, 1) := by decide +kernel
theorem dX12_other_1 : decode cX12_other 1 = .ok (.iconst 2, 1) := by decide +kernel
theorem dX12_other_2 : decode cX12_other 2 = .ok (.irem, 1) := by decide +kernel
theorem dX12_other_3 : decode cX12_other 3 = .ok (.ifCond .ne 14, 3) := by decide +kernel
theorem dX12_other_6 : decode cX12_other 6 = .ok (.aload_n 0, 1) := by decide +kernel
theorem dX12_other_7 : decode cX12_other 7 = .ok (.getfield 13, 3) := by decide +kernel
theorem dX12_other_10 : decode cX12_other 10 = .ok (.iload_n 1, 1) := by decide +kernel
theorem dX12_other_11 : decode cX12_other 11 = .ok (.iconst 2, 1) := by decide +kernel
theorem dX12_other_12 : decode cX12_other 12 = .ok (.idiv, 1) := by decide +kernel
theorem dX12_other_13 : decode cX12_other 13 = .ok (.iaload, 1) := by decide +kernel
theorem dX12_other_14 : decode cX12_other 14 = .ok (.goto 11, 3) := by decide +kernel
theorem dX12_other_17 : decode cX12_other 17 = .ok (.aload_n 0, 1) := by decide +kernel
theorem dX12_other_18 : decode cX12_other 18 = .ok (.getfield 16, 3) := by decide +kernel
theorem dX12_other_21 : decode cX12_other 21 = .ok (.iload_n 1, 1) := by decide +kernel
theorem dX12_other_22 : decode cX12_other 22 = .ok (.iconst 2, 1) := by decide +kernel
theorem dX12_other_23 : decode cX12_other 23 = .ok (.idiv, 1) := by decide +kernel
theorem dX12_other_24 : decode cX12_other 24 = .ok (.iaload, 1) := by decide +kernel
theorem dX12_other_25 : decode cX12_other 25 = .ok (.ireturn, 1) := by decide +kernel
theorem dX12_isBridge_0 : decode cX12_isBridge 0 = .ok (.aload_n 0, 1) := by decide +kernel
theorem dX12_isBridge_1 : decode cX12_isBridge 1 = .ok (.getfield 13, 3) := by decide +kernel
theorem dX12_isBridge_4 : decode cX12_isBridge 4 = .ok (.iload_n 1, 1) := by decide +kernel
theorem dX12_isBridge_5 : decode cX12_isBridge 5 = .ok (.iaload, 1) := by decide +kernel
theorem dX12_isBridge_6 : decode cX12_isBridge 6 = .ok (.aload_n 0, 1) := by decide +kernel
theorem dX12_isBridge_7 : decode cX12_isBridge 7 = .ok (.getfield 16, 3) := by decide +kernel
theorem dX12_isBridge_10 : decode cX12_isBridge 10 = .ok (.iload_n 1, 1) := by decide +kernel
theorem dX12_isBridge_11 : decode cX12_isBridge 11 = .ok (.iaload, 1) := by decide +kernel
theorem dX12_isBridge_12 : decode cX12_isBridge 12 = .ok (.if_icmp .ne 5, 3) := by decide +kernel
theorem dX12_isBridge_15 : decode cX12_isBridge 15 = .ok (.iconst 0, 1) := by decide +kernel
theorem dX12_isBridge_16 : decode cX12_isBridge 16 = .ok (.ireturn, 1) := by decide +kernel
theorem dX12_isBridge_17 : decode cX12_isBridge 17 = .ok (.aload_n 0, 1) := by decide +kernel
theorem dX12_isBridge_18 : decode cX12_isBridge 18 = .ok (.aload_n 0, 1) := by decide +kernel
theorem dX12_isBridge_19 : decode cX12_isBridge 19 = .ok (.getfield 13, 3) := by decide +kernel
theorem dX12_isBridge_22 : decode cX12_isBridge 22 = .ok (.iload_n 1, 1) := by decide +kernel
theorem dX12_isBridge_23 : decode cX12_isBridge 23 = .ok (.iaload, 1) := by decide +kernel
theorem dX12_isBridge_24 : decode cX12_isBridge 24 = .ok (.iconst 1, 1) := by decide +kernel
theorem dX12_isBridge_25 : decode cX12_isBridge 25 = .ok (.iconst 0, 1) := by decide +kernel
theorem dX12_isBridge_26 : decode cX12_isBridge 26 = .ok (.iload_n 1, 1) := by decide +kernel
theorem dX12_isBridge_27 : decode cX12_isBridge 27 = .ok (.invokevirtual 152, 3) := by decide +kernel
theorem dX12_isBridge_30 : decode cX12_isBridge 30 = .ok (.aload_n 0, 1) := by decide +kernel
theorem dX12_isBridge_31 : decode cX12_isBridge 31 = .ok (.getfield 56, 3) := by decide +kernel
theorem dX12_isBridge_34 : decode cX12_isBridge 34 = .ok (.aload_n 0, 1) := by decide +kernel
theorem dX12_isBridge_35 : decode cX12_isBridge 35 = .ok (.getfield 16, 3) := by decide +kernel
theorem dX12_isBridge_38 : decode cX12_isBridge 38 = .ok (.iload_n 1, 1) := by decide +kernel
theorem dX12_isBridge_39 : decode cX12_isBridge 39 = .ok (.iaload, 1) := by decide +kernel
theorem dX12_isBridge_40 : decode cX12_isBridge 40 = .ok (.baload, 1) := by decide +kernel
theorem dX12_isBridge_41 : decode cX12_isBridge 41 = .ok (.ifCond .ne 7, 3) := by decide +kernel
theorem dX12_isBridge_44 : decode cX12_isBridge 44 = .ok (.iconst 1, 1) := by decide +kernel
theorem dX12_isBridge_45 : decode cX12_isBridge 45 = .ok (.goto 4, 3) := by decide +kernel
theorem dX12_isBridge_48 : decode cX12_isBridge 48 = .ok (.iconst 0, 1) := by decide +kernel
theorem dX12_isBridge_49 : decode cX12_isBridge 49 = .ok (.ireturn, 1) := by decide +kernel
theorem dX12_isOdd_0 : decode cX12_isOdd 0 = .ok (.aload_n 0, 1) := by decide +kernel
theorem dX12_isOdd_1 : decode cX12_isOdd 1 = .ok (.getfield 22, 3) := by decide +kernel
theorem dX12_isOdd_4 : decode cX12_isOdd 4 = .ok (.iload_n 1, 1) := by decide +kernel
theorem dX12_isOdd_5 : decode cX12_isOdd 5 = .ok (.baload, 1) := by decide +kernel
theorem dX12_isOdd_6 : decode cX12_isOdd 6 = .ok (.ifCond .eq 5, 3) := by decide +kernel
theorem dX12_isOdd_9 : decode cX12_isOdd 9 = .ok (.iconst 0, 1) := by decide +kernel
theorem dX12_isOdd_10 : decode cX12_isOdd 10 = .ok (.ireturn, 1) := by decide +kernel
theorem dX12_isOdd_11 : decode cX12_isOdd 11 = .ok (.aload_n 0, 1) := by decide +kernel
theorem dX12_isOdd_12 : decode cX12_isOdd 12 = .ok (.aload_n 0, 1) := by decide +kernel
theorem dX12_isOdd_13 : decode cX12_isOdd 13 = .ok (.getfield 13, 3) := by decide +kernel
theorem dX12_isOdd_16 : decode cX12_isOdd 16 = .ok (.iload_n 1, 1) := by decide +kernel
theorem dX12_isOdd_17 : decode cX12_isOdd 17 = .ok (.iaload, 1) := by decide +kernel
theorem dX12_isOdd_18 : decode cX12_isOdd 18 = .ok (.iconst 0, 1) := by decide +kernel
theorem dX12_isOdd_19 : decode cX12_isOdd 19 = .ok (.iconst 0, 1) := by decide +kernel
theorem dX12_isOdd_20 : decode cX12_isOdd 20 = .ok (.iconst (-1), 1) := by decide +kernel
theorem dX12_isOdd_21 : decode cX12_isOdd 21 = .ok (.invokevirtual 152, 3) := by decide +kernel
theorem dX12_isOdd_24 : decode cX12_isOdd 24 = .ok (.aload_n 0, 1) := by decide +kernel
theorem dX12_isOdd_25 : decode cX12_isOdd 25 = .ok (.getfield 65, 3) := by decide +kernel
theorem dX12_isOdd_28 : decode cX12_isOdd 28 = .ok (.aload_n 0, 1) := by decide +kernel
theorem dX12_isOdd_29 : decode cX12_isOdd 29 = .ok (.getfield 16, 3) := by decide +kernel
theorem dX12_isOdd_32 : decode cX12_isOdd 32 = .ok (.iload_n 1, 1) := by decide +kernel
theorem dX12_isOdd_33 : decode cX12_isOdd 33 = .ok (.iaload, 1) := by decide +kernel
theorem dX12_isOdd_34 : decode cX12_isOdd 34 = .ok (.iaload, 1) := by decide +kernel
theorem dX12_isOdd_35 : decode cX12_isOdd 35 = .ok (.iconst 2, 1) := by decide +kernel
theorem dX12_isOdd_36 : decode cX12_isOdd 36 = .ok (.irem, 1) := by decide +kernel
theorem dX12_isOdd_37 : decode cX12_isOdd 37 = .ok (.ifCond .ne 7, 3) := by decide +kernel
theorem dX12_isOdd_40 : decode cX12_isOdd 40 = .ok (.iconst 1, 1) := by decide +kernel
theorem dX12_isOdd_41 : decode cX12_isOdd 41 = .ok (.goto 4, 3) := by decide +kernel
theorem dX12_isOdd_44 : decode cX12_isOdd 44 = .ok (.iconst 0, 1) := by decide +kernel
theorem dX12_isOdd_45 : decode cX12_isOdd 45 = .ok (.ireturn, 1) := by decide +kernel
theorem dX12_oddOf_0 : decode cX12_oddOf 0 = .ok (.aload_n 0, 1) := by decide +kernel
theorem dX12_oddOf_1 : decode cX12_oddOf 1 = .ok (.iload_n 1, 1) := by decide +kernel
theorem dX12_oddOf_2 : decode cX12_oddOf 2 = .ok (.iconst 0, 1) := by decide +kernel
theorem dX12_oddOf_3 : decode cX12_oddOf 3 = .ok (.iconst 0, 1) := by decide +kernel
theorem dX12_oddOf_4 : decode cX12_oddOf 4 = .ok (.iconst (-1), 1) := by decide +kernel
theorem dX12_oddOf_5 : decode cX12_oddOf 5 = .ok (.invokevirtual 152, 3) := by decide +kernel
theorem dX12_oddOf_8 : decode cX12_oddOf 8 = .ok (.iconst 0, 1) := by decide +kernel
theorem dX12_oddOf_9 : decode cX12_oddOf 9 = .ok (.istore_n 2, 1) := by decide +kernel
theorem dX12_oddOf_10 : decode cX12_oddOf 10 = .ok (.iload_n 2, 1) := by decide +kernel
theorem dX12_oddOf_11 : decode cX12_oddOf 11 = .ok (.aload_n 0, 1) := by decide +kernel
theorem dX12_oddOf_12 : decode cX12_oddOf 12 = .ok (.getfield 146, 3) := by decide +kernel
theorem dX12_oddOf_15 : decode cX12_oddOf 15 = .ok (.if_icmp .ge 70, 3) := by decide +kernel
theorem dX12_oddOf_18 : decode cX12_oddOf 18 = .ok (.aload_n 0, 1) := by decide +kernel
theorem dX12_oddOf_19 : decode cX12_oddOf 19 = .ok (.getfield 32, 3) := by decide +kernel
theorem dX12_oddOf_22 : decode cX12_oddOf 22 = .ok (.iload_n 2, 1) := by decide +kernel
theorem dX12_oddOf_23 : decode cX12_oddOf 23 = .ok (.iaload, 1) := by decide +kernel
theorem dX12_oddOf_24 : decode cX12_oddOf 24 = .ok (.istore_n 3, 1) := by decide +kernel
theorem dX12_oddOf_25 : decode cX12_oddOf 25 = .ok (.aload_n 0, 1) := by decide +kernel
theorem dX12_oddOf_26 : decode cX12_oddOf 26 = .ok (.getfield 22, 3) := by decide +kernel
theorem dX12_oddOf_29 : decode cX12_oddOf 29 = .ok (.iload_n 3, 1) := by decide +kernel
theorem dX12_oddOf_30 : decode cX12_oddOf 30 = .ok (.baload, 1) := by decide +kernel
theorem dX12_oddOf_31 : decode cX12_oddOf 31 = .ok (.ifCond .ne 48, 3) := by decide +kernel
theorem dX12_oddOf_34 : decode cX12_oddOf 34 = .ok (.aload_n 0, 1) := by decide +kernel
theorem dX12_oddOf_35 : decode cX12_oddOf 35 = .ok (.getfield 56, 3) := by decide +kernel
theorem dX12_oddOf_38 : decode cX12_oddOf 38 = .ok (.aload_n 0, 1) := by decide +kernel
theorem dX12_oddOf_39 : decode cX12_oddOf 39 = .ok (.getfield 13, 3) := by decide +kernel
theorem dX12_oddOf_42 : decode cX12_oddOf 42 = .ok (.iload_n 3, 1) := by decide +kernel
theorem dX12_oddOf_43 : decode cX12_oddOf 43 = .ok (.iaload, 1) := by decide +kernel
theorem dX12_oddOf_44 : decode cX12_oddOf 44 = .ok (.baload, 1) := by decide +kernel
theorem dX12_oddOf_45 : decode cX12_oddOf 45 = .ok (.ifCond .eq 34, 3) := by decide +kernel
theorem dX12_oddOf_48 : decode cX12_oddOf 48 = .ok (.aload_n 0, 1) := by decide +kernel
theorem dX12_oddOf_49 : decode cX12_oddOf 49 = .ok (.getfield 65, 3) := by decide +kernel
theorem dX12_oddOf_52 : decode cX12_oddOf 52 = .ok (.aload_n 0, 1) := by decide +kernel
theorem dX12_oddOf_53 : decode cX12_oddOf 53 = .ok (.getfield 13, 3) := by decide +kernel
theorem dX12_oddOf_56 : decode cX12_oddOf 56 = .ok (.iload_n 3, 1) := by decide +kernel
theorem dX12_oddOf_57 : decode cX12_oddOf 57 = .ok (.iaload, 1) := by decide +kernel
theorem dX12_oddOf_58 : decode cX12_oddOf 58 = .ok (.iaload, 1) := by decide +kernel
theorem dX12_oddOf_59 : decode cX12_oddOf 59 = .ok (.iconst 2, 1) := by decide +kernel
theorem dX12_oddOf_60 : decode cX12_oddOf 60 = .ok (.irem, 1) := by decide +kernel
theorem dX12_oddOf_61 : decode cX12_oddOf 61 = .ok (.aload_n 0, 1) := by decide +kernel
theorem dX12_oddOf_62 : decode cX12_oddOf 62 = .ok (.getfield 65, 3) := by decide +kernel
theorem dX12_oddOf_65 : decode cX12_oddOf 65 = .ok (.aload_n 0, 1) := by decide +kernel
theorem dX12_oddOf_66 : decode cX12_oddOf 66 = .ok (.getfield 16, 3) := by decide +kernel
theorem dX12_oddOf_69 : decode cX12_oddOf 69 = .ok (.iload_n 3, 1) := by decide +kernel
theorem dX12_oddOf_70 : decode cX12_oddOf 70 = .ok (.iaload, 1) := by decide +kernel
theorem dX12_oddOf_71 : decode cX12_oddOf 71 = .ok (.iaload, 1) := by decide +kernel
theorem dX12_oddOf_72 : decode cX12_oddOf 72 = .ok (.iconst 2, 1) := by decide +kernel
theorem dX12_oddOf_73 : decode cX12_oddOf 73 = .ok (.irem, 1) := by decide +kernel
theorem dX12_oddOf_74 : decode cX12_oddOf 74 = .ok (.if_icmp .ne 5, 3) := by decide +kernel
theorem dX12_oddOf_77 : decode cX12_oddOf 77 = .ok (.iload_n 3, 1) := by decide +kernel
theorem dX12_oddOf_78 : decode cX12_oddOf 78 = .ok (.ireturn, 1) := by decide +kernel
theorem dX12_oddOf_79 : decode cX12_oddOf 79 = .ok (.iinc 2 1, 3) := by decide +kernel
theorem dX12_oddOf_82 : decode cX12_oddOf 82 = .ok (.goto (-72), 3) := by decide +kernel
theorem dX12_oddOf_85 : decode cX12_oddOf 85 = .ok (.iconst (-1), 1) := by decide +kernel
theorem dX12_oddOf_86 : decode cX12_oddOf 86 = .ok (.ireturn, 1) := by decide +kernel
theorem dX12_strongOf_0 : decode cX12_strongOf 0 = .ok (.aload_n 0, 1) := by decide +kernel
theorem dX12_strongOf_1 : decode cX12_strongOf 1 = .ok (.iload_n 1, 1) := by decide +kernel
theorem dX12_strongOf_2 : decode cX12_strongOf 2 = .ok (.iconst 2, 1) := by decide +kernel
theorem dX12_strongOf_3 : decode cX12_strongOf 3 = .ok (.iconst 0, 1) := by decide +kernel
theorem dX12_strongOf_4 : decode cX12_strongOf 4 = .ok (.iconst (-1), 1) := by decide +kernel
theorem dX12_strongOf_5 : decode cX12_strongOf 5 = .ok (.invokevirtual 152, 3) := by decide +kernel
theorem dX12_strongOf_8 : decode cX12_strongOf 8 = .ok (.iconst 0, 1) := by decide +kernel
theorem dX12_strongOf_9 : decode cX12_strongOf 9 = .ok (.istore_n 2, 1) := by decide +kernel
theorem dX12_strongOf_10 : decode cX12_strongOf 10 = .ok (.iload_n 2, 1) := by decide +kernel
theorem dX12_strongOf_11 : decode cX12_strongOf 11 = .ok (.aload_n 0, 1) := by decide +kernel
theorem dX12_strongOf_12 : decode cX12_strongOf 12 = .ok (.getfield 140, 3) := by decide +kernel
theorem dX12_strongOf_15 : decode cX12_strongOf 15 = .ok (.if_icmp .ge 21, 3) := by decide +kernel
theorem dX12_strongOf_18 : decode cX12_strongOf 18 = .ok (.aload_n 0, 1) := by decide +kernel
theorem dX12_strongOf_19 : decode cX12_strongOf 19 = .ok (.getfield 83, 3) := by decide +kernel
theorem dX12_strongOf_22 : decode cX12_strongOf 22 = .ok (.iload_n 2, 1) := by decide +kernel
theorem dX12_strongOf_23 : decode cX12_strongOf 23 = .ok (.aload_n 0, 1) := by decide +kernel
theorem dX12_strongOf_24 : decode cX12_strongOf 24 = .ok (.getfield 56, 3) := by decide +kernel
theorem dX12_strongOf_27 : decode cX12_strongOf 27 = .ok (.iload_n 2, 1) := by decide +kernel
theorem dX12_strongOf_28 : decode cX12_strongOf 28 = .ok (.baload, 1) := by decide +kernel
theorem dX12_strongOf_29 : decode cX12_strongOf 29 = .ok (.bastore, 1) := by decide +kernel
theorem dX12_strongOf_30 : decode cX12_strongOf 30 = .ok (.iinc 2 1, 3) := by decide +kernel
theorem dX12_strongOf_33 : decode cX12_strongOf 33 = .ok (.goto (-23), 3) := by decide +kernel
theorem dX12_strongOf_36 : decode cX12_strongOf 36 = .ok (.aload_n 0, 1) := by decide +kernel
theorem dX12_strongOf_37 : decode cX12_strongOf 37 = .ok (.iload_n 1, 1) := by decide +kernel
theorem dX12_strongOf_38 : decode cX12_strongOf 38 = .ok (.iconst 3, 1) := by decide +kernel
theorem dX12_strongOf_39 : decode cX12_strongOf 39 = .ok (.iconst 0, 1) := by decide +kernel
theorem dX12_strongOf_40 : decode cX12_strongOf 40 = .ok (.iconst (-1), 1) := by decide +kernel
theorem dX12_strongOf_41 : decode cX12_strongOf 41 = .ok (.invokevirtual 152, 3) := by decide +kernel
theorem dX12_strongOf_44 : decode cX12_strongOf 44 = .ok (.iconst 0, 1) := by decide +kernel
theorem dX12_strongOf_45 : decode cX12_strongOf 45 = .ok (.istore_n 2, 1) := by decide +kernel
theorem dX12_strongOf_46 : decode cX12_strongOf 46 = .ok (.iload_n 2, 1) := by decide +kernel
theorem dX12_strongOf_47 : decode cX12_strongOf 47 = .ok (.aload_n 0, 1) := by decide +kernel
theorem dX12_strongOf_48 : decode cX12_strongOf 48 = .ok (.getfield 140, 3) := by decide +kernel
theorem dX12_strongOf_51 : decode cX12_strongOf 51 = .ok (.if_icmp .ge 29, 3) := by decide +kernel
theorem dX12_strongOf_54 : decode cX12_strongOf 54 = .ok (.aload_n 0, 1) := by decide +kernel
theorem dX12_strongOf_55 : decode cX12_strongOf 55 = .ok (.getfield 83, 3) := by decide +kernel
theorem dX12_strongOf_58 : decode cX12_strongOf 58 = .ok (.iload_n 2, 1) := by decide +kernel
theorem dX12_strongOf_59 : decode cX12_strongOf 59 = .ok (.baload, 1) := by decide +kernel
theorem dX12_strongOf_60 : decode cX12_strongOf 60 = .ok (.ifCond .eq 14, 3) := by decide +kernel
theorem dX12_strongOf_63 : decode cX12_strongOf 63 = .ok (.aload_n 0, 1) := by decide +kernel
theorem dX12_strongOf_64 : decode cX12_strongOf 64 = .ok (.getfield 56, 3) := by decide +kernel
theorem dX12_strongOf_67 : decode cX12_strongOf 67 = .ok (.iload_n 2, 1) := by decide +kernel
theorem dX12_strongOf_68 : decode cX12_strongOf 68 = .ok (.baload, 1) := by decide +kernel
theorem dX12_strongOf_69 : decode cX12_strongOf 69 = .ok (.ifCond .eq 5, 3) := by decide +kernel
theorem dX12_strongOf_72 : decode cX12_strongOf 72 = .ok (.iload_n 2, 1) := by decide +kernel
theorem dX12_strongOf_73 : decode cX12_strongOf 73 = .ok (.ireturn, 1) := by decide +kernel
theorem dX12_strongOf_74 : decode cX12_strongOf 74 = .ok (.iinc 2 1, 3) := by decide +kernel
theorem dX12_strongOf_77 : decode cX12_strongOf 77 = .ok (.goto (-31), 3) := by decide +kernel
theorem dX12_strongOf_80 : decode cX12_strongOf 80 = .ok (.iconst (-1), 1) := by decide +kernel
theorem dX12_strongOf_81 : decode cX12_strongOf 81 = .ok (.ireturn, 1) := by decide +kernel
theorem dX12_of_0 : decode cX12_of 0 = .ok (.aload_n 0, 1) := by decide +kernel
theorem dX12_of_1 : decode cX12_of 1 = .ok (.iconst 0, 1) := by decide +kernel
theorem dX12_of_2 : decode cX12_of 2 = .ok (.putfield 136, 3) := by decide +kernel
theorem dX12_of_5 : decode cX12_of 5 = .ok (.aload_n 0, 1) := by decide +kernel
theorem dX12_of_6 : decode cX12_of 6 = .ok (.iload_n 1, 1) := by decide +kernel
theorem dX12_of_7 : decode cX12_of 7 = .ok (.invokevirtual 176, 3) := by decide +kernel
theorem dX12_of_10 : decode cX12_of 10 = .ok (.ifCond .ne 9, 3) := by decide +kernel
theorem dX12_of_13 : decode cX12_of 13 = .ok (.aload_n 0, 1) := by decide +kernel
theorem dX12_of_14 : decode cX12_of 14 = .ok (.iconst 1, 1) := by decide +kernel
theorem dX12_of_15 : decode cX12_of 15 = .ok (.invokevirtual 164, 3) := by decide +kernel
theorem dX12_of_18 : decode cX12_of 18 = .ok (.ireturn, 1) := by decide +kernel
theorem dX12_of_19 : decode cX12_of 19 = .ok (.iload_n 2, 1) := by decide +kernel
theorem dX12_of_20 : decode cX12_of 20 = .ok (.ifCond .lt 9, 3) := by decide +kernel
theorem dX12_of_23 : decode cX12_of 23 = .ok (.iload_n 2, 1) := by decide +kernel
theorem dX12_of_24 : decode cX12_of 24 = .ok (.bipush 8, 2) := by decide +kernel
theorem dX12_of_26 : decode cX12_of 26 = .ok (.if_icmp .le 9, 3) := by decide +kernel
theorem dX12_of_29 : decode cX12_of 29 = .ok (.aload_n 0, 1) := by decide +kernel
theorem dX12_of_30 : decode cX12_of 30 = .ok (.iconst 2, 1) := by decide +kernel
theorem dX12_of_31 : decode cX12_of 31 = .ok (.invokevirtual 164, 3) := by decide +kernel
theorem dX12_of_34 : decode cX12_of 34 = .ok (.ireturn, 1) := by decide +kernel
theorem dX12_of_35 : decode cX12_of 35 = .ok (.iload_n 2, 1) := by decide +kernel
theorem dX12_of_36 : decode cX12_of 36 = .ok (.tableswitch 136 0 7 #[48, 55, 61, 67, 74, 85, 104, 115], 48) := by decide +kernel
theorem dX12_of_84 : decode cX12_of 84 = .ok (.aload_n 0, 1) := by decide +kernel
theorem dX12_of_85 : decode cX12_of 85 = .ok (.getfield 7, 3) := by decide +kernel
theorem dX12_of_88 : decode cX12_of 88 = .ok (.iload_n 1, 1) := by decide +kernel
theorem dX12_of_89 : decode cX12_of 89 = .ok (.iaload, 1) := by decide +kernel
theorem dX12_of_90 : decode cX12_of 90 = .ok (.ireturn, 1) := by decide +kernel
theorem dX12_of_91 : decode cX12_of 91 = .ok (.aload_n 0, 1) := by decide +kernel
theorem dX12_of_92 : decode cX12_of 92 = .ok (.iload_n 1, 1) := by decide +kernel
theorem dX12_of_93 : decode cX12_of 93 = .ok (.invokevirtual 160, 3) := by decide +kernel
theorem dX12_of_96 : decode cX12_of 96 = .ok (.ireturn, 1) := by decide +kernel
theorem dX12_of_97 : decode cX12_of 97 = .ok (.aload_n 0, 1) := by decide +kernel
theorem dX12_of_98 : decode cX12_of 98 = .ok (.iload_n 1, 1) := by decide +kernel
theorem dX12_of_99 : decode cX12_of 99 = .ok (.invokevirtual 218, 3) := by decide +kernel
theorem dX12_of_102 : decode cX12_of 102 = .ok (.ireturn, 1) := by decide +kernel
theorem dX12_of_103 : decode cX12_of 103 = .ok (.aload_n 0, 1) := by decide +kernel
theorem dX12_of_104 : decode cX12_of 104 = .ok (.getfield 38, 3) := by decide +kernel
theorem dX12_of_107 : decode cX12_of 107 = .ok (.iload_n 1, 1) := by decide +kernel
theorem dX12_of_108 : decode cX12_of 108 = .ok (.iaload, 1) := by decide +kernel
theorem dX12_of_109 : decode cX12_of 109 = .ok (.ireturn, 1) := by decide +kernel
theorem dX12_of_110 : decode cX12_of 110 = .ok (.aload_n 0, 1) := by decide +kernel
theorem dX12_of_111 : decode cX12_of 111 = .ok (.invokevirtual 221, 3) := by decide +kernel
theorem dX12_of_114 : decode cX12_of 114 = .ok (.aload_n 0, 1) := by decide +kernel
theorem dX12_of_115 : decode cX12_of 115 = .ok (.getfield 108, 3) := by decide +kernel
theorem dX12_of_118 : decode cX12_of 118 = .ok (.iload_n 1, 1) := by decide +kernel
theorem dX12_of_119 : decode cX12_of 119 = .ok (.iaload, 1) := by decide +kernel
theorem dX12_of_120 : decode cX12_of 120 = .ok (.ireturn, 1) := by decide +kernel
theorem dX12_of_121 : decode cX12_of 121 = .ok (.aload_n 0, 1) := by decide +kernel
theorem dX12_of_122 : decode cX12_of 122 = .ok (.invokevirtual 212, 3) := by decide +kernel
theorem dX12_of_125 : decode cX12_of 125 = .ok (.aload_n 0, 1) := by decide +kernel
theorem dX12_of_126 : decode cX12_of 126 = .ok (.getfield 99, 3) := by decide +kernel
theorem dX12_of_129 : decode cX12_of 129 = .ok (.iload_n 1, 1) := by decide +kernel
theorem dX12_of_130 : decode cX12_of 130 = .ok (.baload, 1) := by decide +kernel
theorem dX12_of_131 : decode cX12_of 131 = .ok (.ifCond .eq 7, 3) := by decide +kernel
theorem dX12_of_134 : decode cX12_of 134 = .ok (.iconst 1, 1) := by decide +kernel
theorem dX12_of_135 : decode cX12_of 135 = .ok (.goto 4, 3) := by decide +kernel
theorem dX12_of_138 : decode cX12_of 138 = .ok (.iconst 0, 1) := by decide +kernel
theorem dX12_of_139 : decode cX12_of 139 = .ok (.ireturn, 1) := by decide +kernel
theorem dX12_of_140 : decode cX12_of 140 = .ok (.aload_n 0, 1) := by decide +kernel
theorem dX12_of_141 : decode cX12_of 141 = .ok (.invokevirtual 209, 3) := by decide +kernel
theorem dX12_of_144 : decode cX12_of 144 = .ok (.aload_n 0, 1) := by decide +kernel
theorem dX12_of_145 : decode cX12_of 145 = .ok (.getfield 96, 3) := by decide +kernel
theorem dX12_of_148 : decode cX12_of 148 = .ok (.iload_n 1, 1) := by decide +kernel
theorem dX12_of_149 : decode cX12_of 149 = .ok (.iaload, 1) := by decide +kernel
theorem dX12_of_150 : decode cX12_of 150 = .ok (.ireturn, 1) := by decide +kernel
theorem dX12_of_151 : decode cX12_of 151 = .ok (.aload_n 0, 1) := by decide +kernel
theorem dX12_of_152 : decode cX12_of 152 = .ok (.iload_n 1, 1) := by decide +kernel
theorem dX12_of_153 : decode cX12_of 153 = .ok (.invokevirtual 160, 3) := by decide +kernel
theorem dX12_of_156 : decode cX12_of 156 = .ok (.istore_n 3, 1) := by decide +kernel
theorem dX12_of_157 : decode cX12_of 157 = .ok (.aload_n 0, 1) := by decide +kernel
theorem dX12_of_158 : decode cX12_of 158 = .ok (.iload_n 1, 1) := by decide +kernel
theorem dX12_of_159 : decode cX12_of 159 = .ok (.iconst 0, 1) := by decide +kernel
theorem dX12_of_160 : decode cX12_of 160 = .ok (.iconst 0, 1) := by decide +kernel
theorem dX12_of_161 : decode cX12_of 161 = .ok (.iconst (-1), 1) := by decide +kernel
theorem dX12_of_162 : decode cX12_of 162 = .ok (.invokevirtual 152, 3) := by decide +kernel
theorem dX12_of_165 : decode cX12_of 165 = .ok (.aload_n 0, 1) := by decide +kernel
theorem dX12_of_166 : decode cX12_of 166 = .ok (.getfield 65, 3) := by decide +kernel
theorem dX12_of_169 : decode cX12_of 169 = .ok (.iload_n 3, 1) := by decide +kernel
theorem dX12_of_170 : decode cX12_of 170 = .ok (.iaload, 1) := by decide +kernel
theorem dX12_of_171 : decode cX12_of 171 = .ok (.ireturn, 1) := by decide +kernel
theorem dX12_of_172 : decode cX12_of 172 = .ok (.aload_n 0, 1) := by decide +kernel
theorem dX12_of_173 : decode cX12_of 173 = .ok (.iload_n 1, 1) := by decide +kernel
theorem dX12_of_174 : decode cX12_of 174 = .ok (.invokevirtual 224, 3) := by decide +kernel
theorem dX12_of_177 : decode cX12_of 177 = .ok (.iconst (-1), 1) := by decide +kernel
theorem dX12_of_178 : decode cX12_of 178 = .ok (.if_icmp .ne 7, 3) := by decide +kernel
theorem dX12_of_181 : decode cX12_of 181 = .ok (.iconst 1, 1) := by decide +kernel
theorem dX12_of_182 : decode cX12_of 182 = .ok (.goto 4, 3) := by decide +kernel
theorem dX12_of_185 : decode cX12_of 185 = .ok (.iconst 0, 1) := by decide +kernel
theorem dX12_of_186 : decode cX12_of 186 = .ok (.ireturn, 1) := by decide +kernel
theorem dX12_arc_0 : decode cX12_arc 0 = .ok (.aload_n 0, 1) := by decide +kernel
theorem dX12_arc_1 : decode cX12_arc 1 = .ok (.iconst 0, 1) := by decide +kernel
theorem dX12_arc_2 : decode cX12_arc 2 = .ok (.putfield 136, 3) := by decide +kernel
theorem dX12_arc_5 : decode cX12_arc 5 = .ok (.aload_n 0, 1) := by decide +kernel
theorem dX12_arc_6 : decode cX12_arc 6 = .ok (.iload_n 1, 1) := by decide +kernel
theorem dX12_arc_7 : decode cX12_arc 7 = .ok (.invokevirtual 200, 3) := by decide +kernel
theorem dX12_arc_10 : decode cX12_arc 10 = .ok (.ifCond .ne 9, 3) := by decide +kernel
theorem dX12_arc_13 : decode cX12_arc 13 = .ok (.aload_n 0, 1) := by decide +kernel
theorem dX12_arc_14 : decode cX12_arc 14 = .ok (.iconst 1, 1) := by decide +kernel
theorem dX12_arc_15 : decode cX12_arc 15 = .ok (.invokevirtual 164, 3) := by decide +kernel
theorem dX12_arc_18 : decode cX12_arc 18 = .ok (.ireturn, 1) := by decide +kernel
theorem dX12_arc_19 : decode cX12_arc 19 = .ok (.iload_n 2, 1) := by decide +kernel
theorem dX12_arc_20 : decode cX12_arc 20 = .ok (.ifCond .lt 9, 3) := by decide +kernel
theorem dX12_arc_23 : decode cX12_arc 23 = .ok (.iload_n 2, 1) := by decide +kernel
theorem dX12_arc_24 : decode cX12_arc 24 = .ok (.bipush 6, 2) := by decide +kernel
theorem dX12_arc_26 : decode cX12_arc 26 = .ok (.if_icmp .le 9, 3) := by decide +kernel
theorem dX12_arc_29 : decode cX12_arc 29 = .ok (.aload_n 0, 1) := by decide +kernel
theorem dX12_arc_30 : decode cX12_arc 30 = .ok (.iconst 2, 1) := by decide +kernel
theorem dX12_arc_31 : decode cX12_arc 31 = .ok (.invokevirtual 164, 3) := by decide +kernel
theorem dX12_arc_34 : decode cX12_arc 34 = .ok (.ireturn, 1) := by decide +kernel
theorem dX12_arc_35 : decode cX12_arc 35 = .ok (.iload_n 2, 1) := by decide +kernel
theorem dX12_arc_36 : decode cX12_arc 36 = .ok (.iconst 3, 1) := by decide +kernel
theorem dX12_arc_37 : decode cX12_arc 37 = .ok (.if_icmp .ne 12, 3) := by decide +kernel
theorem dX12_arc_40 : decode cX12_arc 40 = .ok (.aload_n 0, 1) := by decide +kernel
theorem dX12_arc_41 : decode cX12_arc 41 = .ok (.getfield 22, 3) := by decide +kernel
theorem dX12_arc_44 : decode cX12_arc 44 = .ok (.iload_n 1, 1) := by decide +kernel
theorem dX12_arc_45 : decode cX12_arc 45 = .ok (.baload, 1) := by decide +kernel
theorem dX12_arc_46 : decode cX12_arc 46 = .ok (.goto 49, 3) := by decide +kernel
theorem dX12_arc_49 : decode cX12_arc 49 = .ok (.iload_n 2, 1) := by decide +kernel
theorem dX12_arc_50 : decode cX12_arc 50 = .ok (.iconst 4, 1) := by decide +kernel
theorem dX12_arc_51 : decode cX12_arc 51 = .ok (.if_icmp .ne 11, 3) := by decide +kernel
theorem dX12_arc_54 : decode cX12_arc 54 = .ok (.aload_n 0, 1) := by decide +kernel
theorem dX12_arc_55 : decode cX12_arc 55 = .ok (.iload_n 1, 1) := by decide +kernel
theorem dX12_arc_56 : decode cX12_arc 56 = .ok (.invokevirtual 227, 3) := by decide +kernel
theorem dX12_arc_59 : decode cX12_arc 59 = .ok (.goto 36, 3) := by decide +kernel
theorem dX12_arc_62 : decode cX12_arc 62 = .ok (.iload_n 2, 1) := by decide +kernel
theorem dX12_arc_63 : decode cX12_arc 63 = .ok (.iconst 5, 1) := by decide +kernel
theorem dX12_arc_64 : decode cX12_arc 64 = .ok (.if_icmp .ne 11, 3) := by decide +kernel
theorem dX12_arc_67 : decode cX12_arc 67 = .ok (.aload_n 0, 1) := by decide +kernel
theorem dX12_arc_68 : decode cX12_arc 68 = .ok (.iload_n 1, 1) := by decide +kernel
theorem dX12_arc_69 : decode cX12_arc 69 = .ok (.invokevirtual 230, 3) := by decide +kernel
theorem dX12_arc_72 : decode cX12_arc 72 = .ok (.goto 23, 3) := by decide +kernel
theorem dX12_arc_75 : decode cX12_arc 75 = .ok (.iload_n 2, 1) := by decide +kernel
theorem dX12_arc_76 : decode cX12_arc 76 = .ok (.bipush 6, 2) := by decide +kernel
theorem dX12_arc_78 : decode cX12_arc 78 = .ok (.if_icmp .ne 16, 3) := by decide +kernel
theorem dX12_arc_81 : decode cX12_arc 81 = .ok (.aload_n 0, 1) := by decide +kernel
theorem dX12_arc_82 : decode cX12_arc 82 = .ok (.getfield 26, 3) := by decide +kernel
theorem dX12_arc_85 : decode cX12_arc 85 = .ok (.iload_n 1, 1) := by decide +kernel
theorem dX12_arc_86 : decode cX12_arc 86 = .ok (.baload, 1) := by decide +kernel
theorem dX12_arc_87 : decode cX12_arc 87 = .ok (.ifCond .eq 7, 3) := by decide +kernel
theorem dX12_arc_90 : decode cX12_arc 90 = .ok (.iconst 1, 1) := by decide +kernel
theorem dX12_arc_91 : decode cX12_arc 91 = .ok (.goto 4, 3) := by decide +kernel
theorem dX12_arc_94 : decode cX12_arc 94 = .ok (.iconst 0, 1) := by decide +kernel
theorem dX12_arc_95 : decode cX12_arc 95 = .ok (.istore_n 3, 1) := by decide +kernel
theorem dX12_arc_96 : decode cX12_arc 96 = .ok (.iload_n 2, 1) := by decide +kernel
theorem dX12_arc_97 : decode cX12_arc 97 = .ok (.ifCond .ne 12, 3) := by decide +kernel
theorem dX12_arc_100 : decode cX12_arc 100 = .ok (.aload_n 0, 1) := by decide +kernel
theorem dX12_arc_101 : decode cX12_arc 101 = .ok (.getfield 13, 3) := by decide +kernel
theorem dX12_arc_104 : decode cX12_arc 104 = .ok (.iload_n 1, 1) := by decide +kernel
theorem dX12_arc_105 : decode cX12_arc 105 = .ok (.iaload, 1) := by decide +kernel
theorem dX12_arc_106 : decode cX12_arc 106 = .ok (.goto 40, 3) := by decide +kernel
theorem dX12_arc_109 : decode cX12_arc 109 = .ok (.iload_n 2, 1) := by decide +kernel
theorem dX12_arc_110 : decode cX12_arc 110 = .ok (.iconst 1, 1) := by decide +kernel
theorem dX12_arc_111 : decode cX12_arc 111 = .ok (.if_icmp .ne 12, 3) := by decide +kernel
theorem dX12_arc_114 : decode cX12_arc 114 = .ok (.aload_n 0, 1) := by decide +kernel
theorem dX12_arc_115 : decode cX12_arc 115 = .ok (.getfield 16, 3) := by decide +kernel
theorem dX12_arc_118 : decode cX12_arc 118 = .ok (.iload_n 1, 1) := by decide +kernel
theorem dX12_arc_119 : decode cX12_arc 119 = .ok (.iaload, 1) := by decide +kernel
theorem dX12_arc_120 : decode cX12_arc 120 = .ok (.goto 26, 3) := by decide +kernel
theorem dX12_arc_123 : decode cX12_arc 123 = .ok (.iload_n 2, 1) := by decide +kernel
theorem dX12_arc_124 : decode cX12_arc 124 = .ok (.iconst 2, 1) := by decide +kernel
theorem dX12_arc_125 : decode cX12_arc 125 = .ok (.if_icmp .ne 12, 3) := by decide +kernel
theorem dX12_arc_128 : decode cX12_arc 128 = .ok (.aload_n 0, 1) := by decide +kernel
theorem dX12_arc_129 : decode cX12_arc 129 = .ok (.getfield 19, 3) := by decide +kernel
theorem dX12_arc_132 : decode cX12_arc 132 = .ok (.iload_n 1, 1) := by decide +kernel
theorem dX12_arc_133 : decode cX12_arc 133 = .ok (.iaload, 1) := by decide +kernel
theorem dX12_arc_134 : decode cX12_arc 134 = .ok (.goto 12, 3) := by decide +kernel
theorem dX12_arc_137 : decode cX12_arc 137 = .ok (.iload_n 3, 1) := by decide +kernel
theorem dX12_arc_138 : decode cX12_arc 138 = .ok (.ifCond .eq 7, 3) := by decide +kernel
theorem dX12_arc_141 : decode cX12_arc 141 = .ok (.iconst 1, 1) := by decide +kernel
theorem dX12_arc_142 : decode cX12_arc 142 = .ok (.goto 4, 3) := by decide +kernel
theorem dX12_arc_145 : decode cX12_arc 145 = .ok (.iconst 0, 1) := by decide +kernel
theorem dX12_arc_146 : decode cX12_arc 146 = .ok (.ireturn, 1) := by decide +kernel
theorem dX12_order_0 : decode cX12_order 0 = .ok (.aload_n 0, 1) := by decide +kernel
theorem dX12_order_1 : decode cX12_order 1 = .ok (.iconst 0, 1) := by decide +kernel
theorem dX12_order_2 : decode cX12_order 2 = .ok (.putfield 136, 3) := by decide +kernel
theorem dX12_order_5 : decode cX12_order 5 = .ok (.aload_n 0, 1) := by decide +kernel
theorem dX12_order_6 : decode cX12_order 6 = .ok (.iload_n 1, 1) := by decide +kernel
theorem dX12_order_7 : decode cX12_order 7 = .ok (.invokevirtual 176, 3) := by decide +kernel
theorem dX12_order_10 : decode cX12_order 10 = .ok (.ifCond .eq 12, 3) := by decide +kernel
theorem dX12_order_13 : decode cX12_order 13 = .ok (.aload_n 0, 1) := by decide +kernel
theorem dX12_order_14 : decode cX12_order 14 = .ok (.getfield 35, 3) := by decide +kernel
theorem dX12_order_17 : decode cX12_order 17 = .ok (.iload_n 1, 1) := by decide +kernel
theorem dX12_order_18 : decode cX12_order 18 = .ok (.iaload, 1) := by decide +kernel
theorem dX12_order_19 : decode cX12_order 19 = .ok (.goto 8, 3) := by decide +kernel
theorem dX12_order_22 : decode cX12_order 22 = .ok (.aload_n 0, 1) := by decide +kernel
theorem dX12_order_23 : decode cX12_order 23 = .ok (.iconst 1, 1) := by decide +kernel
theorem dX12_order_24 : decode cX12_order 24 = .ok (.invokevirtual 164, 3) := by decide +kernel
theorem dX12_order_27 : decode cX12_order 27 = .ok (.ireturn, 1) := by decide +kernel
theorem dX12_odd_0 : decode cX12_odd 0 = .ok (.aload_n 0, 1) := by decide +kernel
theorem dX12_odd_1 : decode cX12_odd 1 = .ok (.iconst 0, 1) := by decide +kernel
theorem dX12_odd_2 : decode cX12_odd 2 = .ok (.putfield 136, 3) := by decide +kernel
theorem dX12_odd_5 : decode cX12_odd 5 = .ok (.aload_n 0, 1) := by decide +kernel
theorem dX12_odd_6 : decode cX12_odd 6 = .ok (.iload_n 1, 1) := by decide +kernel
theorem dX12_odd_7 : decode cX12_odd 7 = .ok (.invokevirtual 176, 3) := by decide +kernel
theorem dX12_odd_10 : decode cX12_odd 10 = .ok (.ifCond .eq 7, 3) := by decide +kernel
theorem dX12_odd_13 : decode cX12_odd 13 = .ok (.iload_n 2, 1) := by decide +kernel
theorem dX12_odd_14 : decode cX12_odd 14 = .ok (.ifCond .ge 9, 3) := by decide +kernel
theorem dX12_odd_17 : decode cX12_odd 17 = .ok (.aload_n 0, 1) := by decide +kernel
theorem dX12_odd_18 : decode cX12_odd 18 = .ok (.iconst 1, 1) := by decide +kernel
theorem dX12_odd_19 : decode cX12_odd 19 = .ok (.invokevirtual 164, 3) := by decide +kernel
theorem dX12_odd_22 : decode cX12_odd 22 = .ok (.ireturn, 1) := by decide +kernel
theorem dX12_odd_23 : decode cX12_odd 23 = .ok (.aload_n 0, 1) := by decide +kernel
theorem dX12_odd_24 : decode cX12_odd 24 = .ok (.iload_n 1, 1) := by decide +kernel
theorem dX12_odd_25 : decode cX12_odd 25 = .ok (.invokevirtual 224, 3) := by decide +kernel
theorem dX12_odd_28 : decode cX12_odd 28 = .ok (.istore_n 3, 1) := by decide +kernel
theorem dX12_odd_29 : decode cX12_odd 29 = .ok (.iload_n 3, 1) := by decide +kernel
theorem dX12_odd_30 : decode cX12_odd 30 = .ok (.iconst (-1), 1) := by decide +kernel
theorem dX12_odd_31 : decode cX12_odd 31 = .ok (.if_icmp .eq 7, 3) := by decide +kernel
theorem dX12_odd_34 : decode cX12_odd 34 = .ok (.iload_n 2, 1) := by decide +kernel
theorem dX12_odd_35 : decode cX12_odd 35 = .ok (.ifCond .ne 5, 3) := by decide +kernel
theorem dX12_odd_38 : decode cX12_odd 38 = .ok (.iload_n 3, 1) := by decide +kernel
theorem dX12_odd_39 : decode cX12_odd 39 = .ok (.ireturn, 1) := by decide +kernel
theorem dX12_odd_40 : decode cX12_odd 40 = .ok (.aload_n 0, 1) := by decide +kernel
theorem dX12_odd_41 : decode cX12_odd 41 = .ok (.aload_n 0, 1) := by decide +kernel
theorem dX12_odd_42 : decode cX12_odd 42 = .ok (.getfield 13, 3) := by decide +kernel
theorem dX12_odd_45 : decode cX12_odd 45 = .ok (.iload_n 3, 1) := by decide +kernel
theorem dX12_odd_46 : decode cX12_odd 46 = .ok (.iaload, 1) := by decide +kernel
theorem dX12_odd_47 : decode cX12_odd 47 = .ok (.iconst 0, 1) := by decide +kernel
theorem dX12_odd_48 : decode cX12_odd 48 = .ok (.iconst 0, 1) := by decide +kernel
theorem dX12_odd_49 : decode cX12_odd 49 = .ok (.iconst (-1), 1) := by decide +kernel
theorem dX12_odd_50 : decode cX12_odd 50 = .ok (.invokevirtual 152, 3) := by decide +kernel
theorem dX12_odd_53 : decode cX12_odd 53 = .ok (.aload_n 0, 1) := by decide +kernel
theorem dX12_odd_54 : decode cX12_odd 54 = .ok (.getfield 16, 3) := by decide +kernel
theorem dX12_odd_57 : decode cX12_odd 57 = .ok (.iload_n 3, 1) := by decide +kernel
theorem dX12_odd_58 : decode cX12_odd 58 = .ok (.iaload, 1) := by decide +kernel
theorem dX12_odd_59 : decode cX12_odd 59 = .ok (.istore 4, 2) := by decide +kernel
theorem dX12_odd_61 : decode cX12_odd 61 = .ok (.iconst 1, 1) := by decide +kernel
theorem dX12_odd_62 : decode cX12_odd 62 = .ok (.istore 5, 2) := by decide +kernel
theorem dX12_odd_64 : decode cX12_odd 64 = .ok (.iload 4, 2) := by decide +kernel
theorem dX12_odd_66 : decode cX12_odd 66 = .ok (.aload_n 0, 1) := by decide +kernel
theorem dX12_odd_67 : decode cX12_odd 67 = .ok (.getfield 13, 3) := by decide +kernel
theorem dX12_odd_70 : decode cX12_odd 70 = .ok (.iload_n 3, 1) := by decide +kernel
theorem dX12_odd_71 : decode cX12_odd 71 = .ok (.iaload, 1) := by decide +kernel
theorem dX12_odd_72 : decode cX12_odd 72 = .ok (.if_icmp .eq 38, 3) := by decide +kernel
theorem dX12_odd_75 : decode cX12_odd 75 = .ok (.iload 5, 2) := by decide +kernel
theorem dX12_odd_77 : decode cX12_odd 77 = .ok (.iload_n 2, 1) := by decide +kernel
theorem dX12_odd_78 : decode cX12_odd 78 = .ok (.if_icmp .ne 13, 3) := by decide +kernel
theorem dX12_odd_81 : decode cX12_odd 81 = .ok (.aload_n 0, 1) := by decide +kernel
theorem dX12_odd_82 : decode cX12_odd 82 = .ok (.getfield 62, 3) := by decide +kernel
theorem dX12_odd_85 : decode cX12_odd 85 = .ok (.iload 4, 2) := by decide +kernel
theorem dX12_odd_87 : decode cX12_odd 87 = .ok (.iaload, 1) := by decide +kernel
theorem dX12_odd_88 : decode cX12_odd 88 = .ok (.iconst 2, 1) := by decide +kernel
theorem dX12_odd_89 : decode cX12_odd 89 = .ok (.idiv, 1) := by decide +kernel
theorem dX12_odd_90 : decode cX12_odd 90 = .ok (.ireturn, 1) := by decide +kernel
theorem dX12_odd_91 : decode cX12_odd 91 = .ok (.aload_n 0, 1) := by decide +kernel
theorem dX12_odd_92 : decode cX12_odd 92 = .ok (.aload_n 0, 1) := by decide +kernel
theorem dX12_odd_93 : decode cX12_odd 93 = .ok (.getfield 62, 3) := by decide +kernel
theorem dX12_odd_96 : decode cX12_odd 96 = .ok (.iload 4, 2) := by decide +kernel
theorem dX12_odd_98 : decode cX12_odd 98 = .ok (.iaload, 1) := by decide +kernel
theorem dX12_odd_99 : decode cX12_odd 99 = .ok (.invokevirtual 215, 3) := by decide +kernel
theorem dX12_odd_102 : decode cX12_odd 102 = .ok (.istore 4, 2) := by decide +kernel
theorem dX12_odd_104 : decode cX12_odd 104 = .ok (.iinc 5 1, 3) := by decide +kernel
theorem dX12_odd_107 : decode cX12_odd 107 = .ok (.goto (-43), 3) := by decide +kernel
theorem dX12_odd_110 : decode cX12_odd 110 = .ok (.iconst (-1), 1) := by decide +kernel
theorem dX12_odd_111 : decode cX12_odd 111 = .ok (.ireturn, 1) := by decide +kernel
theorem dX12_ring_0 : decode cX12_ring 0 = .ok (.aload_n 0, 1) := by decide +kernel
theorem dX12_ring_1 : decode cX12_ring 1 = .ok (.iconst 0, 1) := by decide +kernel
theorem dX12_ring_2 : decode cX12_ring 2 = .ok (.putfield 136, 3) := by decide +kernel
theorem dX12_ring_5 : decode cX12_ring 5 = .ok (.iload_n 1, 1) := by decide +kernel
theorem dX12_ring_6 : decode cX12_ring 6 = .ok (.ifCond .ge 11, 3) := by decide +kernel
theorem dX12_ring_9 : decode cX12_ring 9 = .ok (.aload_n 0, 1) := by decide +kernel
theorem dX12_ring_10 : decode cX12_ring 10 = .ok (.iconst 1, 1) := by decide +kernel
theorem dX12_ring_11 : decode cX12_ring 11 = .ok (.invokevirtual 164, 3) := by decide +kernel
theorem dX12_ring_14 : decode cX12_ring 14 = .ok (.goto 21, 3) := by decide +kernel
theorem dX12_ring_17 : decode cX12_ring 17 = .ok (.iload_n 1, 1) := by decide +kernel
theorem dX12_ring_18 : decode cX12_ring 18 = .ok (.aload_n 0, 1) := by decide +kernel
theorem dX12_ring_19 : decode cX12_ring 19 = .ok (.getfield 197, 3) := by decide +kernel
theorem dX12_ring_22 : decode cX12_ring 22 = .ok (.if_icmp .ge 12, 3) := by decide +kernel
theorem dX12_ring_25 : decode cX12_ring 25 = .ok (.aload_n 0, 1) := by decide +kernel
theorem dX12_ring_26 : decode cX12_ring 26 = .ok (.getfield 41, 3) := by decide +kernel
theorem dX12_ring_29 : decode cX12_ring 29 = .ok (.iload_n 1, 1) := by decide +kernel
theorem dX12_ring_30 : decode cX12_ring 30 = .ok (.iaload, 1) := by decide +kernel
theorem dX12_ring_31 : decode cX12_ring 31 = .ok (.goto 4, 3) := by decide +kernel
theorem dX12_ring_34 : decode cX12_ring 34 = .ok (.iconst (-1), 1) := by decide +kernel
theorem dX12_ring_35 : decode cX12_ring 35 = .ok (.ireturn, 1) := by decide +kernel
theorem dX12_triangles_0 : decode cX12_triangles 0 = .ok (.aload_n 0, 1) := by decide +kernel
theorem dX12_triangles_1 : decode cX12_triangles 1 = .ok (.iconst 0, 1) := by decide +kernel
theorem dX12_triangles_2 : decode cX12_triangles 2 = .ok (.putfield 136, 3) := by decide +kernel
theorem dX12_triangles_5 : decode cX12_triangles 5 = .ok (.aload_n 0, 1) := by decide +kernel
theorem dX12_triangles_6 : decode cX12_triangles 6 = .ok (.invokevirtual 209, 3) := by decide +kernel
theorem dX12_triangles_9 : decode cX12_triangles 9 = .ok (.lconst 0, 1) := by decide +kernel
theorem dX12_triangles_10 : decode cX12_triangles 10 = .ok (.lstore_n 1, 1) := by decide +kernel
theorem dX12_triangles_11 : decode cX12_triangles 11 = .ok (.iconst 0, 1) := by decide +kernel
theorem dX12_triangles_12 : decode cX12_triangles 12 = .ok (.istore_n 3, 1) := by decide +kernel
theorem dX12_triangles_13 : decode cX12_triangles 13 = .ok (.iload_n 3, 1) := by decide +kernel
theorem dX12_triangles_14 : decode cX12_triangles 14 = .ok (.aload_n 0, 1) := by decide +kernel
theorem dX12_triangles_15 : decode cX12_triangles 15 = .ok (.getfield 140, 3) := by decide +kernel
theorem dX12_triangles_18 : decode cX12_triangles 18 = .ok (.if_icmp .ge 107, 3) := by decide +kernel
theorem dX12_triangles_21 : decode cX12_triangles 21 = .ok (.iload_n 3, 1) := by decide +kernel
theorem dX12_triangles_22 : decode cX12_triangles 22 = .ok (.iconst 1, 1) := by decide +kernel
theorem dX12_triangles_23 : decode cX12_triangles 23 = .ok (.iadd, 1) := by decide +kernel
theorem dX12_triangles_24 : decode cX12_triangles 24 = .ok (.istore 4, 2) := by decide +kernel
theorem dX12_triangles_26 : decode cX12_triangles 26 = .ok (.iload 4, 2) := by decide +kernel
theorem dX12_triangles_28 : decode cX12_triangles 28 = .ok (.aload_n 0, 1) := by decide +kernel
theorem dX12_triangles_29 : decode cX12_triangles 29 = .ok (.getfield 140, 3) := by decide +kernel
theorem dX12_triangles_32 : decode cX12_triangles 32 = .ok (.if_icmp .ge 87, 3) := by decide +kernel
theorem dX12_triangles_35 : decode cX12_triangles 35 = .ok (.iload 4, 2) := by decide +kernel
theorem dX12_triangles_37 : decode cX12_triangles 37 = .ok (.iconst 1, 1) := by decide +kernel
theorem dX12_triangles_38 : decode cX12_triangles 38 = .ok (.iadd, 1) := by decide +kernel
theorem dX12_triangles_39 : decode cX12_triangles 39 = .ok (.istore 5, 2) := by decide +kernel
theorem dX12_triangles_41 : decode cX12_triangles 41 = .ok (.iload 5, 2) := by decide +kernel
theorem dX12_triangles_43 : decode cX12_triangles 43 = .ok (.aload_n 0, 1) := by decide +kernel
theorem dX12_triangles_44 : decode cX12_triangles 44 = .ok (.getfield 140, 3) := by decide +kernel
theorem dX12_triangles_47 : decode cX12_triangles 47 = .ok (.if_icmp .ge 66, 3) := by decide +kernel
theorem dX12_triangles_50 : decode cX12_triangles 50 = .ok (.aload_n 0, 1) := by decide +kernel
theorem dX12_triangles_51 : decode cX12_triangles 51 = .ok (.getfield 93, 3) := by decide +kernel
theorem dX12_triangles_54 : decode cX12_triangles 54 = .ok (.sipush 300, 3) := by decide +kernel
theorem dX12_triangles_57 : decode cX12_triangles 57 = .ok (.iload_n 3, 1) := by decide +kernel
theorem dX12_triangles_58 : decode cX12_triangles 58 = .ok (.imul, 1) := by decide +kernel
theorem dX12_triangles_59 : decode cX12_triangles 59 = .ok (.iload 4, 2) := by decide +kernel
theorem dX12_triangles_61 : decode cX12_triangles 61 = .ok (.iadd, 1) := by decide +kernel
theorem dX12_triangles_62 : decode cX12_triangles 62 = .ok (.baload, 1) := by decide +kernel
theorem dX12_triangles_63 : decode cX12_triangles 63 = .ok (.ifCond .eq 50, 3) := by decide +kernel
theorem dX12_triangles_66 : decode cX12_triangles 66 = .ok (.lload_n 1, 1) := by decide +kernel
theorem dX12_triangles_67 : decode cX12_triangles 67 = .ok (.aload_n 0, 1) := by decide +kernel
theorem dX12_triangles_68 : decode cX12_triangles 68 = .ok (.getfield 93, 3) := by decide +kernel
theorem dX12_triangles_71 : decode cX12_triangles 71 = .ok (.sipush 300, 3) := by decide +kernel
theorem dX12_triangles_74 : decode cX12_triangles 74 = .ok (.iload_n 3, 1) := by decide +kernel
theorem dX12_triangles_75 : decode cX12_triangles 75 = .ok (.imul, 1) := by decide +kernel
theorem dX12_triangles_76 : decode cX12_triangles 76 = .ok (.iload 5, 2) := by decide +kernel
theorem dX12_triangles_78 : decode cX12_triangles 78 = .ok (.iadd, 1) := by decide +kernel
theorem dX12_triangles_79 : decode cX12_triangles 79 = .ok (.baload, 1) := by decide +kernel
theorem dX12_triangles_80 : decode cX12_triangles 80 = .ok (.ifCond .eq 24, 3) := by decide +kernel
theorem dX12_triangles_83 : decode cX12_triangles 83 = .ok (.aload_n 0, 1) := by decide +kernel
theorem dX12_triangles_84 : decode cX12_triangles 84 = .ok (.getfield 93, 3) := by decide +kernel
theorem dX12_triangles_87 : decode cX12_triangles 87 = .ok (.sipush 300, 3) := by decide +kernel
theorem dX12_triangles_90 : decode cX12_triangles 90 = .ok (.iload 4, 2) := by decide +kernel
theorem dX12_triangles_92 : decode cX12_triangles 92 = .ok (.imul, 1) := by decide +kernel
theorem dX12_triangles_93 : decode cX12_triangles 93 = .ok (.iload 5, 2) := by decide +kernel
theorem dX12_triangles_95 : decode cX12_triangles 95 = .ok (.iadd, 1) := by decide +kernel
theorem dX12_triangles_96 : decode cX12_triangles 96 = .ok (.baload, 1) := by decide +kernel
theorem dX12_triangles_97 : decode cX12_triangles 97 = .ok (.ifCond .eq 7, 3) := by decide +kernel
theorem dX12_triangles_100 : decode cX12_triangles 100 = .ok (.lconst 1, 1) := by decide +kernel
theorem dX12_triangles_101 : decode cX12_triangles 101 = .ok (.goto 4, 3) := by decide +kernel
theorem dX12_triangles_104 : decode cX12_triangles 104 = .ok (.lconst 0, 1) := by decide +kernel
theorem dX12_triangles_105 : decode cX12_triangles 105 = .ok (.ladd, 1) := by decide +kernel
theorem dX12_triangles_106 : decode cX12_triangles 106 = .ok (.lstore_n 1, 1) := by decide +kernel
theorem dX12_triangles_107 : decode cX12_triangles 107 = .ok (.iinc 5 1, 3) := by decide +kernel
theorem dX12_triangles_110 : decode cX12_triangles 110 = .ok (.goto (-69), 3) := by decide +kernel
theorem dX12_triangles_113 : decode cX12_triangles 113 = .ok (.iinc 4 1, 3) := by decide +kernel
theorem dX12_triangles_116 : decode cX12_triangles 116 = .ok (.goto (-90), 3) := by decide +kernel
theorem dX12_triangles_119 : decode cX12_triangles 119 = .ok (.iinc 3 1, 3) := by decide +kernel
theorem dX12_triangles_122 : decode cX12_triangles 122 = .ok (.goto (-109), 3) := by decide +kernel
theorem dX12_triangles_125 : decode cX12_triangles 125 = .ok (.lload_n 1, 1) := by decide +kernel
theorem dX12_triangles_126 : decode cX12_triangles 126 = .ok (.lreturn, 1) := by decide +kernel
theorem dX12_planPut_0 : decode cX12_planPut 0 = .ok (.aload_n 0, 1) := by decide +kernel
theorem dX12_planPut_1 : decode cX12_planPut 1 = .ok (.iconst 0, 1) := by decide +kernel
theorem dX12_planPut_2 : decode cX12_planPut 2 = .ok (.putfield 136, 3) := by decide +kernel
theorem dX12_planPut_5 : decode cX12_planPut 5 = .ok (.aload_n 0, 1) := by decide +kernel
theorem dX12_planPut_6 : decode cX12_planPut 6 = .ok (.iload_n 1, 1) := by decide +kernel
theorem dX12_planPut_7 : decode cX12_planPut 7 = .ok (.invokevirtual 176, 3) := by decide +kernel
theorem dX12_planPut_10 : decode cX12_planPut 10 = .ok (.ifCond .eq 11, 3) := by decide +kernel
theorem dX12_planPut_13 : decode cX12_planPut 13 = .ok (.aload_n 0, 1) := by decide +kernel
theorem dX12_planPut_14 : decode cX12_planPut 14 = .ok (.iload_n 2, 1) := by decide +kernel
theorem dX12_planPut_15 : decode cX12_planPut 15 = .ok (.invokevirtual 176, 3) := by decide +kernel
theorem dX12_planPut_18 : decode cX12_planPut 18 = .ok (.ifCond .ne 9, 3) := by decide +kernel
theorem dX12_planPut_21 : decode cX12_planPut 21 = .ok (.aload_n 0, 1) := by decide +kernel
theorem dX12_planPut_22 : decode cX12_planPut 22 = .ok (.iconst 1, 1) := by decide +kernel
theorem dX12_planPut_23 : decode cX12_planPut 23 = .ok (.invokevirtual 164, 3) := by decide +kernel
theorem dX12_planPut_26 : decode cX12_planPut 26 = .ok (.ireturn, 1) := by decide +kernel
theorem dX12_planPut_27 : decode cX12_planPut 27 = .ok (.aload_n 0, 1) := by decide +kernel
theorem dX12_planPut_28 : decode cX12_planPut 28 = .ok (.getfield 167, 3) := by decide +kernel
theorem dX12_planPut_31 : decode cX12_planPut 31 = .ok (.bipush 60, 2) := by decide +kernel
theorem dX12_planPut_33 : decode cX12_planPut 33 = .ok (.if_icmp .ne 9, 3) := by decide +kernel
theorem dX12_planPut_36 : decode cX12_planPut 36 = .ok (.aload_n 0, 1) := by decide +kernel
theorem dX12_planPut_37 : decode cX12_planPut 37 = .ok (.iconst 2, 1) := by decide +kernel
theorem dX12_planPut_38 : decode cX12_planPut 38 = .ok (.invokevirtual 164, 3) := by decide +kernel
theorem dX12_planPut_41 : decode cX12_planPut 41 = .ok (.ireturn, 1) := by decide +kernel
theorem dX12_planPut_42 : decode cX12_planPut 42 = .ok (.aload_n 0, 1) := by decide +kernel
theorem dX12_planPut_43 : decode cX12_planPut 43 = .ok (.getfield 44, 3) := by decide +kernel
theorem dX12_planPut_46 : decode cX12_planPut 46 = .ok (.aload_n 0, 1) := by decide +kernel
theorem dX12_planPut_47 : decode cX12_planPut 47 = .ok (.getfield 167, 3) := by decide +kernel
theorem dX12_planPut_50 : decode cX12_planPut 50 = .ok (.iconst 1, 1) := by decide +kernel
theorem dX12_planPut_51 : decode cX12_planPut 51 = .ok (.bastore, 1) := by decide +kernel
theorem dX12_planPut_52 : decode cX12_planPut 52 = .ok (.aload_n 0, 1) := by decide +kernel
theorem dX12_planPut_53 : decode cX12_planPut 53 = .ok (.getfield 47, 3) := by decide +kernel
theorem dX12_planPut_56 : decode cX12_planPut 56 = .ok (.aload_n 0, 1) := by decide +kernel
theorem dX12_planPut_57 : decode cX12_planPut 57 = .ok (.getfield 167, 3) := by decide +kernel
theorem dX12_planPut_60 : decode cX12_planPut 60 = .ok (.iload_n 1, 1) := by decide +kernel
theorem dX12_planPut_61 : decode cX12_planPut 61 = .ok (.iastore, 1) := by decide +kernel
theorem dX12_planPut_62 : decode cX12_planPut 62 = .ok (.aload_n 0, 1) := by decide +kernel
theorem dX12_planPut_63 : decode cX12_planPut 63 = .ok (.getfield 50, 3) := by decide +kernel
theorem dX12_planPut_66 : decode cX12_planPut 66 = .ok (.aload_n 0, 1) := by decide +kernel
theorem dX12_planPut_67 : decode cX12_planPut 67 = .ok (.getfield 167, 3) := by decide +kernel
theorem dX12_planPut_70 : decode cX12_planPut 70 = .ok (.iload_n 2, 1) := by decide +kernel
theorem dX12_planPut_71 : decode cX12_planPut 71 = .ok (.iastore, 1) := by decide +kernel
theorem dX12_planPut_72 : decode cX12_planPut 72 = .ok (.aload_n 0, 1) := by decide +kernel
theorem dX12_planPut_73 : decode cX12_planPut 73 = .ok (.dup, 1) := by decide +kernel
theorem dX12_planPut_74 : decode cX12_planPut 74 = .ok (.getfield 167, 3) := by decide +kernel
theorem dX12_planPut_77 : decode cX12_planPut 77 = .ok (.iconst 1, 1) := by decide +kernel
theorem dX12_planPut_78 : decode cX12_planPut 78 = .ok (.iadd, 1) := by decide +kernel
theorem dX12_planPut_79 : decode cX12_planPut 79 = .ok (.putfield 167, 3) := by decide +kernel
theorem dX12_planPut_82 : decode cX12_planPut 82 = .ok (.aload_n 0, 1) := by decide +kernel
theorem dX12_planPut_83 : decode cX12_planPut 83 = .ok (.getfield 167, 3) := by decide +kernel
theorem dX12_planPut_86 : decode cX12_planPut 86 = .ok (.iconst 1, 1) := by decide +kernel
theorem dX12_planPut_87 : decode cX12_planPut 87 = .ok (.isub, 1) := by decide +kernel
theorem dX12_planPut_88 : decode cX12_planPut 88 = .ok (.ireturn, 1) := by decide +kernel
theorem dX12_planTake_0 : decode cX12_planTake 0 = .ok (.aload_n 0, 1) := by decide +kernel
theorem dX12_planTake_1 : decode cX12_planTake 1 = .ok (.iconst 0, 1) := by decide +kernel
theorem dX12_planTake_2 : decode cX12_planTake 2 = .ok (.putfield 136, 3) := by decide +kernel
theorem dX12_planTake_5 : decode cX12_planTake 5 = .ok (.iload_n 1, 1) := by decide +kernel
theorem dX12_planTake_6 : decode cX12_planTake 6 = .ok (.ifCond .lt 14, 3) := by decide +kernel
theorem dX12_planTake_9 : decode cX12_planTake 9 = .ok (.aload_n 0, 1) := by decide +kernel
theorem dX12_planTake_10 : decode cX12_planTake 10 = .ok (.iload_n 1, 1) := by decide +kernel
theorem dX12_planTake_11 : decode cX12_planTake 11 = .ok (.invokevirtual 200, 3) := by decide +kernel
theorem dX12_planTake_14 : decode cX12_planTake 14 = .ok (.ifCond .ne 33, 3) := by decide +kernel
theorem dX12_planTake_17 : decode cX12_planTake 17 = .ok (.goto 24, 3) := by decide +kernel
theorem dX12_planTake_20 : decode cX12_planTake 20 = .ok (.iconst (-1), 1) := by decide +kernel
theorem dX12_planTake_21 : decode cX12_planTake 21 = .ok (.iload_n 1, 1) := by decide +kernel
theorem dX12_planTake_22 : decode cX12_planTake 22 = .ok (.isub, 1) := by decide +kernel
theorem dX12_planTake_23 : decode cX12_planTake 23 = .ok (.aload_n 0, 1) := by decide +kernel
theorem dX12_planTake_24 : decode cX12_planTake 24 = .ok (.getfield 167, 3) := by decide +kernel
theorem dX12_planTake_27 : decode cX12_planTake 27 = .ok (.if_icmp .ge 14, 3) := by decide +kernel
theorem dX12_planTake_30 : decode cX12_planTake 30 = .ok (.aload_n 0, 1) := by decide +kernel
theorem dX12_planTake_31 : decode cX12_planTake 31 = .ok (.getfield 44, 3) := by decide +kernel
theorem dX12_planTake_34 : decode cX12_planTake 34 = .ok (.iconst (-1), 1) := by decide +kernel
theorem dX12_planTake_35 : decode cX12_planTake 35 = .ok (.iload_n 1, 1) := by decide +kernel
theorem dX12_planTake_36 : decode cX12_planTake 36 = .ok (.isub, 1) := by decide +kernel
theorem dX12_planTake_37 : decode cX12_planTake 37 = .ok (.baload, 1) := by decide +kernel
theorem dX12_planTake_38 : decode cX12_planTake 38 = .ok (.ifCond .ne 9, 3) := by decide +kernel
theorem dX12_planTake_41 : decode cX12_planTake 41 = .ok (.aload_n 0, 1) := by decide +kernel
theorem dX12_planTake_42 : decode cX12_planTake 42 = .ok (.iconst 1, 1) := by decide +kernel
theorem dX12_planTake_43 : decode cX12_planTake 43 = .ok (.invokevirtual 164, 3) := by decide +kernel
theorem dX12_planTake_46 : decode cX12_planTake 46 = .ok (.ireturn, 1) := by decide +kernel
theorem dX12_planTake_47 : decode cX12_planTake 47 = .ok (.aload_n 0, 1) := by decide +kernel
theorem dX12_planTake_48 : decode cX12_planTake 48 = .ok (.iload_n 1, 1) := by decide +kernel
theorem dX12_planTake_49 : decode cX12_planTake 49 = .ok (.aload_n 0, 1) := by decide +kernel
theorem dX12_planTake_50 : decode cX12_planTake 50 = .ok (.getfield 167, 3) := by decide +kernel
theorem dX12_planTake_53 : decode cX12_planTake 53 = .ok (.invokevirtual 233, 3) := by decide +kernel
theorem dX12_planTake_56 : decode cX12_planTake 56 = .ok (.ifCond .eq 9, 3) := by decide +kernel
theorem dX12_planTake_59 : decode cX12_planTake 59 = .ok (.aload_n 0, 1) := by decide +kernel
theorem dX12_planTake_60 : decode cX12_planTake 60 = .ok (.iconst 2, 1) := by decide +kernel
theorem dX12_planTake_61 : decode cX12_planTake 61 = .ok (.invokevirtual 164, 3) := by decide +kernel
