theorem dX8_isDigit_24 : decode cX8_isDigit 24 = .ok (.ifCond .eq 7, 3) := by decide +kernel
theorem dX8_isDigit_27 : decode cX8_isDigit 27 = .ok (.iconst 1, 1) := by decide +kernel
theorem dX8_isDigit_28 : decode cX8_isDigit 28 = .ok (.goto 4, 3) := by decide +kernel
theorem dX8_isDigit_31 : decode cX8_isDigit 31 = .ok (.iconst 0, 1) := by decide +kernel
theorem dX8_isDigit_32 : decode cX8_isDigit 32 = .ok (.ireturn, 1) := by decide +kernel
theorem dX8_nextToken_0 : decode cX8_nextToken 0 = .ok (.aload_n 0, 1) := by decide +kernel
theorem dX8_nextToken_1 : decode cX8_nextToken 1 = .ok (.getfield 206, 3) := by decide +kernel
theorem dX8_nextToken_4 : decode cX8_nextToken 4 = .ok (.ifCond .le 23, 3) := by decide +kernel
theorem dX8_nextToken_7 : decode cX8_nextToken 7 = .ok (.aload_n 0, 1) := by decide +kernel
theorem dX8_nextToken_8 : decode cX8_nextToken 8 = .ok (.getfield 209, 3) := by decide +kernel
theorem dX8_nextToken_11 : decode cX8_nextToken 11 = .ok (.iconst 1, 1) := by decide +kernel
theorem dX8_nextToken_12 : decode cX8_nextToken 12 = .ok (.if_icmp .eq 11, 3) := by decide +kernel
theorem dX8_nextToken_15 : decode cX8_nextToken 15 = .ok (.aload_n 0, 1) := by decide +kernel
theorem dX8_nextToken_16 : decode cX8_nextToken 16 = .ok (.getfield 209, 3) := by decide +kernel
theorem dX8_nextToken_19 : decode cX8_nextToken 19 = .ok (.iconst 2, 1) := by decide +kernel
theorem dX8_nextToken_20 : decode cX8_nextToken 20 = .ok (.if_icmp .ne 7, 3) := by decide +kernel
theorem dX8_nextToken_23 : decode cX8_nextToken 23 = .ok (.iconst 1, 1) := by decide +kernel
theorem dX8_nextToken_24 : decode cX8_nextToken 24 = .ok (.goto 4, 3) := by decide +kernel
theorem dX8_nextToken_27 : decode cX8_nextToken 27 = .ok (.iconst 0, 1) := by decide +kernel
theorem dX8_nextToken_28 : decode cX8_nextToken 28 = .ok (.istore_n 1, 1) := by decide +kernel
theorem dX8_nextToken_29 : decode cX8_nextToken 29 = .ok (.aload_n 0, 1) := by decide +kernel
theorem dX8_nextToken_30 : decode cX8_nextToken 30 = .ok (.getfield 206, 3) := by decide +kernel
theorem dX8_nextToken_33 : decode cX8_nextToken 33 = .ok (.istore_n 2, 1) := by decide +kernel
theorem dX8_nextToken_34 : decode cX8_nextToken 34 = .ok (.aload_n 0, 1) := by decide +kernel
theorem dX8_nextToken_35 : decode cX8_nextToken 35 = .ok (.getfield 206, 3) := by decide +kernel
theorem dX8_nextToken_38 : decode cX8_nextToken 38 = .ok (.aload_n 0, 1) := by decide +kernel
theorem dX8_nextToken_39 : decode cX8_nextToken 39 = .ok (.getfield 195, 3) := by decide +kernel
theorem dX8_nextToken_42 : decode cX8_nextToken 42 = .ok (.if_icmp .ge 30, 3) := by decide +kernel
theorem dX8_nextToken_45 : decode cX8_nextToken 45 = .ok (.aload_n 0, 1) := by decide +kernel
theorem dX8_nextToken_46 : decode cX8_nextToken 46 = .ok (.getfield 56, 3) := by decide +kernel
theorem dX8_nextToken_49 : decode cX8_nextToken 49 = .ok (.aload_n 0, 1) := by decide +kernel
theorem dX8_nextToken_50 : decode cX8_nextToken 50 = .ok (.getfield 206, 3) := by decide +kernel
theorem dX8_nextToken_53 : decode cX8_nextToken 53 = .ok (.iaload, 1) := by decide +kernel
theorem dX8_nextToken_54 : decode cX8_nextToken 54 = .ok (.bipush 32, 2) := by decide +kernel
theorem dX8_nextToken_56 : decode cX8_nextToken 56 = .ok (.if_icmp .ne 16, 3) := by decide +kernel
theorem dX8_nextToken_59 : decode cX8_nextToken 59 = .ok (.aload_n 0, 1) := by decide +kernel
theorem dX8_nextToken_60 : decode cX8_nextToken 60 = .ok (.dup, 1) := by decide +kernel
theorem dX8_nextToken_61 : decode cX8_nextToken 61 = .ok (.getfield 206, 3) := by decide +kernel
theorem dX8_nextToken_64 : decode cX8_nextToken 64 = .ok (.iconst 1, 1) := by decide +kernel
theorem dX8_nextToken_65 : decode cX8_nextToken 65 = .ok (.iadd, 1) := by decide +kernel
theorem dX8_nextToken_66 : decode cX8_nextToken 66 = .ok (.putfield 206, 3) := by decide +kernel
theorem dX8_nextToken_69 : decode cX8_nextToken 69 = .ok (.goto (-35), 3) := by decide +kernel
theorem dX8_nextToken_72 : decode cX8_nextToken 72 = .ok (.iload_n 1, 1) := by decide +kernel
theorem dX8_nextToken_73 : decode cX8_nextToken 73 = .ok (.ifCond .eq 15, 3) := by decide +kernel
theorem dX8_nextToken_76 : decode cX8_nextToken 76 = .ok (.iload_n 2, 1) := by decide +kernel
theorem dX8_nextToken_77 : decode cX8_nextToken 77 = .ok (.aload_n 0, 1) := by decide +kernel
theorem dX8_nextToken_78 : decode cX8_nextToken 78 = .ok (.getfield 206, 3) := by decide +kernel
theorem dX8_nextToken_81 : decode cX8_nextToken 81 = .ok (.if_icmp .ne 7, 3) := by decide +kernel
theorem dX8_nextToken_84 : decode cX8_nextToken 84 = .ok (.iconst 1, 1) := by decide +kernel
theorem dX8_nextToken_85 : decode cX8_nextToken 85 = .ok (.goto 4, 3) := by decide +kernel
theorem dX8_nextToken_88 : decode cX8_nextToken 88 = .ok (.iconst 0, 1) := by decide +kernel
theorem dX8_nextToken_89 : decode cX8_nextToken 89 = .ok (.istore_n 1, 1) := by decide +kernel
theorem dX8_nextToken_90 : decode cX8_nextToken 90 = .ok (.aload_n 0, 1) := by decide +kernel
theorem dX8_nextToken_91 : decode cX8_nextToken 91 = .ok (.aload_n 0, 1) := by decide +kernel
theorem dX8_nextToken_92 : decode cX8_nextToken 92 = .ok (.getfield 206, 3) := by decide +kernel
theorem dX8_nextToken_95 : decode cX8_nextToken 95 = .ok (.putfield 212, 3) := by decide +kernel
theorem dX8_nextToken_98 : decode cX8_nextToken 98 = .ok (.aload_n 0, 1) := by decide +kernel
theorem dX8_nextToken_99 : decode cX8_nextToken 99 = .ok (.getfield 212, 3) := by decide +kernel
theorem dX8_nextToken_102 : decode cX8_nextToken 102 = .ok (.aload_n 0, 1) := by decide +kernel
theorem dX8_nextToken_103 : decode cX8_nextToken 103 = .ok (.getfield 195, 3) := by decide +kernel
theorem dX8_nextToken_106 : decode cX8_nextToken 106 = .ok (.if_icmp .ne 11, 3) := by decide +kernel
theorem dX8_nextToken_109 : decode cX8_nextToken 109 = .ok (.aload_n 0, 1) := by decide +kernel
theorem dX8_nextToken_110 : decode cX8_nextToken 110 = .ok (.iconst 0, 1) := by decide +kernel
theorem dX8_nextToken_111 : decode cX8_nextToken 111 = .ok (.putfield 209, 3) := by decide +kernel
theorem dX8_nextToken_114 : decode cX8_nextToken 114 = .ok (.goto 225, 3) := by decide +kernel
theorem dX8_nextToken_117 : decode cX8_nextToken 117 = .ok (.aload_n 0, 1) := by decide +kernel
theorem dX8_nextToken_118 : decode cX8_nextToken 118 = .ok (.aload_n 0, 1) := by decide +kernel
theorem dX8_nextToken_119 : decode cX8_nextToken 119 = .ok (.getfield 212, 3) := by decide +kernel
theorem dX8_nextToken_122 : decode cX8_nextToken 122 = .ok (.invokevirtual 215, 3) := by decide +kernel
theorem dX8_nextToken_125 : decode cX8_nextToken 125 = .ok (.ifCond .eq 73, 3) := by decide +kernel
theorem dX8_nextToken_128 : decode cX8_nextToken 128 = .ok (.aload_n 0, 1) := by decide +kernel
theorem dX8_nextToken_129 : decode cX8_nextToken 129 = .ok (.aload_n 0, 1) := by decide +kernel
theorem dX8_nextToken_130 : decode cX8_nextToken 130 = .ok (.getfield 206, 3) := by decide +kernel
theorem dX8_nextToken_133 : decode cX8_nextToken 133 = .ok (.invokevirtual 215, 3) := by decide +kernel
theorem dX8_nextToken_136 : decode cX8_nextToken 136 = .ok (.ifCond .eq 16, 3) := by decide +kernel
theorem dX8_nextToken_139 : decode cX8_nextToken 139 = .ok (.aload_n 0, 1) := by decide +kernel
theorem dX8_nextToken_140 : decode cX8_nextToken 140 = .ok (.dup, 1) := by decide +kernel
theorem dX8_nextToken_141 : decode cX8_nextToken 141 = .ok (.getfield 206, 3) := by decide +kernel
theorem dX8_nextToken_144 : decode cX8_nextToken 144 = .ok (.iconst 1, 1) := by decide +kernel
theorem dX8_nextToken_145 : decode cX8_nextToken 145 = .ok (.iadd, 1) := by decide +kernel
theorem dX8_nextToken_146 : decode cX8_nextToken 146 = .ok (.putfield 206, 3) := by decide +kernel
theorem dX8_nextToken_149 : decode cX8_nextToken 149 = .ok (.goto (-21), 3) := by decide +kernel
theorem dX8_nextToken_152 : decode cX8_nextToken 152 = .ok (.aload_n 0, 1) := by decide +kernel
theorem dX8_nextToken_153 : decode cX8_nextToken 153 = .ok (.iload_n 1, 1) := by decide +kernel
theorem dX8_nextToken_154 : decode cX8_nextToken 154 = .ok (.ifCond .eq 7, 3) := by decide +kernel
theorem dX8_nextToken_157 : decode cX8_nextToken 157 = .ok (.iconst 4, 1) := by decide +kernel
theorem dX8_nextToken_158 : decode cX8_nextToken 158 = .ok (.goto 4, 3) := by decide +kernel
theorem dX8_nextToken_161 : decode cX8_nextToken 161 = .ok (.iconst 1, 1) := by decide +kernel
theorem dX8_nextToken_162 : decode cX8_nextToken 162 = .ok (.putfield 209, 3) := by decide +kernel
theorem dX8_nextToken_165 : decode cX8_nextToken 165 = .ok (.aload_n 0, 1) := by decide +kernel
theorem dX8_nextToken_166 : decode cX8_nextToken 166 = .ok (.aload_n 0, 1) := by decide +kernel
theorem dX8_nextToken_167 : decode cX8_nextToken 167 = .ok (.getfield 206, 3) := by decide +kernel
theorem dX8_nextToken_170 : decode cX8_nextToken 170 = .ok (.aload_n 0, 1) := by decide +kernel
theorem dX8_nextToken_171 : decode cX8_nextToken 171 = .ok (.getfield 212, 3) := by decide +kernel
theorem dX8_nextToken_174 : decode cX8_nextToken 174 = .ok (.isub, 1) := by decide +kernel
theorem dX8_nextToken_175 : decode cX8_nextToken 175 = .ok (.iconst 1, 1) := by decide +kernel
theorem dX8_nextToken_176 : decode cX8_nextToken 176 = .ok (.if_icmp .ne 15, 3) := by decide +kernel
theorem dX8_nextToken_179 : decode cX8_nextToken 179 = .ok (.aload_n 0, 1) := by decide +kernel
theorem dX8_nextToken_180 : decode cX8_nextToken 180 = .ok (.getfield 56, 3) := by decide +kernel
theorem dX8_nextToken_183 : decode cX8_nextToken 183 = .ok (.aload_n 0, 1) := by decide +kernel
theorem dX8_nextToken_184 : decode cX8_nextToken 184 = .ok (.getfield 212, 3) := by decide +kernel
theorem dX8_nextToken_187 : decode cX8_nextToken 187 = .ok (.iaload, 1) := by decide +kernel
theorem dX8_nextToken_188 : decode cX8_nextToken 188 = .ok (.goto 4, 3) := by decide +kernel
theorem dX8_nextToken_191 : decode cX8_nextToken 191 = .ok (.iconst 0, 1) := by decide +kernel
theorem dX8_nextToken_192 : decode cX8_nextToken 192 = .ok (.putfield 218, 3) := by decide +kernel
theorem dX8_nextToken_195 : decode cX8_nextToken 195 = .ok (.goto 144, 3) := by decide +kernel
theorem dX8_nextToken_198 : decode cX8_nextToken 198 = .ok (.aload_n 0, 1) := by decide +kernel
theorem dX8_nextToken_199 : decode cX8_nextToken 199 = .ok (.aload_n 0, 1) := by decide +kernel
theorem dX8_nextToken_200 : decode cX8_nextToken 200 = .ok (.getfield 212, 3) := by decide +kernel
theorem dX8_nextToken_203 : decode cX8_nextToken 203 = .ok (.invokevirtual 221, 3) := by decide +kernel
theorem dX8_nextToken_206 : decode cX8_nextToken 206 = .ok (.ifCond .eq 105, 3) := by decide +kernel
theorem dX8_nextToken_209 : decode cX8_nextToken 209 = .ok (.aload_n 0, 1) := by decide +kernel
theorem dX8_nextToken_210 : decode cX8_nextToken 210 = .ok (.iconst 0, 1) := by decide +kernel
theorem dX8_nextToken_211 : decode cX8_nextToken 211 = .ok (.putfield 224, 3) := by decide +kernel
theorem dX8_nextToken_214 : decode cX8_nextToken 214 = .ok (.aload_n 0, 1) := by decide +kernel
theorem dX8_nextToken_215 : decode cX8_nextToken 215 = .ok (.aload_n 0, 1) := by decide +kernel
theorem dX8_nextToken_216 : decode cX8_nextToken 216 = .ok (.getfield 206, 3) := by decide +kernel
theorem dX8_nextToken_219 : decode cX8_nextToken 219 = .ok (.invokevirtual 221, 3) := by decide +kernel
theorem dX8_nextToken_222 : decode cX8_nextToken 222 = .ok (.ifCond .eq 60, 3) := by decide +kernel
theorem dX8_nextToken_225 : decode cX8_nextToken 225 = .ok (.aload_n 0, 1) := by decide +kernel
theorem dX8_nextToken_226 : decode cX8_nextToken 226 = .ok (.aload_n 0, 1) := by decide +kernel
theorem dX8_nextToken_227 : decode cX8_nextToken 227 = .ok (.getfield 206, 3) := by decide +kernel
theorem dX8_nextToken_230 : decode cX8_nextToken 230 = .ok (.aload_n 0, 1) := by decide +kernel
theorem dX8_nextToken_231 : decode cX8_nextToken 231 = .ok (.getfield 212, 3) := by decide +kernel
theorem dX8_nextToken_234 : decode cX8_nextToken 234 = .ok (.isub, 1) := by decide +kernel
theorem dX8_nextToken_235 : decode cX8_nextToken 235 = .ok (.iconst 4, 1) := by decide +kernel
theorem dX8_nextToken_236 : decode cX8_nextToken 236 = .ok (.if_icmp .ge 26, 3) := by decide +kernel
theorem dX8_nextToken_239 : decode cX8_nextToken 239 = .ok (.bipush 10, 2) := by decide +kernel
theorem dX8_nextToken_241 : decode cX8_nextToken 241 = .ok (.aload_n 0, 1) := by decide +kernel
theorem dX8_nextToken_242 : decode cX8_nextToken 242 = .ok (.getfield 224, 3) := by decide +kernel
theorem dX8_nextToken_245 : decode cX8_nextToken 245 = .ok (.imul, 1) := by decide +kernel
theorem dX8_nextToken_246 : decode cX8_nextToken 246 = .ok (.aload_n 0, 1) := by decide +kernel
theorem dX8_nextToken_247 : decode cX8_nextToken 247 = .ok (.getfield 56, 3) := by decide +kernel
theorem dX8_nextToken_250 : decode cX8_nextToken 250 = .ok (.aload_n 0, 1) := by decide +kernel
theorem dX8_nextToken_251 : decode cX8_nextToken 251 = .ok (.getfield 206, 3) := by decide +kernel
theorem dX8_nextToken_254 : decode cX8_nextToken 254 = .ok (.iaload, 1) := by decide +kernel
theorem dX8_nextToken_255 : decode cX8_nextToken 255 = .ok (.iadd, 1) := by decide +kernel
theorem dX8_nextToken_256 : decode cX8_nextToken 256 = .ok (.bipush 48, 2) := by decide +kernel
theorem dX8_nextToken_258 : decode cX8_nextToken 258 = .ok (.isub, 1) := by decide +kernel
theorem dX8_nextToken_259 : decode cX8_nextToken 259 = .ok (.goto 7, 3) := by decide +kernel
theorem dX8_nextToken_262 : decode cX8_nextToken 262 = .ok (.aload_n 0, 1) := by decide +kernel
theorem dX8_nextToken_263 : decode cX8_nextToken 263 = .ok (.getfield 224, 3) := by decide +kernel
theorem dX8_nextToken_266 : decode cX8_nextToken 266 = .ok (.putfield 224, 3) := by decide +kernel
theorem dX8_nextToken_269 : decode cX8_nextToken 269 = .ok (.aload_n 0, 1) := by decide +kernel
theorem dX8_nextToken_270 : decode cX8_nextToken 270 = .ok (.dup, 1) := by decide +kernel
theorem dX8_nextToken_271 : decode cX8_nextToken 271 = .ok (.getfield 206, 3) := by decide +kernel
theorem dX8_nextToken_274 : decode cX8_nextToken 274 = .ok (.iconst 1, 1) := by decide +kernel
theorem dX8_nextToken_275 : decode cX8_nextToken 275 = .ok (.iadd, 1) := by decide +kernel
theorem dX8_nextToken_276 : decode cX8_nextToken 276 = .ok (.putfield 206, 3) := by decide +kernel
theorem dX8_nextToken_279 : decode cX8_nextToken 279 = .ok (.goto (-65), 3) := by decide +kernel
theorem dX8_nextToken_282 : decode cX8_nextToken 282 = .ok (.aload_n 0, 1) := by decide +kernel
theorem dX8_nextToken_283 : decode cX8_nextToken 283 = .ok (.iload_n 1, 1) := by decide +kernel
theorem dX8_nextToken_284 : decode cX8_nextToken 284 = .ok (.ifCond .ne 16, 3) := by decide +kernel
theorem dX8_nextToken_287 : decode cX8_nextToken 287 = .ok (.aload_n 0, 1) := by decide +kernel
theorem dX8_nextToken_288 : decode cX8_nextToken 288 = .ok (.getfield 206, 3) := by decide +kernel
theorem dX8_nextToken_291 : decode cX8_nextToken 291 = .ok (.aload_n 0, 1) := by decide +kernel
theorem dX8_nextToken_292 : decode cX8_nextToken 292 = .ok (.getfield 212, 3) := by decide +kernel
theorem dX8_nextToken_295 : decode cX8_nextToken 295 = .ok (.isub, 1) := by decide +kernel
theorem dX8_nextToken_296 : decode cX8_nextToken 296 = .ok (.iconst 4, 1) := by decide +kernel
theorem dX8_nextToken_297 : decode cX8_nextToken 297 = .ok (.if_icmp .le 7, 3) := by decide +kernel
theorem dX8_nextToken_300 : decode cX8_nextToken 300 = .ok (.iconst 4, 1) := by decide +kernel
theorem dX8_nextToken_301 : decode cX8_nextToken 301 = .ok (.goto 4, 3) := by decide +kernel
theorem dX8_nextToken_304 : decode cX8_nextToken 304 = .ok (.iconst 2, 1) := by decide +kernel
theorem dX8_nextToken_305 : decode cX8_nextToken 305 = .ok (.putfield 209, 3) := by decide +kernel
theorem dX8_nextToken_308 : decode cX8_nextToken 308 = .ok (.goto 31, 3) := by decide +kernel
theorem dX8_nextToken_311 : decode cX8_nextToken 311 = .ok (.aload_n 0, 1) := by decide +kernel
theorem dX8_nextToken_312 : decode cX8_nextToken 312 = .ok (.iconst 3, 1) := by decide +kernel
theorem dX8_nextToken_313 : decode cX8_nextToken 313 = .ok (.putfield 209, 3) := by decide +kernel
theorem dX8_nextToken_316 : decode cX8_nextToken 316 = .ok (.aload_n 0, 1) := by decide +kernel
theorem dX8_nextToken_317 : decode cX8_nextToken 317 = .ok (.aload_n 0, 1) := by decide +kernel
theorem dX8_nextToken_318 : decode cX8_nextToken 318 = .ok (.getfield 56, 3) := by decide +kernel
theorem dX8_nextToken_321 : decode cX8_nextToken 321 = .ok (.aload_n 0, 1) := by decide +kernel
theorem dX8_nextToken_322 : decode cX8_nextToken 322 = .ok (.getfield 212, 3) := by decide +kernel
theorem dX8_nextToken_325 : decode cX8_nextToken 325 = .ok (.iaload, 1) := by decide +kernel
theorem dX8_nextToken_326 : decode cX8_nextToken 326 = .ok (.putfield 218, 3) := by decide +kernel
theorem dX8_nextToken_329 : decode cX8_nextToken 329 = .ok (.aload_n 0, 1) := by decide +kernel
theorem dX8_nextToken_330 : decode cX8_nextToken 330 = .ok (.dup, 1) := by decide +kernel
theorem dX8_nextToken_331 : decode cX8_nextToken 331 = .ok (.getfield 206, 3) := by decide +kernel
theorem dX8_nextToken_334 : decode cX8_nextToken 334 = .ok (.iconst 1, 1) := by decide +kernel
theorem dX8_nextToken_335 : decode cX8_nextToken 335 = .ok (.iadd, 1) := by decide +kernel
theorem dX8_nextToken_336 : decode cX8_nextToken 336 = .ok (.putfield 206, 3) := by decide +kernel
theorem dX8_nextToken_339 : decode cX8_nextToken 339 = .ok (.return_, 1) := by decide +kernel
theorem dX8_isSign_0 : decode cX8_isSign 0 = .ok (.aload_n 0, 1) := by decide +kernel
theorem dX8_isSign_1 : decode cX8_isSign 1 = .ok (.getfield 209, 3) := by decide +kernel
theorem dX8_isSign_4 : decode cX8_isSign 4 = .ok (.iconst 3, 1) := by decide +kernel
theorem dX8_isSign_5 : decode cX8_isSign 5 = .ok (.if_icmp .ne 15, 3) := by decide +kernel
theorem dX8_isSign_8 : decode cX8_isSign 8 = .ok (.aload_n 0, 1) := by decide +kernel
theorem dX8_isSign_9 : decode cX8_isSign 9 = .ok (.getfield 218, 3) := by decide +kernel
theorem dX8_isSign_12 : decode cX8_isSign 12 = .ok (.iload_n 1, 1) := by decide +kernel
theorem dX8_isSign_13 : decode cX8_isSign 13 = .ok (.if_icmp .ne 7, 3) := by decide +kernel
theorem dX8_isSign_16 : decode cX8_isSign 16 = .ok (.iconst 1, 1) := by decide +kernel
theorem dX8_isSign_17 : decode cX8_isSign 17 = .ok (.goto 4, 3) := by decide +kernel
theorem dX8_isSign_20 : decode cX8_isSign 20 = .ok (.iconst 0, 1) := by decide +kernel
theorem dX8_isSign_21 : decode cX8_isSign 21 = .ok (.ireturn, 1) := by decide +kernel
theorem dX8_isWordAt_0 : decode cX8_isWordAt 0 = .ok (.iload 4, 2) := by decide +kernel
theorem dX8_isWordAt_2 : decode cX8_isWordAt 2 = .ok (.ifCond .ne 7, 3) := by decide +kernel
theorem dX8_isWordAt_5 : decode cX8_isWordAt 5 = .ok (.iconst 3, 1) := by decide +kernel
theorem dX8_isWordAt_6 : decode cX8_isWordAt 6 = .ok (.goto 4, 3) := by decide +kernel
theorem dX8_isWordAt_9 : decode cX8_isWordAt 9 = .ok (.iconst 4, 1) := by decide +kernel
theorem dX8_isWordAt_10 : decode cX8_isWordAt 10 = .ok (.istore 5, 2) := by decide +kernel
theorem dX8_isWordAt_12 : decode cX8_isWordAt 12 = .ok (.aload_n 0, 1) := by decide +kernel
theorem dX8_isWordAt_13 : decode cX8_isWordAt 13 = .ok (.getfield 209, 3) := by decide +kernel
theorem dX8_isWordAt_16 : decode cX8_isWordAt 16 = .ok (.iconst 1, 1) := by decide +kernel
theorem dX8_isWordAt_17 : decode cX8_isWordAt 17 = .ok (.if_icmp .ne 85, 3) := by decide +kernel
theorem dX8_isWordAt_20 : decode cX8_isWordAt 20 = .ok (.aload_n 0, 1) := by decide +kernel
theorem dX8_isWordAt_21 : decode cX8_isWordAt 21 = .ok (.getfield 206, 3) := by decide +kernel
theorem dX8_isWordAt_24 : decode cX8_isWordAt 24 = .ok (.aload_n 0, 1) := by decide +kernel
theorem dX8_isWordAt_25 : decode cX8_isWordAt 25 = .ok (.getfield 212, 3) := by decide +kernel
theorem dX8_isWordAt_28 : decode cX8_isWordAt 28 = .ok (.isub, 1) := by decide +kernel
theorem dX8_isWordAt_29 : decode cX8_isWordAt 29 = .ok (.iload 5, 2) := by decide +kernel
theorem dX8_isWordAt_31 : decode cX8_isWordAt 31 = .ok (.if_icmp .ne 71, 3) := by decide +kernel
theorem dX8_isWordAt_34 : decode cX8_isWordAt 34 = .ok (.aload_n 0, 1) := by decide +kernel
theorem dX8_isWordAt_35 : decode cX8_isWordAt 35 = .ok (.getfield 56, 3) := by decide +kernel
theorem dX8_isWordAt_38 : decode cX8_isWordAt 38 = .ok (.aload_n 0, 1) := by decide +kernel
theorem dX8_isWordAt_39 : decode cX8_isWordAt 39 = .ok (.getfield 212, 3) := by decide +kernel
theorem dX8_isWordAt_42 : decode cX8_isWordAt 42 = .ok (.iaload, 1) := by decide +kernel
theorem dX8_isWordAt_43 : decode cX8_isWordAt 43 = .ok (.iload_n 1, 1) := by decide +kernel
theorem dX8_isWordAt_44 : decode cX8_isWordAt 44 = .ok (.if_icmp .ne 58, 3) := by decide +kernel
theorem dX8_isWordAt_47 : decode cX8_isWordAt 47 = .ok (.aload_n 0, 1) := by decide +kernel
theorem dX8_isWordAt_48 : decode cX8_isWordAt 48 = .ok (.getfield 56, 3) := by decide +kernel
theorem dX8_isWordAt_51 : decode cX8_isWordAt 51 = .ok (.aload_n 0, 1) := by decide +kernel
theorem dX8_isWordAt_52 : decode cX8_isWordAt 52 = .ok (.getfield 212, 3) := by decide +kernel
theorem dX8_isWordAt_55 : decode cX8_isWordAt 55 = .ok (.iconst 1, 1) := by decide +kernel
theorem dX8_isWordAt_56 : decode cX8_isWordAt 56 = .ok (.iadd, 1) := by decide +kernel
theorem dX8_isWordAt_57 : decode cX8_isWordAt 57 = .ok (.iaload, 1) := by decide +kernel
theorem dX8_isWordAt_58 : decode cX8_isWordAt 58 = .ok (.iload_n 2, 1) := by decide +kernel
theorem dX8_isWordAt_59 : decode cX8_isWordAt 59 = .ok (.if_icmp .ne 43, 3) := by decide +kernel
theorem dX8_isWordAt_62 : decode cX8_isWordAt 62 = .ok (.aload_n 0, 1) := by decide +kernel
theorem dX8_isWordAt_63 : decode cX8_isWordAt 63 = .ok (.getfield 56, 3) := by decide +kernel
theorem dX8_isWordAt_66 : decode cX8_isWordAt 66 = .ok (.aload_n 0, 1) := by decide +kernel
theorem dX8_isWordAt_67 : decode cX8_isWordAt 67 = .ok (.getfield 212, 3) := by decide +kernel
theorem dX8_isWordAt_70 : decode cX8_isWordAt 70 = .ok (.iconst 2, 1) := by decide +kernel
theorem dX8_isWordAt_71 : decode cX8_isWordAt 71 = .ok (.iadd, 1) := by decide +kernel
theorem dX8_isWordAt_72 : decode cX8_isWordAt 72 = .ok (.iaload, 1) := by decide +kernel
theorem dX8_isWordAt_73 : decode cX8_isWordAt 73 = .ok (.iload_n 3, 1) := by decide +kernel
theorem dX8_isWordAt_74 : decode cX8_isWordAt 74 = .ok (.if_icmp .ne 28, 3) := by decide +kernel
theorem dX8_isWordAt_77 : decode cX8_isWordAt 77 = .ok (.iload 4, 2) := by decide +kernel
theorem dX8_isWordAt_79 : decode cX8_isWordAt 79 = .ok (.ifCond .eq 19, 3) := by decide +kernel
theorem dX8_isWordAt_82 : decode cX8_isWordAt 82 = .ok (.aload_n 0, 1) := by decide +kernel
theorem dX8_isWordAt_83 : decode cX8_isWordAt 83 = .ok (.getfield 56, 3) := by decide +kernel
theorem dX8_isWordAt_86 : decode cX8_isWordAt 86 = .ok (.aload_n 0, 1) := by decide +kernel
theorem dX8_isWordAt_87 : decode cX8_isWordAt 87 = .ok (.getfield 212, 3) := by decide +kernel
theorem dX8_isWordAt_90 : decode cX8_isWordAt 90 = .ok (.iconst 3, 1) := by decide +kernel
theorem dX8_isWordAt_91 : decode cX8_isWordAt 91 = .ok (.iadd, 1) := by decide +kernel
theorem dX8_isWordAt_92 : decode cX8_isWordAt 92 = .ok (.iaload, 1) := by decide +kernel
theorem dX8_isWordAt_93 : decode cX8_isWordAt 93 = .ok (.iload 4, 2) := by decide +kernel
theorem dX8_isWordAt_95 : decode cX8_isWordAt 95 = .ok (.if_icmp .ne 7, 3) := by decide +kernel
theorem dX8_isWordAt_98 : decode cX8_isWordAt 98 = .ok (.iconst 1, 1) := by decide +kernel
theorem dX8_isWordAt_99 : decode cX8_isWordAt 99 = .ok (.goto 4, 3) := by decide +kernel
theorem dX8_isWordAt_102 : decode cX8_isWordAt 102 = .ok (.iconst 0, 1) := by decide +kernel
theorem dX8_isWordAt_103 : decode cX8_isWordAt 103 = .ok (.ireturn, 1) := by decide +kernel
theorem dX8_key_0 : decode cX8_key 0 = .ok (.aload_n 0, 1) := by decide +kernel
theorem dX8_key_1 : decode cX8_key 1 = .ok (.bipush 114, 2) := by decide +kernel
theorem dX8_key_3 : decode cX8_key 3 = .ok (.bipush 105, 2) := by decide +kernel
theorem dX8_key_5 : decode cX8_key 5 = .ok (.bipush 115, 2) := by decide +kernel
theorem dX8_key_7 : decode cX8_key 7 = .ok (.bipush 101, 2) := by decide +kernel
theorem dX8_key_9 : decode cX8_key 9 = .ok (.invokevirtual 227, 3) := by decide +kernel
theorem dX8_key_12 : decode cX8_key 12 = .ok (.ifCond .eq 5, 3) := by decide +kernel
theorem dX8_key_15 : decode cX8_key 15 = .ok (.iconst 0, 1) := by decide +kernel
theorem dX8_key_16 : decode cX8_key 16 = .ok (.ireturn, 1) := by decide +kernel
theorem dX8_key_17 : decode cX8_key 17 = .ok (.aload_n 0, 1) := by decide +kernel
theorem dX8_key_18 : decode cX8_key 18 = .ok (.bipush 102, 2) := by decide +kernel
theorem dX8_key_20 : decode cX8_key 20 = .ok (.bipush 101, 2) := by decide +kernel
theorem dX8_key_22 : decode cX8_key 22 = .ok (.bipush 101, 2) := by decide +kernel
theorem dX8_key_24 : decode cX8_key 24 = .ok (.iconst 0, 1) := by decide +kernel
theorem dX8_key_25 : decode cX8_key 25 = .ok (.invokevirtual 227, 3) := by decide +kernel
theorem dX8_key_28 : decode cX8_key 28 = .ok (.ifCond .eq 5, 3) := by decide +kernel
theorem dX8_key_31 : decode cX8_key 31 = .ok (.iconst 1, 1) := by decide +kernel
theorem dX8_key_32 : decode cX8_key 32 = .ok (.ireturn, 1) := by decide +kernel
theorem dX8_key_33 : decode cX8_key 33 = .ok (.aload_n 0, 1) := by decide +kernel
theorem dX8_key_34 : decode cX8_key 34 = .ok (.bipush 102, 2) := by decide +kernel
theorem dX8_key_36 : decode cX8_key 36 = .ok (.bipush 105, 2) := by decide +kernel
theorem dX8_key_38 : decode cX8_key 38 = .ok (.bipush 110, 2) := by decide +kernel
theorem dX8_key_40 : decode cX8_key 40 = .ok (.bipush 101, 2) := by decide +kernel
theorem dX8_key_42 : decode cX8_key 42 = .ok (.invokevirtual 227, 3) := by decide +kernel
theorem dX8_key_45 : decode cX8_key 45 = .ok (.ifCond .eq 7, 3) := by decide +kernel
theorem dX8_key_48 : decode cX8_key 48 = .ok (.iconst 2, 1) := by decide +kernel
theorem dX8_key_49 : decode cX8_key 49 = .ok (.goto 4, 3) := by decide +kernel
theorem dX8_key_52 : decode cX8_key 52 = .ok (.iconst (-1), 1) := by decide +kernel
theorem dX8_key_53 : decode cX8_key 53 = .ok (.ireturn, 1) := by decide +kernel
theorem dX8_isName_0 : decode cX8_isName 0 = .ok (.iload_n 0, 1) := by decide +kernel
theorem dX8_isName_1 : decode cX8_isName 1 = .ok (.lookupswitch 69 #[(0, 27), (1, 51)], 27) := by decide +kernel
theorem dX8_isName_28 : decode cX8_isName 28 = .ok (.iload_n 1, 1) := by decide +kernel
theorem dX8_isName_29 : decode cX8_isName 29 = .ok (.bipush 116, 2) := by decide +kernel
theorem dX8_isName_31 : decode cX8_isName 31 = .ok (.if_icmp .eq 15, 3) := by decide +kernel
theorem dX8_isName_34 : decode cX8_isName 34 = .ok (.iload_n 1, 1) := by decide +kernel
theorem dX8_isName_35 : decode cX8_isName 35 = .ok (.bipush 100, 2) := by decide +kernel
theorem dX8_isName_37 : decode cX8_isName 37 = .ok (.if_icmp .eq 9, 3) := by decide +kernel
theorem dX8_isName_40 : decode cX8_isName 40 = .ok (.iload_n 1, 1) := by decide +kernel
theorem dX8_isName_41 : decode cX8_isName 41 = .ok (.bipush 109, 2) := by decide +kernel
theorem dX8_isName_43 : decode cX8_isName 43 = .ok (.if_icmp .ne 7, 3) := by decide +kernel
theorem dX8_isName_46 : decode cX8_isName 46 = .ok (.iconst 1, 1) := by decide +kernel
theorem dX8_isName_47 : decode cX8_isName 47 = .ok (.goto 4, 3) := by decide +kernel
theorem dX8_isName_50 : decode cX8_isName 50 = .ok (.iconst 0, 1) := by decide +kernel
theorem dX8_isName_51 : decode cX8_isName 51 = .ok (.ireturn, 1) := by decide +kernel
theorem dX8_isName_52 : decode cX8_isName 52 = .ok (.iload_n 1, 1) := by decide +kernel
theorem dX8_isName_53 : decode cX8_isName 53 = .ok (.bipush 109, 2) := by decide +kernel
theorem dX8_isName_55 : decode cX8_isName 55 = .ok (.if_icmp .eq 9, 3) := by decide +kernel
theorem dX8_isName_58 : decode cX8_isName 58 = .ok (.iload_n 1, 1) := by decide +kernel
theorem dX8_isName_59 : decode cX8_isName 59 = .ok (.bipush 106, 2) := by decide +kernel
theorem dX8_isName_61 : decode cX8_isName 61 = .ok (.if_icmp .ne 7, 3) := by decide +kernel
theorem dX8_isName_64 : decode cX8_isName 64 = .ok (.iconst 1, 1) := by decide +kernel
theorem dX8_isName_65 : decode cX8_isName 65 = .ok (.goto 4, 3) := by decide +kernel
theorem dX8_isName_68 : decode cX8_isName 68 = .ok (.iconst 0, 1) := by decide +kernel
theorem dX8_isName_69 : decode cX8_isName 69 = .ok (.ireturn, 1) := by decide +kernel
theorem dX8_isName_70 : decode cX8_isName 70 = .ok (.iload_n 1, 1) := by decide +kernel
theorem dX8_isName_71 : decode cX8_isName 71 = .ok (.bipush 116, 2) := by decide +kernel
theorem dX8_isName_73 : decode cX8_isName 73 = .ok (.if_icmp .eq 9, 3) := by decide +kernel
theorem dX8_isName_76 : decode cX8_isName 76 = .ok (.iload_n 1, 1) := by decide +kernel
theorem dX8_isName_77 : decode cX8_isName 77 = .ok (.bipush 112, 2) := by decide +kernel
theorem dX8_isName_79 : decode cX8_isName 79 = .ok (.if_icmp .ne 7, 3) := by decide +kernel
theorem dX8_isName_82 : decode cX8_isName 82 = .ok (.iconst 1, 1) := by decide +kernel
theorem dX8_isName_83 : decode cX8_isName 83 = .ok (.goto 4, 3) := by decide +kernel
theorem dX8_isName_86 : decode cX8_isName 86 = .ok (.iconst 0, 1) := by decide +kernel
theorem dX8_isName_87 : decode cX8_isName 87 = .ok (.ireturn, 1) := by decide +kernel
theorem dX8_step_0 : decode cX8_step 0 = .ok (.aload_n 0, 1) := by decide +kernel
theorem dX8_step_1 : decode cX8_step 1 = .ok (.getfield 7, 3) := by decide +kernel
theorem dX8_step_4 : decode cX8_step 4 = .ok (.aload_n 0, 1) := by decide +kernel
theorem dX8_step_5 : decode cX8_step 5 = .ok (.getfield 231, 3) := by decide +kernel
theorem dX8_step_8 : decode cX8_step 8 = .ok (.iconst 2, 1) := by decide +kernel
theorem dX8_step_9 : decode cX8_step 9 = .ok (.aload_n 0, 1) := by decide +kernel
theorem dX8_step_10 : decode cX8_step 10 = .ok (.getfield 234, 3) := by decide +kernel
theorem dX8_step_13 : decode cX8_step 13 = .ok (.imul, 1) := by decide +kernel
theorem dX8_step_14 : decode cX8_step 14 = .ok (.iadd, 1) := by decide +kernel
theorem dX8_step_15 : decode cX8_step 15 = .ok (.iload_n 1, 1) := by decide +kernel
theorem dX8_step_16 : decode cX8_step 16 = .ok (.iastore, 1) := by decide +kernel
theorem dX8_step_17 : decode cX8_step 17 = .ok (.aload_n 0, 1) := by decide +kernel
theorem dX8_step_18 : decode cX8_step 18 = .ok (.getfield 7, 3) := by decide +kernel
theorem dX8_step_21 : decode cX8_step 21 = .ok (.aload_n 0, 1) := by decide +kernel
theorem dX8_step_22 : decode cX8_step 22 = .ok (.getfield 231, 3) := by decide +kernel
theorem dX8_step_25 : decode cX8_step 25 = .ok (.iconst 2, 1) := by decide +kernel
theorem dX8_step_26 : decode cX8_step 26 = .ok (.aload_n 0, 1) := by decide +kernel
theorem dX8_step_27 : decode cX8_step 27 = .ok (.getfield 234, 3) := by decide +kernel
theorem dX8_step_30 : decode cX8_step 30 = .ok (.imul, 1) := by decide +kernel
theorem dX8_step_31 : decode cX8_step 31 = .ok (.iadd, 1) := by decide +kernel
theorem dX8_step_32 : decode cX8_step 32 = .ok (.iconst 1, 1) := by decide +kernel
theorem dX8_step_33 : decode cX8_step 33 = .ok (.iadd, 1) := by decide +kernel
theorem dX8_step_34 : decode cX8_step 34 = .ok (.iload_n 2, 1) := by decide +kernel
theorem dX8_step_35 : decode cX8_step 35 = .ok (.iastore, 1) := by decide +kernel
theorem dX8_step_36 : decode cX8_step 36 = .ok (.aload_n 0, 1) := by decide +kernel
theorem dX8_step_37 : decode cX8_step 37 = .ok (.dup, 1) := by decide +kernel
theorem dX8_step_38 : decode cX8_step 38 = .ok (.getfield 234, 3) := by decide +kernel
theorem dX8_step_41 : decode cX8_step 41 = .ok (.iconst 1, 1) := by decide +kernel
theorem dX8_step_42 : decode cX8_step 42 = .ok (.iadd, 1) := by decide +kernel
theorem dX8_step_43 : decode cX8_step 43 = .ok (.putfield 234, 3) := by decide +kernel
theorem dX8_step_46 : decode cX8_step 46 = .ok (.return_, 1) := by decide +kernel
theorem dX8_either_0 : decode cX8_either 0 = .ok (.aload_n 0, 1) := by decide +kernel
theorem dX8_either_1 : decode cX8_either 1 = .ok (.iload_n 1, 1) := by decide +kernel
theorem dX8_either_2 : decode cX8_either 2 = .ok (.invokevirtual 237, 3) := by decide +kernel
theorem dX8_either_5 : decode cX8_either 5 = .ok (.ifCond .ne 5, 3) := by decide +kernel
theorem dX8_either_8 : decode cX8_either 8 = .ok (.iconst 0, 1) := by decide +kernel
theorem dX8_either_9 : decode cX8_either 9 = .ok (.ireturn, 1) := by decide +kernel
theorem dX8_either_10 : decode cX8_either 10 = .ok (.aload_n 0, 1) := by decide +kernel
theorem dX8_either_11 : decode cX8_either 11 = .ok (.bipush 124, 2) := by decide +kernel
theorem dX8_either_13 : decode cX8_either 13 = .ok (.invokevirtual 240, 3) := by decide +kernel
theorem dX8_either_16 : decode cX8_either 16 = .ok (.ifCond .eq 27, 3) := by decide +kernel
theorem dX8_either_19 : decode cX8_either 19 = .ok (.aload_n 0, 1) := by decide +kernel
theorem dX8_either_20 : decode cX8_either 20 = .ok (.invokevirtual 243, 3) := by decide +kernel
theorem dX8_either_23 : decode cX8_either 23 = .ok (.aload_n 0, 1) := by decide +kernel
theorem dX8_either_24 : decode cX8_either 24 = .ok (.iload_n 1, 1) := by decide +kernel
theorem dX8_either_25 : decode cX8_either 25 = .ok (.invokevirtual 237, 3) := by decide +kernel
theorem dX8_either_28 : decode cX8_either 28 = .ok (.ifCond .ne 5, 3) := by decide +kernel
theorem dX8_either_31 : decode cX8_either 31 = .ok (.iconst 0, 1) := by decide +kernel
theorem dX8_either_32 : decode cX8_either 32 = .ok (.ireturn, 1) := by decide +kernel
theorem dX8_either_33 : decode cX8_either 33 = .ok (.aload_n 0, 1) := by decide +kernel
theorem dX8_either_34 : decode cX8_either 34 = .ok (.iconst 2, 1) := by decide +kernel
theorem dX8_either_35 : decode cX8_either 35 = .ok (.bipush 124, 2) := by decide +kernel
theorem dX8_either_37 : decode cX8_either 37 = .ok (.invokevirtual 246, 3) := by decide +kernel
theorem dX8_either_40 : decode cX8_either 40 = .ok (.goto (-30), 3) := by decide +kernel
theorem dX8_either_43 : decode cX8_either 43 = .ok (.iconst 1, 1) := by decide +kernel
theorem dX8_either_44 : decode cX8_either 44 = .ok (.ireturn, 1) := by decide +kernel
theorem dX8_both_0 : decode cX8_both 0 = .ok (.aload_n 0, 1) := by decide +kernel
theorem dX8_both_1 : decode cX8_both 1 = .ok (.iload_n 1, 1) := by decide +kernel
theorem dX8_both_2 : decode cX8_both 2 = .ok (.invokevirtual 249, 3) := by decide +kernel
theorem dX8_both_5 : decode cX8_both 5 = .ok (.ifCond .ne 5, 3) := by decide +kernel
theorem dX8_both_8 : decode cX8_both 8 = .ok (.iconst 0, 1) := by decide +kernel
theorem dX8_both_9 : decode cX8_both 9 = .ok (.ireturn, 1) := by decide +kernel
theorem dX8_both_10 : decode cX8_both 10 = .ok (.aload_n 0, 1) := by decide +kernel
theorem dX8_both_11 : decode cX8_both 11 = .ok (.bipush 38, 2) := by decide +kernel
theorem dX8_both_13 : decode cX8_both 13 = .ok (.invokevirtual 240, 3) := by decide +kernel
theorem dX8_both_16 : decode cX8_both 16 = .ok (.ifCond .eq 27, 3) := by decide +kernel
theorem dX8_both_19 : decode cX8_both 19 = .ok (.aload_n 0, 1) := by decide +kernel
theorem dX8_both_20 : decode cX8_both 20 = .ok (.invokevirtual 243, 3) := by decide +kernel
theorem dX8_both_23 : decode cX8_both 23 = .ok (.aload_n 0, 1) := by decide +kernel
theorem dX8_both_24 : decode cX8_both 24 = .ok (.iload_n 1, 1) := by decide +kernel
theorem dX8_both_25 : decode cX8_both 25 = .ok (.invokevirtual 249, 3) := by decide +kernel
theorem dX8_both_28 : decode cX8_both 28 = .ok (.ifCond .ne 5, 3) := by decide +kernel
theorem dX8_both_31 : decode cX8_both 31 = .ok (.iconst 0, 1) := by decide +kernel
theorem dX8_both_32 : decode cX8_both 32 = .ok (.ireturn, 1) := by decide +kernel
theorem dX8_both_33 : decode cX8_both 33 = .ok (.aload_n 0, 1) := by decide +kernel
theorem dX8_both_34 : decode cX8_both 34 = .ok (.iconst 2, 1) := by decide +kernel
theorem dX8_both_35 : decode cX8_both 35 = .ok (.bipush 38, 2) := by decide +kernel
theorem dX8_both_37 : decode cX8_both 37 = .ok (.invokevirtual 246, 3) := by decide +kernel
theorem dX8_both_40 : decode cX8_both 40 = .ok (.goto (-30), 3) := by decide +kernel
theorem dX8_both_43 : decode cX8_both 43 = .ok (.iconst 1, 1) := by decide +kernel
theorem dX8_both_44 : decode cX8_both 44 = .ok (.ireturn, 1) := by decide +kernel
theorem dX8_test_0 : decode cX8_test 0 = .ok (.aload_n 0, 1) := by decide +kernel
theorem dX8_test_1 : decode cX8_test 1 = .ok (.iload_n 1, 1) := by decide +kernel
theorem dX8_test_2 : decode cX8_test 2 = .ok (.invokevirtual 252, 3) := by decide +kernel
theorem dX8_test_5 : decode cX8_test 5 = .ok (.ifCond .ne 5, 3) := by decide +kernel
theorem dX8_test_8 : decode cX8_test 8 = .ok (.iconst 0, 1) := by decide +kernel
theorem dX8_test_9 : decode cX8_test 9 = .ok (.ireturn, 1) := by decide +kernel
theorem dX8_test_10 : decode cX8_test 10 = .ok (.aload_n 0, 1) := by decide +kernel
theorem dX8_test_11 : decode cX8_test 11 = .ok (.bipush 60, 2) := by decide +kernel
theorem dX8_test_13 : decode cX8_test 13 = .ok (.invokevirtual 240, 3) := by decide +kernel
theorem dX8_test_16 : decode cX8_test 16 = .ok (.ifCond .ne 21, 3) := by decide +kernel
theorem dX8_test_19 : decode cX8_test 19 = .ok (.aload_n 0, 1) := by decide +kernel
theorem dX8_test_20 : decode cX8_test 20 = .ok (.bipush 61, 2) := by decide +kernel
theorem dX8_test_22 : decode cX8_test 22 = .ok (.invokevirtual 240, 3) := by decide +kernel
theorem dX8_test_25 : decode cX8_test 25 = .ok (.ifCond .ne 12, 3) := by decide +kernel
theorem dX8_test_28 : decode cX8_test 28 = .ok (.aload_n 0, 1) := by decide +kernel
theorem dX8_test_29 : decode cX8_test 29 = .ok (.bipush 62, 2) := by decide +kernel
theorem dX8_test_31 : decode cX8_test 31 = .ok (.invokevirtual 240, 3) := by decide +kernel
theorem dX8_test_34 : decode cX8_test 34 = .ok (.ifCond .eq 28, 3) := by decide +kernel
theorem dX8_test_37 : decode cX8_test 37 = .ok (.aload_n 0, 1) := by decide +kernel
theorem dX8_test_38 : decode cX8_test 38 = .ok (.getfield 218, 3) := by decide +kernel
theorem dX8_test_41 : decode cX8_test 41 = .ok (.istore_n 2, 1) := by decide +kernel
theorem dX8_test_42 : decode cX8_test 42 = .ok (.aload_n 0, 1) := by decide +kernel
theorem dX8_test_43 : decode cX8_test 43 = .ok (.invokevirtual 243, 3) := by decide +kernel
theorem dX8_test_46 : decode cX8_test 46 = .ok (.aload_n 0, 1) := by decide +kernel
theorem dX8_test_47 : decode cX8_test 47 = .ok (.iload_n 1, 1) := by decide +kernel
theorem dX8_test_48 : decode cX8_test 48 = .ok (.invokevirtual 252, 3) := by decide +kernel
theorem dX8_test_51 : decode cX8_test 51 = .ok (.ifCond .ne 5, 3) := by decide +kernel
theorem dX8_test_54 : decode cX8_test 54 = .ok (.iconst 0, 1) := by decide +kernel
theorem dX8_test_55 : decode cX8_test 55 = .ok (.ireturn, 1) := by decide +kernel
theorem dX8_test_56 : decode cX8_test 56 = .ok (.aload_n 0, 1) := by decide +kernel
theorem dX8_test_57 : decode cX8_test 57 = .ok (.iconst 2, 1) := by decide +kernel
theorem dX8_test_58 : decode cX8_test 58 = .ok (.iload_n 2, 1) := by decide +kernel
theorem dX8_test_59 : decode cX8_test 59 = .ok (.invokevirtual 246, 3) := by decide +kernel
theorem dX8_test_62 : decode cX8_test 62 = .ok (.iconst 1, 1) := by decide +kernel
theorem dX8_test_63 : decode cX8_test 63 = .ok (.ireturn, 1) := by decide +kernel
theorem dX8_sum_0 : decode cX8_sum 0 = .ok (.aload_n 0, 1) := by decide +kernel
theorem dX8_sum_1 : decode cX8_sum 1 = .ok (.iload_n 1, 1) := by decide +kernel
theorem dX8_sum_2 : decode cX8_sum 2 = .ok (.invokevirtual 255, 3) := by decide +kernel
theorem dX8_sum_5 : decode cX8_sum 5 = .ok (.ifCond .ne 5, 3) := by decide +kernel
theorem dX8_sum_8 : decode cX8_sum 8 = .ok (.iconst 0, 1) := by decide +kernel
theorem dX8_sum_9 : decode cX8_sum 9 = .ok (.ireturn, 1) := by decide +kernel
theorem dX8_sum_10 : decode cX8_sum 10 = .ok (.aload_n 0, 1) := by decide +kernel
theorem dX8_sum_11 : decode cX8_sum 11 = .ok (.bipush 43, 2) := by decide +kernel
theorem dX8_sum_13 : decode cX8_sum 13 = .ok (.invokevirtual 240, 3) := by decide +kernel
theorem dX8_sum_16 : decode cX8_sum 16 = .ok (.ifCond .ne 12, 3) := by decide +kernel
theorem dX8_sum_19 : decode cX8_sum 19 = .ok (.aload_n 0, 1) := by decide +kernel
theorem dX8_sum_20 : decode cX8_sum 20 = .ok (.bipush 45, 2) := by decide +kernel
theorem dX8_sum_22 : decode cX8_sum 22 = .ok (.invokevirtual 240, 3) := by decide +kernel
theorem dX8_sum_25 : decode cX8_sum 25 = .ok (.ifCond .eq 31, 3) := by decide +kernel
theorem dX8_sum_28 : decode cX8_sum 28 = .ok (.aload_n 0, 1) := by decide +kernel
theorem dX8_sum_29 : decode cX8_sum 29 = .ok (.getfield 218, 3) := by decide +kernel
theorem dX8_sum_32 : decode cX8_sum 32 = .ok (.istore_n 2, 1) := by decide +kernel
theorem dX8_sum_33 : decode cX8_sum 33 = .ok (.aload_n 0, 1) := by decide +kernel
theorem dX8_sum_34 : decode cX8_sum 34 = .ok (.invokevirtual 243, 3) := by decide +kernel
theorem dX8_sum_37 : decode cX8_sum 37 = .ok (.aload_n 0, 1) := by decide +kernel
theorem dX8_sum_38 : decode cX8_sum 38 = .ok (.iload_n 1, 1) := by decide +kernel
theorem dX8_sum_39 : decode cX8_sum 39 = .ok (.invokevirtual 255, 3) := by decide +kernel
theorem dX8_sum_42 : decode cX8_sum 42 = .ok (.ifCond .ne 5, 3) := by decide +kernel
theorem dX8_sum_45 : decode cX8_sum 45 = .ok (.iconst 0, 1) := by decide +kernel
theorem dX8_sum_46 : decode cX8_sum 46 = .ok (.ireturn, 1) := by decide +kernel
theorem dX8_sum_47 : decode cX8_sum 47 = .ok (.aload_n 0, 1) := by decide +kernel
theorem dX8_sum_48 : decode cX8_sum 48 = .ok (.iconst 2, 1) := by decide +kernel
theorem dX8_sum_49 : decode cX8_sum 49 = .ok (.iload_n 2, 1) := by decide +kernel
theorem dX8_sum_50 : decode cX8_sum 50 = .ok (.invokevirtual 246, 3) := by decide +kernel
theorem dX8_sum_53 : decode cX8_sum 53 = .ok (.goto (-43), 3) := by decide +kernel
theorem dX8_sum_56 : decode cX8_sum 56 = .ok (.iconst 1, 1) := by decide +kernel
theorem dX8_sum_57 : decode cX8_sum 57 = .ok (.ireturn, 1) := by decide +kernel
theorem dX8_term_0 : decode cX8_term 0 = .ok (.aload_n 0, 1) := by decide +kernel
theorem dX8_term_1 : decode cX8_term 1 = .ok (.iload_n 1, 1) := by decide +kernel
theorem dX8_term_2 : decode cX8_term 2 = .ok (.invokevirtual 258, 3) := by decide +kernel
theorem dX8_term_5 : decode cX8_term 5 = .ok (.ifCond .ne 5, 3) := by decide +kernel
theorem dX8_term_8 : decode cX8_term 8 = .ok (.iconst 0, 1) := by decide +kernel
theorem dX8_term_9 : decode cX8_term 9 = .ok (.ireturn, 1) := by decide +kernel
theorem dX8_term_10 : decode cX8_term 10 = .ok (.aload_n 0, 1) := by decide +kernel
theorem dX8_term_11 : decode cX8_term 11 = .ok (.bipush 42, 2) := by decide +kernel
theorem dX8_term_13 : decode cX8_term 13 = .ok (.invokevirtual 240, 3) := by decide +kernel
theorem dX8_term_16 : decode cX8_term 16 = .ok (.ifCond .ne 12, 3) := by decide +kernel
theorem dX8_term_19 : decode cX8_term 19 = .ok (.aload_n 0, 1) := by decide +kernel
theorem dX8_term_20 : decode cX8_term 20 = .ok (.bipush 47, 2) := by decide +kernel
theorem dX8_term_22 : decode cX8_term 22 = .ok (.invokevirtual 240, 3) := by decide +kernel
theorem dX8_term_25 : decode cX8_term 25 = .ok (.ifCond .eq 31, 3) := by decide +kernel
theorem dX8_term_28 : decode cX8_term 28 = .ok (.aload_n 0, 1) := by decide +kernel
theorem dX8_term_29 : decode cX8_term 29 = .ok (.getfield 218, 3) := by decide +kernel
theorem dX8_term_32 : decode cX8_term 32 = .ok (.istore_n 2, 1) := by decide +kernel
theorem dX8_term_33 : decode cX8_term 33 = .ok (.aload_n 0, 1) := by decide +kernel
theorem dX8_term_34 : decode cX8_term 34 = .ok (.invokevirtual 243, 3) := by decide +kernel
theorem dX8_term_37 : decode cX8_term 37 = .ok (.aload_n 0, 1) := by decide +kernel
theorem dX8_term_38 : decode cX8_term 38 = .ok (.iload_n 1, 1) := by decide +kernel
theorem dX8_term_39 : decode cX8_term 39 = .ok (.invokevirtual 258, 3) := by decide +kernel
theorem dX8_term_42 : decode cX8_term 42 = .ok (.ifCond .ne 5, 3) := by decide +kernel
theorem dX8_term_45 : decode cX8_term 45 = .ok (.iconst 0, 1) := by decide +kernel
theorem dX8_term_46 : decode cX8_term 46 = .ok (.ireturn, 1) := by decide +kernel
theorem dX8_term_47 : decode cX8_term 47 = .ok (.aload_n 0, 1) := by decide +kernel
theorem dX8_term_48 : decode cX8_term 48 = .ok (.iconst 2, 1) := by decide +kernel
theorem dX8_term_49 : decode cX8_term 49 = .ok (.iload_n 2, 1) := by decide +kernel
theorem dX8_term_50 : decode cX8_term 50 = .ok (.invokevirtual 246, 3) := by decide +kernel
theorem dX8_term_53 : decode cX8_term 53 = .ok (.goto (-43), 3) := by decide +kernel
theorem dX8_term_56 : decode cX8_term 56 = .ok (.iconst 1, 1) := by decide +kernel
theorem dX8_term_57 : decode cX8_term 57 = .ok (.ireturn, 1) := by decide +kernel
theorem dX8_part0_0 : decode cX8_part0 0 = .ok (.aload_n 0, 1) := by decide +kernel
theorem dX8_part0_1 : decode cX8_part0 1 = .ok (.getfield 209, 3) := by decide +kernel
theorem dX8_part0_4 : decode cX8_part0 4 = .ok (.iconst 2, 1) := by decide +kernel
theorem dX8_part0_5 : decode cX8_part0 5 = .ok (.if_icmp .ne 28, 3) := by decide +kernel
theorem dX8_part0_8 : decode cX8_part0 8 = .ok (.aload_n 0, 1) := by decide +kernel
theorem dX8_part0_9 : decode cX8_part0 9 = .ok (.iconst 0, 1) := by decide +kernel
theorem dX8_part0_10 : decode cX8_part0 10 = .ok (.aload_n 0, 1) := by decide +kernel
theorem dX8_part0_11 : decode cX8_part0 11 = .ok (.getfield 224, 3) := by decide +kernel
theorem dX8_part0_14 : decode cX8_part0 14 = .ok (.invokevirtual 246, 3) := by decide +kernel
theorem dX8_part0_17 : decode cX8_part0 17 = .ok (.aload_n 0, 1) := by decide +kernel
theorem dX8_part0_18 : decode cX8_part0 18 = .ok (.dup, 1) := by decide +kernel
theorem dX8_part0_19 : decode cX8_part0 19 = .ok (.getfield 261, 3) := by decide +kernel
theorem dX8_part0_22 : decode cX8_part0 22 = .ok (.iconst 1, 1) := by decide +kernel
theorem dX8_part0_23 : decode cX8_part0 23 = .ok (.iadd, 1) := by decide +kernel
theorem dX8_part0_24 : decode cX8_part0 24 = .ok (.putfield 261, 3) := by decide +kernel
theorem dX8_part0_27 : decode cX8_part0 27 = .ok (.aload_n 0, 1) := by decide +kernel
theorem dX8_part0_28 : decode cX8_part0 28 = .ok (.invokevirtual 243, 3) := by decide +kernel
theorem dX8_part0_31 : decode cX8_part0 31 = .ok (.iconst 1, 1) := by decide +kernel
theorem dX8_part0_32 : decode cX8_part0 32 = .ok (.ireturn, 1) := by decide +kernel
theorem dX8_part0_33 : decode cX8_part0 33 = .ok (.aload_n 0, 1) := by decide +kernel
theorem dX8_part0_34 : decode cX8_part0 34 = .ok (.getfield 209, 3) := by decide +kernel
theorem dX8_part0_37 : decode cX8_part0 37 = .ok (.iconst 1, 1) := by decide +kernel
theorem dX8_part0_38 : decode cX8_part0 38 = .ok (.if_icmp .ne 46, 3) := by decide +kernel
theorem dX8_part0_41 : decode cX8_part0 41 = .ok (.aload_n 0, 1) := by decide +kernel
theorem dX8_part0_42 : decode cX8_part0 42 = .ok (.getfield 218, 3) := by decide +kernel
theorem dX8_part0_45 : decode cX8_part0 45 = .ok (.ifCond .eq 39, 3) := by decide +kernel
theorem dX8_part0_48 : decode cX8_part0 48 = .ok (.iload_n 1, 1) := by decide +kernel
theorem dX8_part0_49 : decode cX8_part0 49 = .ok (.aload_n 0, 1) := by decide +kernel
theorem dX8_part0_50 : decode cX8_part0 50 = .ok (.getfield 218, 3) := by decide +kernel
theorem dX8_part0_53 : decode cX8_part0 53 = .ok (.invokestatic 264, 3) := by decide +kernel
theorem dX8_part0_56 : decode cX8_part0 56 = .ok (.ifCond .eq 28, 3) := by decide +kernel
theorem dX8_part0_59 : decode cX8_part0 59 = .ok (.aload_n 0, 1) := by decide +kernel
theorem dX8_part0_60 : decode cX8_part0 60 = .ok (.iconst 1, 1) := by decide +kernel
theorem dX8_part0_61 : decode cX8_part0 61 = .ok (.aload_n 0, 1) := by decide +kernel
theorem dX8_part0_62 : decode cX8_part0 62 = .ok (.getfield 218, 3) := by decide +kernel
theorem dX8_part0_65 : decode cX8_part0 65 = .ok (.invokevirtual 246, 3) := by decide +kernel
theorem dX8_part0_68 : decode cX8_part0 68 = .ok (.aload_n 0, 1) := by decide +kernel
theorem dX8_part0_69 : decode cX8_part0 69 = .ok (.dup, 1) := by decide +kernel
theorem dX8_part0_70 : decode cX8_part0 70 = .ok (.getfield 261, 3) := by decide +kernel
theorem dX8_part0_73 : decode cX8_part0 73 = .ok (.iconst 1, 1) := by decide +kernel
theorem dX8_part0_74 : decode cX8_part0 74 = .ok (.iadd, 1) := by decide +kernel
theorem dX8_part0_75 : decode cX8_part0 75 = .ok (.putfield 261, 3) := by decide +kernel
theorem dX8_part0_78 : decode cX8_part0 78 = .ok (.aload_n 0, 1) := by decide +kernel
theorem dX8_part0_79 : decode cX8_part0 79 = .ok (.invokevirtual 243, 3) := by decide +kernel
theorem dX8_part0_82 : decode cX8_part0 82 = .ok (.iconst 1, 1) := by decide +kernel
theorem dX8_part0_83 : decode cX8_part0 83 = .ok (.ireturn, 1) := by decide +kernel
theorem dX8_part0_84 : decode cX8_part0 84 = .ok (.aload_n 0, 1) := by decide +kernel
theorem dX8_part0_85 : decode cX8_part0 85 = .ok (.bipush 33, 2) := by decide +kernel
theorem dX8_part0_87 : decode cX8_part0 87 = .ok (.invokevirtual 240, 3) := by decide +kernel
theorem dX8_part0_90 : decode cX8_part0 90 = .ok (.ifCond .eq 55, 3) := by decide +kernel
theorem dX8_part0_93 : decode cX8_part0 93 = .ok (.aload_n 0, 1) := by decide +kernel
theorem dX8_part0_94 : decode cX8_part0 94 = .ok (.getfield 267, 3) := by decide +kernel
theorem dX8_part0_97 : decode cX8_part0 97 = .ok (.bipush 8, 2) := by decide +kernel
theorem dX8_part0_99 : decode cX8_part0 99 = .ok (.if_icmp .ge 46, 3) := by decide +kernel
theorem dX8_part0_102 : decode cX8_part0 102 = .ok (.aload_n 0, 1) := by decide +kernel
theorem dX8_part0_103 : decode cX8_part0 103 = .ok (.dup, 1) := by decide +kernel
theorem dX8_part0_104 : decode cX8_part0 104 = .ok (.getfield 267, 3) := by decide +kernel
theorem dX8_part0_107 : decode cX8_part0 107 = .ok (.iconst 1, 1) := by decide +kernel
theorem dX8_part0_108 : decode cX8_part0 108 = .ok (.iadd, 1) := by decide +kernel
theorem dX8_part0_109 : decode cX8_part0 109 = .ok (.putfield 267, 3) := by decide +kernel
theorem dX8_part0_112 : decode cX8_part0 112 = .ok (.aload_n 0, 1) := by decide +kernel
theorem dX8_part0_113 : decode cX8_part0 113 = .ok (.invokevirtual 243, 3) := by decide +kernel
theorem dX8_part0_116 : decode cX8_part0 116 = .ok (.aload_n 0, 1) := by decide +kernel
theorem dX8_part0_117 : decode cX8_part0 117 = .ok (.iload_n 1, 1) := by decide +kernel
theorem dX8_part0_118 : decode cX8_part0 118 = .ok (.invokevirtual 258, 3) := by decide +kernel
theorem dX8_part0_121 : decode cX8_part0 121 = .ok (.ifCond .ne 5, 3) := by decide +kernel
theorem dX8_part0_124 : decode cX8_part0 124 = .ok (.iconst 0, 1) := by decide +kernel
theorem dX8_part0_125 : decode cX8_part0 125 = .ok (.ireturn, 1) := by decide +kernel
theorem dX8_part0_126 : decode cX8_part0 126 = .ok (.aload_n 0, 1) := by decide +kernel
theorem dX8_part0_127 : decode cX8_part0 127 = .ok (.dup, 1) := by decide +kernel
theorem dX8_part0_128 : decode cX8_part0 128 = .ok (.getfield 267, 3) := by decide +kernel
theorem dX8_part0_131 : decode cX8_part0 131 = .ok (.iconst 1, 1) := by decide +kernel
theorem dX8_part0_132 : decode cX8_part0 132 = .ok (.isub, 1) := by decide +kernel
theorem dX8_part0_133 : decode cX8_part0 133 = .ok (.putfield 267, 3) := by decide +kernel
theorem dX8_part0_136 : decode cX8_part0 136 = .ok (.aload_n 0, 1) := by decide +kernel
theorem dX8_part0_137 : decode cX8_part0 137 = .ok (.iconst 2, 1) := by decide +kernel
theorem dX8_part0_138 : decode cX8_part0 138 = .ok (.bipush 33, 2) := by decide +kernel
theorem dX8_part0_140 : decode cX8_part0 140 = .ok (.invokevirtual 246, 3) := by decide +kernel
theorem dX8_part0_143 : decode cX8_part0 143 = .ok (.iconst 1, 1) := by decide +kernel
theorem dX8_part0_144 : decode cX8_part0 144 = .ok (.ireturn, 1) := by decide +kernel
theorem dX8_part0_145 : decode cX8_part0 145 = .ok (.aload_n 0, 1) := by decide +kernel
theorem dX8_part0_146 : decode cX8_part0 146 = .ok (.bipush 40, 2) := by decide +kernel
theorem dX8_part0_148 : decode cX8_part0 148 = .ok (.invokevirtual 240, 3) := by decide +kernel
theorem dX8_part0_151 : decode cX8_part0 151 = .ok (.ifCond .eq 12, 3) := by decide +kernel
theorem dX8_part0_154 : decode cX8_part0 154 = .ok (.aload_n 0, 1) := by decide +kernel
theorem dX8_part0_155 : decode cX8_part0 155 = .ok (.getfield 270, 3) := by decide +kernel
theorem dX8_part0_158 : decode cX8_part0 158 = .ok (.bipush 8, 2) := by decide +kernel
theorem dX8_part0_160 : decode cX8_part0 160 = .ok (.if_icmp .ne 5, 3) := by decide +kernel
theorem dX8_part0_163 : decode cX8_part0 163 = .ok (.iconst 0, 1) := by decide +kernel
theorem dX8_part0_164 : decode cX8_part0 164 = .ok (.ireturn, 1) := by decide +kernel
theorem dX8_part0_165 : decode cX8_part0 165 = .ok (.aload_n 0, 1) := by decide +kernel
theorem dX8_part0_166 : decode cX8_part0 166 = .ok (.dup, 1) := by decide +kernel
theorem dX8_part0_167 : decode cX8_part0 167 = .ok (.getfield 270, 3) := by decide +kernel
theorem dX8_part0_170 : decode cX8_part0 170 = .ok (.iconst 1, 1) := by decide +kernel
theorem dX8_part0_171 : decode cX8_part0 171 = .ok (.iadd, 1) := by decide +kernel
theorem dX8_part0_172 : decode cX8_part0 172 = .ok (.putfield 270, 3) := by decide +kernel
theorem dX8_part0_175 : decode cX8_part0 175 = .ok (.aload_n 0, 1) := by decide +kernel
theorem dX8_part0_176 : decode cX8_part0 176 = .ok (.invokevirtual 243, 3) := by decide +kernel
theorem dX8_part0_179 : decode cX8_part0 179 = .ok (.aload_n 0, 1) := by decide +kernel
theorem dX8_part0_180 : decode cX8_part0 180 = .ok (.iload_n 1, 1) := by decide +kernel
theorem dX8_part0_181 : decode cX8_part0 181 = .ok (.invokevirtual 273, 3) := by decide +kernel
theorem dX8_part0_184 : decode cX8_part0 184 = .ok (.ifCond .eq 12, 3) := by decide +kernel
theorem dX8_part0_187 : decode cX8_part0 187 = .ok (.aload_n 0, 1) := by decide +kernel
theorem dX8_part0_188 : decode cX8_part0 188 = .ok (.bipush 41, 2) := by decide +kernel
theorem dX8_part0_190 : decode cX8_part0 190 = .ok (.invokevirtual 240, 3) := by decide +kernel
theorem dX8_part0_193 : decode cX8_part0 193 = .ok (.ifCond .ne 5, 3) := by decide +kernel
theorem dX8_part0_196 : decode cX8_part0 196 = .ok (.iconst 0, 1) := by decide +kernel
theorem dX8_part0_197 : decode cX8_part0 197 = .ok (.ireturn, 1) := by decide +kernel
theorem dX8_part0_198 : decode cX8_part0 198 = .ok (.aload_n 0, 1) := by decide +kernel
theorem dX8_part0_199 : decode cX8_part0 199 = .ok (.dup, 1) := by decide +kernel
theorem dX8_part0_200 : decode cX8_part0 200 = .ok (.getfield 270, 3) := by decide +kernel
theorem dX8_part0_203 : decode cX8_part0 203 = .ok (.iconst 1, 1) := by decide +kernel
theorem dX8_part0_204 : decode cX8_part0 204 = .ok (.isub, 1) := by decide +kernel
theorem dX8_part0_205 : decode cX8_part0 205 = .ok (.putfield 270, 3) := by decide +kernel
theorem dX8_part0_208 : decode cX8_part0 208 = .ok (.aload_n 0, 1) := by decide +kernel
theorem dX8_part0_209 : decode cX8_part0 209 = .ok (.invokevirtual 243, 3) := by decide +kernel
theorem dX8_part0_212 : decode cX8_part0 212 = .ok (.iconst 1, 1) := by decide +kernel
theorem dX8_part0_213 : decode cX8_part0 213 = .ok (.ireturn, 1) := by decide +kernel
theorem dX8_parse_0 : decode cX8_parse 0 = .ok (.aload_n 0, 1) := by decide +kernel
theorem dX8_parse_1 : decode cX8_parse 1 = .ok (.iconst 0, 1) := by decide +kernel
theorem dX8_parse_2 : decode cX8_parse 2 = .ok (.putfield 206, 3) := by decide +kernel
theorem dX8_parse_5 : decode cX8_parse 5 = .ok (.aload_n 0, 1) := by decide +kernel
theorem dX8_parse_6 : decode cX8_parse 6 = .ok (.iconst 3, 1) := by decide +kernel
theorem dX8_parse_7 : decode cX8_parse 7 = .ok (.putfield 209, 3) := by decide +kernel
theorem dX8_parse_10 : decode cX8_parse 10 = .ok (.aload_n 0, 1) := by decide +kernel
theorem dX8_parse_11 : decode cX8_parse 11 = .ok (.iconst 0, 1) := by decide +kernel
theorem dX8_parse_12 : decode cX8_parse 12 = .ok (.putfield 270, 3) := by decide +kernel
theorem dX8_parse_15 : decode cX8_parse 15 = .ok (.aload_n 0, 1) := by decide +kernel
theorem dX8_parse_16 : decode cX8_parse 16 = .ok (.iconst 0, 1) := by decide +kernel
theorem dX8_parse_17 : decode cX8_parse 17 = .ok (.putfield 267, 3) := by decide +kernel
theorem dX8_parse_20 : decode cX8_parse 20 = .ok (.aload_n 0, 1) := by decide +kernel
theorem dX8_parse_21 : decode cX8_parse 21 = .ok (.iconst 0, 1) := by decide +kernel
theorem dX8_parse_22 : decode cX8_parse 22 = .ok (.putfield 234, 3) := by decide +kernel
theorem dX8_parse_25 : decode cX8_parse 25 = .ok (.aload_n 0, 1) := by decide +kernel
theorem dX8_parse_26 : decode cX8_parse 26 = .ok (.iconst 0, 1) := by decide +kernel
theorem dX8_parse_27 : decode cX8_parse 27 = .ok (.putfield 261, 3) := by decide +kernel
theorem dX8_parse_30 : decode cX8_parse 30 = .ok (.aload_n 0, 1) := by decide +kernel
theorem dX8_parse_31 : decode cX8_parse 31 = .ok (.aload_n 0, 1) := by decide +kernel
theorem dX8_parse_32 : decode cX8_parse 32 = .ok (.getfield 7, 3) := by decide +kernel
theorem dX8_parse_35 : decode cX8_parse 35 = .ok (.iconst 1, 1) := by decide +kernel
theorem dX8_parse_36 : decode cX8_parse 36 = .ok (.iaload, 1) := by decide +kernel
theorem dX8_parse_37 : decode cX8_parse 37 = .ok (.bipush 14, 2) := by decide +kernel
theorem dX8_parse_39 : decode cX8_parse 39 = .ok (.if_icmp .ge 18, 3) := by decide +kernel
theorem dX8_parse_42 : decode cX8_parse 42 = .ok (.aload_n 0, 1) := by decide +kernel
theorem dX8_parse_43 : decode cX8_parse 43 = .ok (.aload_n 0, 1) := by decide +kernel
theorem dX8_parse_44 : decode cX8_parse 44 = .ok (.getfield 7, 3) := by decide +kernel
theorem dX8_parse_47 : decode cX8_parse 47 = .ok (.iconst 1, 1) := by decide +kernel
theorem dX8_parse_48 : decode cX8_parse 48 = .ok (.iaload, 1) := by decide +kernel
theorem dX8_parse_49 : decode cX8_parse 49 = .ok (.invokevirtual 276, 3) := by decide +kernel
theorem dX8_parse_52 : decode cX8_parse 52 = .ok (.iconst 4, 1) := by decide +kernel
theorem dX8_parse_53 : decode cX8_parse 53 = .ok (.iadd, 1) := by decide +kernel
theorem dX8_parse_54 : decode cX8_parse 54 = .ok (.goto 6, 3) := by decide +kernel
theorem dX8_parse_57 : decode cX8_parse 57 = .ok (.sipush 2876, 3) := by decide +kernel
theorem dX8_parse_60 : decode cX8_parse 60 = .ok (.putfield 231, 3) := by decide +kernel
theorem dX8_parse_63 : decode cX8_parse 63 = .ok (.aload_n 0, 1) := by decide +kernel
theorem dX8_parse_64 : decode cX8_parse 64 = .ok (.invokevirtual 243, 3) := by decide +kernel
theorem dX8_parse_67 : decode cX8_parse 67 = .ok (.aload_n 0, 1) := by decide +kernel
theorem dX8_parse_68 : decode cX8_parse 68 = .ok (.invokevirtual 279, 3) := by decide +kernel
theorem dX8_parse_71 : decode cX8_parse 71 = .ok (.istore_n 1, 1) := by decide +kernel
theorem dX8_parse_72 : decode cX8_parse 72 = .ok (.iload_n 1, 1) := by decide +kernel
theorem dX8_parse_73 : decode cX8_parse 73 = .ok (.ifCond .lt 7, 3) := by decide +kernel
theorem dX8_parse_76 : decode cX8_parse 76 = .ok (.iconst 1, 1) := by decide +kernel
theorem dX8_parse_77 : decode cX8_parse 77 = .ok (.goto 4, 3) := by decide +kernel
theorem dX8_parse_80 : decode cX8_parse 80 = .ok (.iconst 0, 1) := by decide +kernel
theorem dX8_parse_81 : decode cX8_parse 81 = .ok (.istore_n 2, 1) := by decide +kernel
theorem dX8_parse_82 : decode cX8_parse 82 = .ok (.iload_n 2, 1) := by decide +kernel
theorem dX8_parse_83 : decode cX8_parse 83 = .ok (.ifCond .eq 28, 3) := by decide +kernel
theorem dX8_parse_86 : decode cX8_parse 86 = .ok (.aload_n 0, 1) := by decide +kernel
theorem dX8_parse_87 : decode cX8_parse 87 = .ok (.invokevirtual 243, 3) := by decide +kernel
theorem dX8_parse_90 : decode cX8_parse 90 = .ok (.aload_n 0, 1) := by decide +kernel
theorem dX8_parse_91 : decode cX8_parse 91 = .ok (.iload_n 1, 1) := by decide +kernel
theorem dX8_parse_92 : decode cX8_parse 92 = .ok (.invokevirtual 273, 3) := by decide +kernel
theorem dX8_parse_95 : decode cX8_parse 95 = .ok (.ifCond .eq 14, 3) := by decide +kernel
theorem dX8_parse_98 : decode cX8_parse 98 = .ok (.aload_n 0, 1) := by decide +kernel
theorem dX8_parse_99 : decode cX8_parse 99 = .ok (.getfield 209, 3) := by decide +kernel
theorem dX8_parse_102 : decode cX8_parse 102 = .ok (.ifCond .ne 7, 3) := by decide +kernel
theorem dX8_parse_105 : decode cX8_parse 105 = .ok (.iconst 1, 1) := by decide +kernel
theorem dX8_parse_106 : decode cX8_parse 106 = .ok (.goto 4, 3) := by decide +kernel
theorem dX8_parse_109 : decode cX8_parse 109 = .ok (.iconst 0, 1) := by decide +kernel
theorem dX8_parse_110 : decode cX8_parse 110 = .ok (.istore_n 2, 1) := by decide +kernel
theorem dX8_parse_111 : decode cX8_parse 111 = .ok (.aload_n 0, 1) := by decide +kernel
theorem dX8_parse_112 : decode cX8_parse 112 = .ok (.iconst 0, 1) := by decide +kernel
theorem dX8_parse_113 : decode cX8_parse 113 = .ok (.putfield 195, 3) := by decide +kernel
theorem dX8_parse_116 : decode cX8_parse 116 = .ok (.iload_n 2, 1) := by decide +kernel
theorem dX8_parse_117 : decode cX8_parse 117 = .ok (.ifCond .eq 7, 3) := by decide +kernel
theorem dX8_parse_120 : decode cX8_parse 120 = .ok (.iload_n 1, 1) := by decide +kernel
theorem dX8_parse_121 : decode cX8_parse 121 = .ok (.goto 4, 3) := by decide +kernel
theorem dX8_parse_124 : decode cX8_parse 124 = .ok (.iconst (-1), 1) := by decide +kernel
theorem dX8_parse_125 : decode cX8_parse 125 = .ok (.ireturn, 1) := by decide +kernel
theorem dX8_text_0 : decode cX8_text 0 = .ok (.aload_n 0, 1) := by decide +kernel
theorem dX8_text_1 : decode cX8_text 1 = .ok (.invokevirtual 282, 3) := by decide +kernel
theorem dX8_text_4 : decode cX8_text 4 = .ok (.istore_n 1, 1) := by decide +kernel
theorem dX8_text_5 : decode cX8_text 5 = .ok (.iload_n 1, 1) := by decide +kernel
theorem dX8_text_6 : decode cX8_text 6 = .ok (.ifCond .ge 11, 3) := by decide +kernel
theorem dX8_text_9 : decode cX8_text 9 = .ok (.bipush (-100), 2) := by decide +kernel
theorem dX8_text_11 : decode cX8_text 11 = .ok (.aload_n 0, 1) := by decide +kernel
theorem dX8_text_12 : decode cX8_text 12 = .ok (.getfield 212, 3) := by decide +kernel
theorem dX8_text_15 : decode cX8_text 15 = .ok (.isub, 1) := by decide +kernel
theorem dX8_text_16 : decode cX8_text 16 = .ok (.ireturn, 1) := by decide +kernel
theorem dX8_text_17 : decode cX8_text 17 = .ok (.aload_n 0, 1) := by decide +kernel
theorem dX8_text_18 : decode cX8_text 18 = .ok (.getfield 7, 3) := by decide +kernel
theorem dX8_text_21 : decode cX8_text 21 = .ok (.iconst 1, 1) := by decide +kernel
theorem dX8_text_22 : decode cX8_text 22 = .ok (.iaload, 1) := by decide +kernel
theorem dX8_text_23 : decode cX8_text 23 = .ok (.bipush 14, 2) := by decide +kernel
theorem dX8_text_25 : decode cX8_text 25 = .ok (.if_icmp .ne 6, 3) := by decide +kernel
theorem dX8_text_28 : decode cX8_text 28 = .ok (.ldc 91, 2) := by decide +kernel
theorem dX8_text_30 : decode cX8_text 30 = .ok (.ireturn, 1) := by decide +kernel
theorem dX8_text_31 : decode cX8_text 31 = .ok (.aload_n 0, 1) := by decide +kernel
theorem dX8_text_32 : decode cX8_text 32 = .ok (.aload_n 0, 1) := by decide +kernel
theorem dX8_text_33 : decode cX8_text 33 = .ok (.getfield 7, 3) := by decide +kernel
theorem dX8_text_36 : decode cX8_text 36 = .ok (.iconst 1, 1) := by decide +kernel
theorem dX8_text_37 : decode cX8_text 37 = .ok (.iaload, 1) := by decide +kernel
theorem dX8_text_38 : decode cX8_text 38 = .ok (.invokevirtual 276, 3) := by decide +kernel
theorem dX8_text_41 : decode cX8_text 41 = .ok (.istore_n 2, 1) := by decide +kernel
theorem dX8_text_42 : decode cX8_text 42 = .ok (.aload_n 0, 1) := by decide +kernel
theorem dX8_text_43 : decode cX8_text 43 = .ok (.getfield 7, 3) := by decide +kernel
theorem dX8_text_46 : decode cX8_text 46 = .ok (.iload_n 2, 1) := by decide +kernel
theorem dX8_text_47 : decode cX8_text 47 = .ok (.iconst 0, 1) := by decide +kernel
theorem dX8_text_48 : decode cX8_text 48 = .ok (.iadd, 1) := by decide +kernel
theorem dX8_text_49 : decode cX8_text 49 = .ok (.iload_n 1, 1) := by decide +kernel
theorem dX8_text_50 : decode cX8_text 50 = .ok (.iastore, 1) := by decide +kernel
theorem dX8_text_51 : decode cX8_text 51 = .ok (.aload_n 0, 1) := by decide +kernel
theorem dX8_text_52 : decode cX8_text 52 = .ok (.getfield 7, 3) := by decide +kernel
theorem dX8_text_55 : decode cX8_text 55 = .ok (.iload_n 2, 1) := by decide +kernel
theorem dX8_text_56 : decode cX8_text 56 = .ok (.iconst 1, 1) := by decide +kernel
theorem dX8_text_57 : decode cX8_text 57 = .ok (.iadd, 1) := by decide +kernel
theorem dX8_text_58 : decode cX8_text 58 = .ok (.aload_n 0, 1) := by decide +kernel
theorem dX8_text_59 : decode cX8_text 59 = .ok (.getfield 261, 3) := by decide +kernel
theorem dX8_text_62 : decode cX8_text 62 = .ok (.iastore, 1) := by decide +kernel
theorem dX8_text_63 : decode cX8_text 63 = .ok (.aload_n 0, 1) := by decide +kernel
theorem dX8_text_64 : decode cX8_text 64 = .ok (.getfield 7, 3) := by decide +kernel
theorem dX8_text_67 : decode cX8_text 67 = .ok (.iload_n 2, 1) := by decide +kernel
theorem dX8_text_68 : decode cX8_text 68 = .ok (.iconst 2, 1) := by decide +kernel
theorem dX8_text_69 : decode cX8_text 69 = .ok (.iadd, 1) := by decide +kernel
theorem dX8_text_70 : decode cX8_text 70 = .ok (.aload_n 0, 1) := by decide +kernel
theorem dX8_text_71 : decode cX8_text 71 = .ok (.getfield 234, 3) := by decide +kernel
theorem dX8_text_74 : decode cX8_text 74 = .ok (.iastore, 1) := by decide +kernel
theorem dX8_text_75 : decode cX8_text 75 = .ok (.aload_n 0, 1) := by decide +kernel
theorem dX8_text_76 : decode cX8_text 76 = .ok (.getfield 7, 3) := by decide +kernel
theorem dX8_text_79 : decode cX8_text 79 = .ok (.iconst 1, 1) := by decide +kernel
theorem dX8_text_80 : decode cX8_text 80 = .ok (.dup2, 1) := by decide +kernel
theorem dX8_text_81 : decode cX8_text 81 = .ok (.iaload, 1) := by decide +kernel
theorem dX8_text_82 : decode cX8_text 82 = .ok (.iconst 1, 1) := by decide +kernel
theorem dX8_text_83 : decode cX8_text 83 = .ok (.iadd, 1) := by decide +kernel
theorem dX8_text_84 : decode cX8_text 84 = .ok (.iastore, 1) := by decide +kernel
theorem dX8_text_85 : decode cX8_text 85 = .ok (.aload_n 0, 1) := by decide +kernel
theorem dX8_text_86 : decode cX8_text 86 = .ok (.invokevirtual 285, 3) := by decide +kernel
theorem dX8_text_89 : decode cX8_text 89 = .ok (.aload_n 0, 1) := by decide +kernel
theorem dX8_text_90 : decode cX8_text 90 = .ok (.getfield 7, 3) := by decide +kernel
theorem dX8_text_93 : decode cX8_text 93 = .ok (.iconst 1, 1) := by decide +kernel
theorem dX8_text_94 : decode cX8_text 94 = .ok (.iaload, 1) := by decide +kernel
theorem dX8_text_95 : decode cX8_text 95 = .ok (.iconst 1, 1) := by decide +kernel
theorem dX8_text_96 : decode cX8_text 96 = .ok (.isub, 1) := by decide +kernel
theorem dX8_text_97 : decode cX8_text 97 = .ok (.ireturn, 1) := by decide +kernel
theorem dX8_textTold_0 : decode cX8_textTold 0 = .ok (.aload_n 0, 1) := by decide +kernel
theorem dX8_textTold_1 : decode cX8_textTold 1 = .ok (.iload_n 1, 1) := by decide +kernel
theorem dX8_textTold_2 : decode cX8_textTold 2 = .ok (.invokevirtual 288, 3) := by decide +kernel
theorem dX8_textTold_5 : decode cX8_textTold 5 = .ok (.ifCond .eq 13, 3) := by decide +kernel
theorem dX8_textTold_8 : decode cX8_textTold 8 = .ok (.iload_n 2, 1) := by decide +kernel
theorem dX8_textTold_9 : decode cX8_textTold 9 = .ok (.i2l, 1) := by decide +kernel
theorem dX8_textTold_10 : decode cX8_textTold 10 = .ok (.lconst 0, 1) := by decide +kernel
theorem dX8_textTold_11 : decode cX8_textTold 11 = .ok (.lconst 1, 1) := by decide +kernel
theorem dX8_textTold_12 : decode cX8_textTold 12 = .ok (.invokestatic 75, 3) := by decide +kernel
theorem dX8_textTold_15 : decode cX8_textTold 15 = .ok (.ifCond .ne 6, 3) := by decide +kernel
theorem dX8_textTold_18 : decode cX8_textTold 18 = .ok (.ldc 90, 2) := by decide +kernel
theorem dX8_textTold_20 : decode cX8_textTold 20 = .ok (.ireturn, 1) := by decide +kernel
theorem dX8_textTold_21 : decode cX8_textTold 21 = .ok (.aload_n 0, 1) := by decide +kernel
theorem dX8_textTold_22 : decode cX8_textTold 22 = .ok (.getfield 7, 3) := by decide +kernel
theorem dX8_textTold_25 : decode cX8_textTold 25 = .ok (.aload_n 0, 1) := by decide +kernel
theorem dX8_textTold_26 : decode cX8_textTold 26 = .ok (.iload_n 1, 1) := by decide +kernel
theorem dX8_textTold_27 : decode cX8_textTold 27 = .ok (.invokevirtual 276, 3) := by decide +kernel
theorem dX8_textTold_30 : decode cX8_textTold 30 = .ok (.iload_n 2, 1) := by decide +kernel
theorem dX8_textTold_31 : decode cX8_textTold 31 = .ok (.iadd, 1) := by decide +kernel
theorem dX8_textTold_32 : decode cX8_textTold 32 = .ok (.iaload, 1) := by decide +kernel
theorem dX8_textTold_33 : decode cX8_textTold 33 = .ok (.ireturn, 1) := by decide +kernel
theorem dX8_counts_0 : decode cX8_counts 0 = .ok (.iconst (-1), 1) := by decide +kernel
theorem dX8_counts_1 : decode cX8_counts 1 = .ok (.istore_n 2, 1) := by decide +kernel
theorem dX8_counts_2 : decode cX8_counts 2 = .ok (.iconst 0, 1) := by decide +kernel
theorem dX8_counts_3 : decode cX8_counts 3 = .ok (.istore_n 3, 1) := by decide +kernel
theorem dX8_counts_4 : decode cX8_counts 4 = .ok (.iload_n 3, 1) := by decide +kernel
theorem dX8_counts_5 : decode cX8_counts 5 = .ok (.aload_n 0, 1) := by decide +kernel
theorem dX8_counts_6 : decode cX8_counts 6 = .ok (.getfield 7, 3) := by decide +kernel
theorem dX8_counts_9 : decode cX8_counts 9 = .ok (.iconst 1, 1) := by decide +kernel
theorem dX8_counts_10 : decode cX8_counts 10 = .ok (.iaload, 1) := by decide +kernel
theorem dX8_counts_11 : decode cX8_counts 11 = .ok (.if_icmp .ge 29, 3) := by decide +kernel
theorem dX8_counts_14 : decode cX8_counts 14 = .ok (.aload_n 0, 1) := by decide +kernel
theorem dX8_counts_15 : decode cX8_counts 15 = .ok (.getfield 7, 3) := by decide +kernel
theorem dX8_counts_18 : decode cX8_counts 18 = .ok (.aload_n 0, 1) := by decide +kernel
theorem dX8_counts_19 : decode cX8_counts 19 = .ok (.iload_n 3, 1) := by decide +kernel
theorem dX8_counts_20 : decode cX8_counts 20 = .ok (.invokevirtual 276, 3) := by decide +kernel
theorem dX8_counts_23 : decode cX8_counts 23 = .ok (.iaload, 1) := by decide +kernel
theorem dX8_counts_24 : decode cX8_counts 24 = .ok (.iload_n 1, 1) := by decide +kernel
theorem dX8_counts_25 : decode cX8_counts 25 = .ok (.if_icmp .ne 7, 3) := by decide +kernel
theorem dX8_counts_28 : decode cX8_counts 28 = .ok (.iload_n 3, 1) := by decide +kernel
theorem dX8_counts_29 : decode cX8_counts 29 = .ok (.goto 4, 3) := by decide +kernel
theorem dX8_counts_32 : decode cX8_counts 32 = .ok (.iload_n 2, 1) := by decide +kernel
theorem dX8_counts_33 : decode cX8_counts 33 = .ok (.istore_n 2, 1) := by decide +kernel
theorem dX8_counts_34 : decode cX8_counts 34 = .ok (.iinc 3 1, 3) := by decide +kernel
theorem dX8_counts_37 : decode cX8_counts 37 = .ok (.goto (-33), 3) := by decide +kernel
theorem dX8_counts_40 : decode cX8_counts 40 = .ok (.iload_n 2, 1) := by decide +kernel
theorem dX8_counts_41 : decode cX8_counts 41 = .ok (.ireturn, 1) := by decide +kernel
theorem dX8_why_0 : decode cX8_why 0 = .ok (.iload_n 1, 1) := by decide +kernel
theorem dX8_why_1 : decode cX8_why 1 = .ok (.i2l, 1) := by decide +kernel
theorem dX8_why_2 : decode cX8_why 2 = .ok (.lconst 0, 1) := by decide +kernel
theorem dX8_why_3 : decode cX8_why 3 = .ok (.ldc2_w 136, 3) := by decide +kernel
theorem dX8_why_6 : decode cX8_why 6 = .ok (.invokestatic 75, 3) := by decide +kernel
theorem dX8_why_9 : decode cX8_why 9 = .ok (.ifCond .eq 14, 3) := by decide +kernel
theorem dX8_why_12 : decode cX8_why 12 = .ok (.aload_n 0, 1) := by decide +kernel
theorem dX8_why_13 : decode cX8_why 13 = .ok (.iload_n 1, 1) := by decide +kernel
theorem dX8_why_14 : decode cX8_why 14 = .ok (.invokevirtual 95, 3) := by decide +kernel
theorem dX8_why_17 : decode cX8_why 17 = .ok (.invokestatic 187, 3) := by decide +kernel
theorem dX8_why_20 : decode cX8_why 20 = .ok (.goto 5, 3) := by decide +kernel
theorem dX8_why_23 : decode cX8_why 23 = .ok (.ldc 90, 2) := by decide +kernel
theorem dX8_why_25 : decode cX8_why 25 = .ok (.ireturn, 1) := by decide +kernel
theorem dX8_joined_0 : decode cX8_joined 0 = .ok (.iload_n 0, 1) := by decide +kernel
theorem dX8_joined_1 : decode cX8_joined 1 = .ok (.tableswitch 196 38 62 #[182, 196, 196, 196, 123, 115, 196, 119, 196, 127, 196, 196, 196, 196, 196, 196, 196, 196, 196, 196, 196, 196, 149, 171, 160], 115) := by decide +kernel
theorem dX8_joined_116 : decode cX8_joined 116 = .ok (.iload_n 1, 1) := by decide +kernel
theorem dX8_joined_117 : decode cX8_joined 117 = .ok (.iload_n 2, 1) := by decide +kernel
theorem dX8_joined_118 : decode cX8_joined 118 = .ok (.iadd, 1) := by decide +kernel
theorem dX8_joined_119 : decode cX8_joined 119 = .ok (.ireturn, 1) := by decide +kernel
theorem dX8_joined_120 : decode cX8_joined 120 = .ok (.iload_n 1, 1) := by decide +kernel
theorem dX8_joined_121 : decode cX8_joined 121 = .ok (.iload_n 2, 1) := by decide +kernel
theorem dX8_joined_122 : decode cX8_joined 122 = .ok (.isub, 1) := by decide +kernel
theorem dX8_joined_123 : decode cX8_joined 123 = .ok (.ireturn, 1) := by decide +kernel
theorem dX8_joined_124 : decode cX8_joined 124 = .ok (.iload_n 1, 1) := by decide +kernel
theorem dX8_joined_125 : decode cX8_joined 125 = .ok (.iload_n 2, 1) := by decide +kernel
theorem dX8_joined_126 : decode cX8_joined 126 = .ok (.imul, 1) := by decide +kernel
theorem dX8_joined_127 : decode cX8_joined 127 = .ok (.ireturn, 1) := by decide +kernel
theorem dX8_joined_128 : decode cX8_joined 128 = .ok (.iload_n 2, 1) := by decide +kernel
theorem dX8_joined_129 : decode cX8_joined 129 = .ok (.ifCond .ne 7, 3) := by decide +kernel
theorem dX8_joined_132 : decode cX8_joined 132 = .ok (.iconst 0, 1) := by decide +kernel
theorem dX8_joined_133 : decode cX8_joined 133 = .ok (.goto 16, 3) := by decide +kernel
theorem dX8_joined_136 : decode cX8_joined 136 = .ok (.iload_n 2, 1) := by decide +kernel
theorem dX8_joined_137 : decode cX8_joined 137 = .ok (.iconst (-1), 1) := by decide +kernel
theorem dX8_joined_138 : decode cX8_joined 138 = .ok (.if_icmp .ne 8, 3) := by decide +kernel
theorem dX8_joined_141 : decode cX8_joined 141 = .ok (.iload_n 1, 1) := by decide +kernel
theorem dX8_joined_142 : decode cX8_joined 142 = .ok (.ineg, 1) := by decide +kernel
theorem dX8_joined_143 : decode cX8_joined 143 = .ok (.goto 6, 3) := by decide +kernel
theorem dX8_joined_146 : decode cX8_joined 146 = .ok (.iload_n 1, 1) := by decide +kernel
theorem dX8_joined_147 : decode cX8_joined 147 = .ok (.iload_n 2, 1) := by decide +kernel
theorem dX8_joined_148 : decode cX8_joined 148 = .ok (.idiv, 1) := by decide +kernel
theorem dX8_joined_149 : decode cX8_joined 149 = .ok (.ireturn, 1) := by decide +kernel
theorem dX8_joined_150 : decode cX8_joined 150 = .ok (.iload_n 1, 1) := by decide +kernel
theorem dX8_joined_151 : decode cX8_joined 151 = .ok (.iload_n 2, 1) := by decide +kernel
theorem dX8_joined_152 : decode cX8_joined 152 = .ok (.if_icmp .ge 7, 3) := by decide +kernel
theorem dX8_joined_155 : decode cX8_joined 155 = .ok (.iconst 1, 1) := by decide +kernel
theorem dX8_joined_156 : decode cX8_joined 156 = .ok (.goto 4, 3) := by decide +kernel
theorem dX8_joined_159 : decode cX8_joined 159 = .ok (.iconst 0, 1) := by decide +kernel
theorem dX8_joined_160 : decode cX8_joined 160 = .ok (.ireturn, 1) := by decide +kernel
theorem dX8_joined_161 : decode cX8_joined 161 = .ok (.iload_n 1, 1) := by decide +kernel
theorem dX8_joined_162 : decode cX8_joined 162 = .ok (.iload_n 2, 1) := by decide +kernel
theorem dX8_joined_163 : decode cX8_joined 163 = .ok (.if_icmp .le 7, 3) := by decide +kernel
theorem dX8_joined_166 : decode cX8_joined 166 = .ok (.iconst 1, 1) := by decide +kernel
theorem dX8_joined_167 : decode cX8_joined 167 = .ok (.goto 4, 3) := by decide +kernel
theorem dX8_joined_170 : decode cX8_joined 170 = .ok (.iconst 0, 1) := by decide +kernel
theorem dX8_joined_171 : decode cX8_joined 171 = .ok (.ireturn, 1) := by decide +kernel
theorem dX8_joined_172 : decode cX8_joined 172 = .ok (.iload_n 1, 1) := by decide +kernel
theorem dX8_joined_173 : decode cX8_joined 173 = .ok (.iload_n 2, 1) := by decide +kernel
theorem dX8_joined_174 : decode cX8_joined 174 = .ok (.if_icmp .ne 7, 3) := by decide +kernel
theorem dX8_joined_177 : decode cX8_joined 177 = .ok (.iconst 1, 1) := by decide +kernel
theorem dX8_joined_178 : decode cX8_joined 178 = .ok (.goto 4, 3) := by decide +kernel
theorem dX8_joined_181 : decode cX8_joined 181 = .ok (.iconst 0, 1) := by decide +kernel
theorem dX8_joined_182 : decode cX8_joined 182 = .ok (.ireturn, 1) := by decide +kernel
theorem dX8_joined_183 : decode cX8_joined 183 = .ok (.iload_n 1, 1) := by decide +kernel
theorem dX8_joined_184 : decode cX8_joined 184 = .ok (.ifCond .eq 11, 3) := by decide +kernel
theorem dX8_joined_187 : decode cX8_joined 187 = .ok (.iload_n 2, 1) := by decide +kernel
theorem dX8_joined_188 : decode cX8_joined 188 = .ok (.ifCond .eq 7, 3) := by decide +kernel
theorem dX8_joined_191 : decode cX8_joined 191 = .ok (.iconst 1, 1) := by decide +kernel
theorem dX8_joined_192 : decode cX8_joined 192 = .ok (.goto 4, 3) := by decide +kernel
theorem dX8_joined_195 : decode cX8_joined 195 = .ok (.iconst 0, 1) := by decide +kernel
theorem dX8_joined_196 : decode cX8_joined 196 = .ok (.ireturn, 1) := by decide +kernel
theorem dX8_joined_197 : decode cX8_joined 197 = .ok (.iload_n 1, 1) := by decide +kernel
theorem dX8_joined_198 : decode cX8_joined 198 = .ok (.ifCond .ne 7, 3) := by decide +kernel
theorem dX8_joined_201 : decode cX8_joined 201 = .ok (.iload_n 2, 1) := by decide +kernel
theorem dX8_joined_202 : decode cX8_joined 202 = .ok (.ifCond .eq 7, 3) := by decide +kernel
theorem dX8_joined_205 : decode cX8_joined 205 = .ok (.iconst 1, 1) := by decide +kernel
theorem dX8_joined_206 : decode cX8_joined 206 = .ok (.goto 4, 3) := by decide +kernel
theorem dX8_joined_209 : decode cX8_joined 209 = .ok (.iconst 0, 1) := by decide +kernel
theorem dX8_joined_210 : decode cX8_joined 210 = .ok (.ireturn, 1) := by decide +kernel
theorem dX8_worked_0 : decode cX8_worked 0 = .ok (.iconst 0, 1) := by decide +kernel
theorem dX8_worked_1 : decode cX8_worked 1 = .ok (.istore_n 2, 1) := by decide +kernel
theorem dX8_worked_2 : decode cX8_worked 2 = .ok (.aload_n 0, 1) := by decide +kernel
theorem dX8_worked_3 : decode cX8_worked 3 = .ok (.iload_n 1, 1) := by decide +kernel
theorem dX8_worked_4 : decode cX8_worked 4 = .ok (.invokevirtual 276, 3) := by decide +kernel
theorem dX8_worked_7 : decode cX8_worked 7 = .ok (.iconst 4, 1) := by decide +kernel
theorem dX8_worked_8 : decode cX8_worked 8 = .ok (.iadd, 1) := by decide +kernel
theorem dX8_worked_9 : decode cX8_worked 9 = .ok (.iconst 2, 1) := by decide +kernel
theorem dX8_worked_10 : decode cX8_worked 10 = .ok (.aload_n 0, 1) := by decide +kernel
theorem dX8_worked_11 : decode cX8_worked 11 = .ok (.getfield 7, 3) := by decide +kernel
theorem dX8_worked_14 : decode cX8_worked 14 = .ok (.aload_n 0, 1) := by decide +kernel
theorem dX8_worked_15 : decode cX8_worked 15 = .ok (.iload_n 1, 1) := by decide +kernel
theorem dX8_worked_16 : decode cX8_worked 16 = .ok (.invokevirtual 276, 3) := by decide +kernel
theorem dX8_worked_19 : decode cX8_worked 19 = .ok (.iconst 2, 1) := by decide +kernel
theorem dX8_worked_20 : decode cX8_worked 20 = .ok (.iadd, 1) := by decide +kernel
theorem dX8_worked_21 : decode cX8_worked 21 = .ok (.iaload, 1) := by decide +kernel
theorem dX8_worked_22 : decode cX8_worked 22 = .ok (.imul, 1) := by decide +kernel
theorem dX8_worked_23 : decode cX8_worked 23 = .ok (.iadd, 1) := by decide +kernel
theorem dX8_worked_24 : decode cX8_worked 24 = .ok (.istore_n 3, 1) := by decide +kernel
theorem dX8_worked_25 : decode cX8_worked 25 = .ok (.aload_n 0, 1) := by decide +kernel
theorem dX8_worked_26 : decode cX8_worked 26 = .ok (.iload_n 1, 1) := by decide +kernel
theorem dX8_worked_27 : decode cX8_worked 27 = .ok (.invokevirtual 276, 3) := by decide +kernel
theorem dX8_worked_30 : decode cX8_worked 30 = .ok (.iconst 4, 1) := by decide +kernel
theorem dX8_worked_31 : decode cX8_worked 31 = .ok (.iadd, 1) := by decide +kernel
theorem dX8_worked_32 : decode cX8_worked 32 = .ok (.istore 4, 2) := by decide +kernel
theorem dX8_worked_34 : decode cX8_worked 34 = .ok (.iload 4, 2) := by decide +kernel
theorem dX8_worked_36 : decode cX8_worked 36 = .ok (.iload_n 3, 1) := by decide +kernel
theorem dX8_worked_37 : decode cX8_worked 37 = .ok (.if_icmp .ge 128, 3) := by decide +kernel
theorem dX8_worked_40 : decode cX8_worked 40 = .ok (.aload_n 0, 1) := by decide +kernel
theorem dX8_worked_41 : decode cX8_worked 41 = .ok (.getfield 7, 3) := by decide +kernel
theorem dX8_worked_44 : decode cX8_worked 44 = .ok (.iload 4, 2) := by decide +kernel
theorem dX8_worked_46 : decode cX8_worked 46 = .ok (.iaload, 1) := by decide +kernel
theorem dX8_worked_47 : decode cX8_worked 47 = .ok (.istore 5, 2) := by decide +kernel
theorem dX8_worked_49 : decode cX8_worked 49 = .ok (.aload_n 0, 1) := by decide +kernel
theorem dX8_worked_50 : decode cX8_worked 50 = .ok (.getfield 7, 3) := by decide +kernel
theorem dX8_worked_53 : decode cX8_worked 53 = .ok (.iload 4, 2) := by decide +kernel
theorem dX8_worked_55 : decode cX8_worked 55 = .ok (.iconst 1, 1) := by decide +kernel
theorem dX8_worked_56 : decode cX8_worked 56 = .ok (.iadd, 1) := by decide +kernel
theorem dX8_worked_57 : decode cX8_worked 57 = .ok (.iaload, 1) := by decide +kernel
theorem dX8_worked_58 : decode cX8_worked 58 = .ok (.istore 6, 2) := by decide +kernel
theorem dX8_worked_60 : decode cX8_worked 60 = .ok (.iload 5, 2) := by decide +kernel
theorem dX8_worked_62 : decode cX8_worked 62 = .ok (.iconst 2, 1) := by decide +kernel
theorem dX8_worked_63 : decode cX8_worked 63 = .ok (.if_icmp .eq 32, 3) := by decide +kernel
theorem dX8_worked_66 : decode cX8_worked 66 = .ok (.aload_n 0, 1) := by decide +kernel
theorem dX8_worked_67 : decode cX8_worked 67 = .ok (.getfield 62, 3) := by decide +kernel
theorem dX8_worked_70 : decode cX8_worked 70 = .ok (.iload_n 2, 1) := by decide +kernel
theorem dX8_worked_71 : decode cX8_worked 71 = .ok (.iload 5, 2) := by decide +kernel
theorem dX8_worked_73 : decode cX8_worked 73 = .ok (.ifCond .ne 8, 3) := by decide +kernel
theorem dX8_worked_76 : decode cX8_worked 76 = .ok (.iload 6, 2) := by decide +kernel
theorem dX8_worked_78 : decode cX8_worked 78 = .ok (.goto 10, 3) := by decide +kernel
theorem dX8_worked_81 : decode cX8_worked 81 = .ok (.aload_n 0, 1) := by decide +kernel
theorem dX8_worked_82 : decode cX8_worked 82 = .ok (.getfield 59, 3) := by decide +kernel
theorem dX8_worked_85 : decode cX8_worked 85 = .ok (.iload 6, 2) := by decide +kernel
theorem dX8_worked_87 : decode cX8_worked 87 = .ok (.iaload, 1) := by decide +kernel
theorem dX8_worked_88 : decode cX8_worked 88 = .ok (.iastore, 1) := by decide +kernel
theorem dX8_worked_89 : decode cX8_worked 89 = .ok (.iinc 2 1, 3) := by decide +kernel
theorem dX8_worked_92 : decode cX8_worked 92 = .ok (.goto 67, 3) := by decide +kernel
theorem dX8_worked_95 : decode cX8_worked 95 = .ok (.iload 6, 2) := by decide +kernel
theorem dX8_worked_97 : decode cX8_worked 97 = .ok (.bipush 33, 2) := by decide +kernel
theorem dX8_worked_99 : decode cX8_worked 99 = .ok (.if_icmp .ne 30, 3) := by decide +kernel
theorem dX8_worked_102 : decode cX8_worked 102 = .ok (.aload_n 0, 1) := by decide +kernel
theorem dX8_worked_103 : decode cX8_worked 103 = .ok (.getfield 62, 3) := by decide +kernel
theorem dX8_worked_106 : decode cX8_worked 106 = .ok (.iload_n 2, 1) := by decide +kernel
theorem dX8_worked_107 : decode cX8_worked 107 = .ok (.iconst 1, 1) := by decide +kernel
theorem dX8_worked_108 : decode cX8_worked 108 = .ok (.isub, 1) := by decide +kernel
theorem dX8_worked_109 : decode cX8_worked 109 = .ok (.aload_n 0, 1) := by decide +kernel
theorem dX8_worked_110 : decode cX8_worked 110 = .ok (.getfield 62, 3) := by decide +kernel
theorem dX8_worked_113 : decode cX8_worked 113 = .ok (.iload_n 2, 1) := by decide +kernel
theorem dX8_worked_114 : decode cX8_worked 114 = .ok (.iconst 1, 1) := by decide +kernel
theorem dX8_worked_115 : decode cX8_worked 115 = .ok (.isub, 1) := by decide +kernel
theorem dX8_worked_116 : decode cX8_worked 116 = .ok (.iaload, 1) := by decide +kernel
theorem dX8_worked_117 : decode cX8_worked 117 = .ok (.ifCond .ne 7, 3) := by decide +kernel
theorem dX8_worked_120 : decode cX8_worked 120 = .ok (.iconst 1, 1) := by decide +kernel
theorem dX8_worked_121 : decode cX8_worked 121 = .ok (.goto 4, 3) := by decide +kernel
theorem dX8_worked_124 : decode cX8_worked 124 = .ok (.iconst 0, 1) := by decide +kernel
theorem dX8_worked_125 : decode cX8_worked 125 = .ok (.iastore, 1) := by decide +kernel
theorem dX8_worked_126 : decode cX8_worked 126 = .ok (.goto 33, 3) := by decide +kernel
theorem dX8_worked_129 : decode cX8_worked 129 = .ok (.iinc 2 (-1), 3) := by decide +kernel
theorem dX8_worked_132 : decode cX8_worked 132 = .ok (.aload_n 0, 1) := by decide +kernel
theorem dX8_worked_133 : decode cX8_worked 133 = .ok (.getfield 62, 3) := by decide +kernel
theorem dX8_worked_136 : decode cX8_worked 136 = .ok (.iload_n 2, 1) := by decide +kernel
theorem dX8_worked_137 : decode cX8_worked 137 = .ok (.iconst 1, 1) := by decide +kernel
theorem dX8_worked_138 : decode cX8_worked 138 = .ok (.isub, 1) := by decide +kernel
theorem dX8_worked_139 : decode cX8_worked 139 = .ok (.iload 6, 2) := by decide +kernel
theorem dX8_worked_141 : decode cX8_worked 141 = .ok (.aload_n 0, 1) := by decide +kernel
theorem dX8_worked_142 : decode cX8_worked 142 = .ok (.getfield 62, 3) := by decide +kernel
theorem dX8_worked_145 : decode cX8_worked 145 = .ok (.iload_n 2, 1) := by decide +kernel
theorem dX8_worked_146 : decode cX8_worked 146 = .ok (.iconst 1, 1) := by decide +kernel
theorem dX8_worked_147 : decode cX8_worked 147 = .ok (.isub, 1) := by decide +kernel
theorem dX8_worked_148 : decode cX8_worked 148 = .ok (.iaload, 1) := by decide +kernel
theorem dX8_worked_149 : decode cX8_worked 149 = .ok (.aload_n 0, 1) := by decide +kernel
theorem dX8_worked_150 : decode cX8_worked 150 = .ok (.getfield 62, 3) := by decide +kernel
theorem dX8_worked_153 : decode cX8_worked 153 = .ok (.iload_n 2, 1) := by decide +kernel
theorem dX8_worked_154 : decode cX8_worked 154 = .ok (.iaload, 1) := by decide +kernel
theorem dX8_worked_155 : decode cX8_worked 155 = .ok (.invokestatic 291, 3) := by decide +kernel
theorem dX8_worked_158 : decode cX8_worked 158 = .ok (.iastore, 1) := by decide +kernel
theorem dX8_worked_159 : decode cX8_worked 159 = .ok (.iinc 4 2, 3) := by decide +kernel
theorem dX8_worked_162 : decode cX8_worked 162 = .ok (.goto (-128), 3) := by decide +kernel
theorem dX8_worked_165 : decode cX8_worked 165 = .ok (.aload_n 0, 1) := by decide +kernel
theorem dX8_worked_166 : decode cX8_worked 166 = .ok (.getfield 62, 3) := by decide +kernel
theorem dX8_worked_169 : decode cX8_worked 169 = .ok (.iconst 0, 1) := by decide +kernel
theorem dX8_worked_170 : decode cX8_worked 170 = .ok (.iaload, 1) := by decide +kernel
theorem dX8_worked_171 : decode cX8_worked 171 = .ok (.ireturn, 1) := by decide +kernel
theorem dX8_isSheet_0 : decode cX8_isSheet 0 = .ok (.iload_n 0, 1) := by decide +kernel
theorem dX8_isSheet_1 : decode cX8_isSheet 1 = .ok (.i2l, 1) := by decide +kernel
theorem dX8_isSheet_2 : decode cX8_isSheet 2 = .ok (.lconst 0, 1) := by decide +kernel
theorem dX8_isSheet_3 : decode cX8_isSheet 3 = .ok (.ldc2_w 295, 3) := by decide +kernel
theorem dX8_isSheet_6 : decode cX8_isSheet 6 = .ok (.invokestatic 75, 3) := by decide +kernel
theorem dX8_isSheet_9 : decode cX8_isSheet 9 = .ok (.ireturn, 1) := by decide +kernel
theorem dX8_sheet_0 : decode cX8_sheet 0 = .ok (.iload_n 1, 1) := by decide +kernel
theorem dX8_sheet_1 : decode cX8_sheet 1 = .ok (.invokestatic 297, 3) := by decide +kernel
theorem dX8_sheet_4 : decode cX8_sheet 4 = .ok (.ifCond .eq 25, 3) := by decide +kernel
theorem dX8_sheet_7 : decode cX8_sheet 7 = .ok (.iload_n 2, 1) := by decide +kernel
theorem dX8_sheet_8 : decode cX8_sheet 8 = .ok (.i2l, 1) := by decide +kernel
theorem dX8_sheet_9 : decode cX8_sheet 9 = .ok (.ldc2_w 300, 3) := by decide +kernel
theorem dX8_sheet_12 : decode cX8_sheet 12 = .ok (.lconst 1, 1) := by decide +kernel
theorem dX8_sheet_13 : decode cX8_sheet 13 = .ok (.invokestatic 75, 3) := by decide +kernel
theorem dX8_sheet_16 : decode cX8_sheet 16 = .ok (.ifCond .eq 13, 3) := by decide +kernel
theorem dX8_sheet_19 : decode cX8_sheet 19 = .ok (.iload_n 2, 1) := by decide +kernel
theorem dX8_sheet_20 : decode cX8_sheet 20 = .ok (.ifCond .lt 12, 3) := by decide +kernel
theorem dX8_sheet_23 : decode cX8_sheet 23 = .ok (.iload_n 3, 1) := by decide +kernel
theorem dX8_sheet_24 : decode cX8_sheet 24 = .ok (.bipush 24, 2) := by decide +kernel
theorem dX8_sheet_26 : decode cX8_sheet 26 = .ok (.if_icmp .le 6, 3) := by decide +kernel
theorem dX8_sheet_29 : decode cX8_sheet 29 = .ok (.ldc 90, 2) := by decide +kernel
theorem dX8_sheet_31 : decode cX8_sheet 31 = .ok (.ireturn, 1) := by decide +kernel
theorem dX8_sheet_32 : decode cX8_sheet 32 = .ok (.iload_n 2, 1) := by decide +kernel
theorem dX8_sheet_33 : decode cX8_sheet 33 = .ok (.ifCond .lt 11, 3) := by decide +kernel
theorem dX8_sheet_36 : decode cX8_sheet 36 = .ok (.iload_n 3, 1) := by decide +kernel
theorem dX8_sheet_37 : decode cX8_sheet 37 = .ok (.ifCond .ge 7, 3) := by decide +kernel
theorem dX8_sheet_40 : decode cX8_sheet 40 = .ok (.ldc_w 302, 3) := by decide +kernel
theorem dX8_sheet_43 : decode cX8_sheet 43 = .ok (.ireturn, 1) := by decide +kernel
theorem dX8_sheet_44 : decode cX8_sheet 44 = .ok (.aload_n 0, 1) := by decide +kernel
theorem dX8_sheet_45 : decode cX8_sheet 45 = .ok (.getfield 19, 3) := by decide +kernel
theorem dX8_sheet_48 : decode cX8_sheet 48 = .ok (.iload_n 1, 1) := by decide +kernel
theorem dX8_sheet_49 : decode cX8_sheet 49 = .ok (.iload_n 2, 1) := by decide +kernel
theorem dX8_sheet_50 : decode cX8_sheet 50 = .ok (.iastore, 1) := by decide +kernel
theorem dX8_sheet_51 : decode cX8_sheet 51 = .ok (.aload_n 0, 1) := by decide +kernel
theorem dX8_sheet_52 : decode cX8_sheet 52 = .ok (.getfield 22, 3) := by decide +kernel
theorem dX8_sheet_55 : decode cX8_sheet 55 = .ok (.iload_n 1, 1) := by decide +kernel
theorem dX8_sheet_56 : decode cX8_sheet 56 = .ok (.iload_n 2, 1) := by decide +kernel
theorem dX8_sheet_57 : decode cX8_sheet 57 = .ok (.ifCond .ge 7, 3) := by decide +kernel
theorem dX8_sheet_60 : decode cX8_sheet 60 = .ok (.iconst 0, 1) := by decide +kernel
theorem dX8_sheet_61 : decode cX8_sheet 61 = .ok (.goto 4, 3) := by decide +kernel
theorem dX8_sheet_64 : decode cX8_sheet 64 = .ok (.iload_n 3, 1) := by decide +kernel
theorem dX8_sheet_65 : decode cX8_sheet 65 = .ok (.iastore, 1) := by decide +kernel
theorem dX8_sheet_66 : decode cX8_sheet 66 = .ok (.iconst 0, 1) := by decide +kernel
theorem dX8_sheet_67 : decode cX8_sheet 67 = .ok (.istore 4, 2) := by decide +kernel
theorem dX8_sheet_69 : decode cX8_sheet 69 = .ok (.iload 4, 2) := by decide +kernel
theorem dX8_sheet_71 : decode cX8_sheet 71 = .ok (.bipush 24, 2) := by decide +kernel
theorem dX8_sheet_73 : decode cX8_sheet 73 = .ok (.if_icmp .ge 22, 3) := by decide +kernel
theorem dX8_sheet_76 : decode cX8_sheet 76 = .ok (.aload_n 0, 1) := by decide +kernel
theorem dX8_sheet_77 : decode cX8_sheet 77 = .ok (.getfield 25, 3) := by decide +kernel
theorem dX8_sheet_80 : decode cX8_sheet 80 = .ok (.bipush 24, 2) := by decide +kernel
theorem dX8_sheet_82 : decode cX8_sheet 82 = .ok (.iload_n 1, 1) := by decide +kernel
theorem dX8_sheet_83 : decode cX8_sheet 83 = .ok (.imul, 1) := by decide +kernel
theorem dX8_sheet_84 : decode cX8_sheet 84 = .ok (.iload 4, 2) := by decide +kernel
theorem dX8_sheet_86 : decode cX8_sheet 86 = .ok (.iadd, 1) := by decide +kernel
theorem dX8_sheet_87 : decode cX8_sheet 87 = .ok (.iconst 0, 1) := by decide +kernel
theorem dX8_sheet_88 : decode cX8_sheet 88 = .ok (.iastore, 1) := by decide +kernel
theorem dX8_sheet_89 : decode cX8_sheet 89 = .ok (.iinc 4 1, 3) := by decide +kernel
theorem dX8_sheet_92 : decode cX8_sheet 92 = .ok (.goto (-23), 3) := by decide +kernel
theorem dX8_sheet_95 : decode cX8_sheet 95 = .ok (.aload_n 0, 1) := by decide +kernel
theorem dX8_sheet_96 : decode cX8_sheet 96 = .ok (.getfield 22, 3) := by decide +kernel
theorem dX8_sheet_99 : decode cX8_sheet 99 = .ok (.iload_n 1, 1) := by decide +kernel
theorem dX8_sheet_100 : decode cX8_sheet 100 = .ok (.iaload, 1) := by decide +kernel
theorem dX8_sheet_101 : decode cX8_sheet 101 = .ok (.ireturn, 1) := by decide +kernel
theorem dX8_mark_0 : decode cX8_mark 0 = .ok (.iload_n 1, 1) := by decide +kernel
theorem dX8_mark_1 : decode cX8_mark 1 = .ok (.invokestatic 297, 3) := by decide +kernel
theorem dX8_mark_4 : decode cX8_mark 4 = .ok (.ifCond .ne 6, 3) := by decide +kernel
theorem dX8_mark_7 : decode cX8_mark 7 = .ok (.ldc 90, 2) := by decide +kernel
theorem dX8_mark_9 : decode cX8_mark 9 = .ok (.ireturn, 1) := by decide +kernel
theorem dX8_mark_10 : decode cX8_mark 10 = .ok (.aload_n 0, 1) := by decide +kernel
theorem dX8_mark_11 : decode cX8_mark 11 = .ok (.getfield 19, 3) := by decide +kernel
theorem dX8_mark_14 : decode cX8_mark 14 = .ok (.iload_n 1, 1) := by decide +kernel
theorem dX8_mark_15 : decode cX8_mark 15 = .ok (.iaload, 1) := by decide +kernel
theorem dX8_mark_16 : decode cX8_mark 16 = .ok (.ifCond .ge 7, 3) := by decide +kernel
theorem dX8_mark_19 : decode cX8_mark 19 = .ok (.ldc_w 303, 3) := by decide +kernel
theorem dX8_mark_22 : decode cX8_mark 22 = .ok (.ireturn, 1) := by decide +kernel
theorem dX8_mark_23 : decode cX8_mark 23 = .ok (.iload_n 2, 1) := by decide +kernel
theorem dX8_mark_24 : decode cX8_mark 24 = .ok (.i2l, 1) := by decide +kernel
theorem dX8_mark_25 : decode cX8_mark 25 = .ok (.lconst 0, 1) := by decide +kernel
theorem dX8_mark_26 : decode cX8_mark 26 = .ok (.aload_n 0, 1) := by decide +kernel
theorem dX8_mark_27 : decode cX8_mark 27 = .ok (.getfield 22, 3) := by decide +kernel
theorem dX8_mark_30 : decode cX8_mark 30 = .ok (.iload_n 1, 1) := by decide +kernel
theorem dX8_mark_31 : decode cX8_mark 31 = .ok (.iaload, 1) := by decide +kernel
theorem dX8_mark_32 : decode cX8_mark 32 = .ok (.iconst 1, 1) := by decide +kernel
theorem dX8_mark_33 : decode cX8_mark 33 = .ok (.isub, 1) := by decide +kernel
theorem dX8_mark_34 : decode cX8_mark 34 = .ok (.i2l, 1) := by decide +kernel
theorem dX8_mark_35 : decode cX8_mark 35 = .ok (.invokestatic 75, 3) := by decide +kernel
theorem dX8_mark_38 : decode cX8_mark 38 = .ok (.ifCond .ne 7, 3) := by decide +kernel
theorem dX8_mark_41 : decode cX8_mark 41 = .ok (.ldc_w 304, 3) := by decide +kernel
theorem dX8_mark_44 : decode cX8_mark 44 = .ok (.ireturn, 1) := by decide +kernel
theorem dX8_mark_45 : decode cX8_mark 45 = .ok (.aload_n 0, 1) := by decide +kernel
theorem dX8_mark_46 : decode cX8_mark 46 = .ok (.getfield 19, 3) := by decide +kernel
theorem dX8_mark_49 : decode cX8_mark 49 = .ok (.iload_n 1, 1) := by decide +kernel
theorem dX8_mark_50 : decode cX8_mark 50 = .ok (.iaload, 1) := by decide +kernel
theorem dX8_mark_51 : decode cX8_mark 51 = .ok (.ifCond .ne 12, 3) := by decide +kernel
theorem dX8_mark_54 : decode cX8_mark 54 = .ok (.iload_n 3, 1) := by decide +kernel
theorem dX8_mark_55 : decode cX8_mark 55 = .ok (.ldc 74, 2) := by decide +kernel
theorem dX8_mark_57 : decode cX8_mark 57 = .ok (.if_icmp .ne 6, 3) := by decide +kernel
theorem dX8_mark_60 : decode cX8_mark 60 = .ok (.ldc 132, 2) := by decide +kernel
theorem dX8_mark_62 : decode cX8_mark 62 = .ok (.ireturn, 1) := by decide +kernel
theorem dX8_mark_63 : decode cX8_mark 63 = .ok (.aload_n 0, 1) := by decide +kernel
theorem dX8_mark_64 : decode cX8_mark 64 = .ok (.getfield 19, 3) := by decide +kernel
theorem dX8_mark_67 : decode cX8_mark 67 = .ok (.iload_n 1, 1) := by decide +kernel
theorem dX8_mark_68 : decode cX8_mark 68 = .ok (.iaload, 1) := by decide +kernel
theorem dX8_mark_69 : decode cX8_mark 69 = .ok (.iconst 1, 1) := by decide +kernel
theorem dX8_mark_70 : decode cX8_mark 70 = .ok (.if_icmp .ne 26, 3) := by decide +kernel
theorem dX8_mark_73 : decode cX8_mark 73 = .ok (.iload_n 3, 1) := by decide +kernel
theorem dX8_mark_74 : decode cX8_mark 74 = .ok (.ldc 74, 2) := by decide +kernel
theorem dX8_mark_76 : decode cX8_mark 76 = .ok (.if_icmp .eq 20, 3) := by decide +kernel
theorem dX8_mark_79 : decode cX8_mark 79 = .ok (.iload_n 3, 1) := by decide +kernel
theorem dX8_mark_80 : decode cX8_mark 80 = .ok (.i2l, 1) := by decide +kernel
theorem dX8_mark_81 : decode cX8_mark 81 = .ok (.ldc2_w 305, 3) := by decide +kernel
theorem dX8_mark_84 : decode cX8_mark 84 = .ok (.ldc2_w 307, 3) := by decide +kernel
theorem dX8_mark_87 : decode cX8_mark 87 = .ok (.invokestatic 75, 3) := by decide +kernel
theorem dX8_mark_90 : decode cX8_mark 90 = .ok (.ifCond .ne 6, 3) := by decide +kernel
theorem dX8_mark_93 : decode cX8_mark 93 = .ok (.ldc 90, 2) := by decide +kernel
theorem dX8_mark_95 : decode cX8_mark 95 = .ok (.ireturn, 1) := by decide +kernel
theorem dX8_mark_96 : decode cX8_mark 96 = .ok (.aload_n 0, 1) := by decide +kernel
theorem dX8_mark_97 : decode cX8_mark 97 = .ok (.getfield 25, 3) := by decide +kernel
theorem dX8_mark_100 : decode cX8_mark 100 = .ok (.bipush 24, 2) := by decide +kernel
theorem dX8_mark_102 : decode cX8_mark 102 = .ok (.iload_n 1, 1) := by decide +kernel
theorem dX8_mark_103 : decode cX8_mark 103 = .ok (.imul, 1) := by decide +kernel
theorem dX8_mark_104 : decode cX8_mark 104 = .ok (.iload_n 2, 1) := by decide +kernel
theorem dX8_mark_105 : decode cX8_mark 105 = .ok (.iadd, 1) := by decide +kernel
theorem dX8_mark_106 : decode cX8_mark 106 = .ok (.aload_n 0, 1) := by decide +kernel
theorem dX8_mark_107 : decode cX8_mark 107 = .ok (.getfield 19, 3) := by decide +kernel
theorem dX8_mark_110 : decode cX8_mark 110 = .ok (.iload_n 1, 1) := by decide +kernel
theorem dX8_mark_111 : decode cX8_mark 111 = .ok (.iaload, 1) := by decide +kernel
theorem dX8_mark_112 : decode cX8_mark 112 = .ok (.ifCond .ne 13, 3) := by decide +kernel
theorem dX8_mark_115 : decode cX8_mark 115 = .ok (.iload_n 3, 1) := by decide +kernel
theorem dX8_mark_116 : decode cX8_mark 116 = .ok (.bipush 16, 2) := by decide +kernel
theorem dX8_mark_118 : decode cX8_mark 118 = .ok (.ishl, 1) := by decide +kernel
theorem dX8_mark_119 : decode cX8_mark 119 = .ok (.bipush 16, 2) := by decide +kernel
theorem dX8_mark_121 : decode cX8_mark 121 = .ok (.ishr, 1) := by decide +kernel
theorem dX8_mark_122 : decode cX8_mark 122 = .ok (.goto 4, 3) := by decide +kernel
theorem dX8_mark_125 : decode cX8_mark 125 = .ok (.iload_n 3, 1) := by decide +kernel
theorem dX8_mark_126 : decode cX8_mark 126 = .ok (.iastore, 1) := by decide +kernel
theorem dX8_mark_127 : decode cX8_mark 127 = .ok (.iconst 1, 1) := by decide +kernel
theorem dX8_mark_128 : decode cX8_mark 128 = .ok (.ireturn, 1) := by decide +kernel
theorem dX8_pour_0 : decode cX8_pour 0 = .ok (.iload_n 1, 1) := by decide +kernel
theorem dX8_pour_1 : decode cX8_pour 1 = .ok (.invokestatic 297, 3) := by decide +kernel
theorem dX8_pour_4 : decode cX8_pour 4 = .ok (.ifCond .ne 6, 3) := by decide +kernel
theorem dX8_pour_7 : decode cX8_pour 7 = .ok (.ldc 90, 2) := by decide +kernel
theorem dX8_pour_9 : decode cX8_pour 9 = .ok (.ireturn, 1) := by decide +kernel
theorem dX8_pour_10 : decode cX8_pour 10 = .ok (.aload_n 0, 1) := by decide +kernel
theorem dX8_pour_11 : decode cX8_pour 11 = .ok (.getfield 19, 3) := by decide +kernel
theorem dX8_pour_14 : decode cX8_pour 14 = .ok (.iload_n 1, 1) := by decide +kernel
theorem dX8_pour_15 : decode cX8_pour 15 = .ok (.iaload, 1) := by decide +kernel
theorem dX8_pour_16 : decode cX8_pour 16 = .ok (.ifCond .ge 7, 3) := by decide +kernel
theorem dX8_pour_19 : decode cX8_pour 19 = .ok (.ldc_w 303, 3) := by decide +kernel
theorem dX8_pour_22 : decode cX8_pour 22 = .ok (.ireturn, 1) := by decide +kernel
theorem dX8_pour_23 : decode cX8_pour 23 = .ok (.iconst 0, 1) := by decide +kernel
theorem dX8_pour_24 : decode cX8_pour 24 = .ok (.istore_n 2, 1) := by decide +kernel
theorem dX8_pour_25 : decode cX8_pour 25 = .ok (.iconst 0, 1) := by decide +kernel
theorem dX8_pour_26 : decode cX8_pour 26 = .ok (.istore_n 3, 1) := by decide +kernel
theorem dX8_pour_27 : decode cX8_pour 27 = .ok (.iload_n 3, 1) := by decide +kernel
theorem dX8_pour_28 : decode cX8_pour 28 = .ok (.aload_n 0, 1) := by decide +kernel
theorem dX8_pour_29 : decode cX8_pour 29 = .ok (.getfield 22, 3) := by decide +kernel
theorem dX8_pour_32 : decode cX8_pour 32 = .ok (.iload_n 1, 1) := by decide +kernel
theorem dX8_pour_33 : decode cX8_pour 33 = .ok (.iaload, 1) := by decide +kernel
theorem dX8_pour_34 : decode cX8_pour 34 = .ok (.if_icmp .ge 91, 3) := by decide +kernel
theorem dX8_pour_37 : decode cX8_pour 37 = .ok (.iload_n 3, 1) := by decide +kernel
theorem dX8_pour_38 : decode cX8_pour 38 = .ok (.aload_n 0, 1) := by decide +kernel
theorem dX8_pour_39 : decode cX8_pour 39 = .ok (.getfield 7, 3) := by decide +kernel
theorem dX8_pour_42 : decode cX8_pour 42 = .ok (.iconst 0, 1) := by decide +kernel
theorem dX8_pour_43 : decode cX8_pour 43 = .ok (.iaload, 1) := by decide +kernel
theorem dX8_pour_44 : decode cX8_pour 44 = .ok (.if_icmp .ge 81, 3) := by decide +kernel
theorem dX8_pour_47 : decode cX8_pour 47 = .ok (.aload_n 0, 1) := by decide +kernel
theorem dX8_pour_48 : decode cX8_pour 48 = .ok (.getfield 25, 3) := by decide +kernel
theorem dX8_pour_51 : decode cX8_pour 51 = .ok (.bipush 24, 2) := by decide +kernel
theorem dX8_pour_53 : decode cX8_pour 53 = .ok (.iload_n 1, 1) := by decide +kernel
theorem dX8_pour_54 : decode cX8_pour 54 = .ok (.imul, 1) := by decide +kernel
theorem dX8_pour_55 : decode cX8_pour 55 = .ok (.iload_n 3, 1) := by decide +kernel
theorem dX8_pour_56 : decode cX8_pour 56 = .ok (.iadd, 1) := by decide +kernel
theorem dX8_pour_57 : decode cX8_pour 57 = .ok (.iaload, 1) := by decide +kernel
theorem dX8_pour_58 : decode cX8_pour 58 = .ok (.istore 4, 2) := by decide +kernel
theorem dX8_pour_60 : decode cX8_pour 60 = .ok (.iload 4, 2) := by decide +kernel
theorem dX8_pour_62 : decode cX8_pour 62 = .ok (.ldc 74, 2) := by decide +kernel
theorem dX8_pour_64 : decode cX8_pour 64 = .ok (.if_icmp .ne 19, 3) := by decide +kernel
theorem dX8_pour_67 : decode cX8_pour 67 = .ok (.aload_n 0, 1) := by decide +kernel
theorem dX8_pour_68 : decode cX8_pour 68 = .ok (.getfield 7, 3) := by decide +kernel
theorem dX8_pour_71 : decode cX8_pour 71 = .ok (.bipush 20, 2) := by decide +kernel
theorem dX8_pour_73 : decode cX8_pour 73 = .ok (.iconst 4, 1) := by decide +kernel
theorem dX8_pour_74 : decode cX8_pour 74 = .ok (.iload_n 3, 1) := by decide +kernel
theorem dX8_pour_75 : decode cX8_pour 75 = .ok (.imul, 1) := by decide +kernel
theorem dX8_pour_76 : decode cX8_pour 76 = .ok (.iadd, 1) := by decide +kernel
theorem dX8_pour_77 : decode cX8_pour 77 = .ok (.iconst 2, 1) := by decide +kernel
theorem dX8_pour_78 : decode cX8_pour 78 = .ok (.iadd, 1) := by decide +kernel
theorem dX8_pour_79 : decode cX8_pour 79 = .ok (.iaload, 1) := by decide +kernel
theorem dX8_pour_80 : decode cX8_pour 80 = .ok (.goto 10, 3) := by decide +kernel
theorem dX8_pour_83 : decode cX8_pour 83 = .ok (.iload 4, 2) := by decide +kernel
theorem dX8_pour_85 : decode cX8_pour 85 = .ok (.bipush 9, 2) := by decide +kernel
theorem dX8_pour_87 : decode cX8_pour 87 = .ok (.invokestatic 106, 3) := by decide +kernel
theorem dX8_pour_90 : decode cX8_pour 90 = .ok (.istore 5, 2) := by decide +kernel
theorem dX8_pour_92 : decode cX8_pour 92 = .ok (.iload_n 2, 1) := by decide +kernel
theorem dX8_pour_93 : decode cX8_pour 93 = .ok (.iload 5, 2) := by decide +kernel
theorem dX8_pour_95 : decode cX8_pour 95 = .ok (.aload_n 0, 1) := by decide +kernel
theorem dX8_pour_96 : decode cX8_pour 96 = .ok (.bipush 20, 2) := by decide +kernel
theorem dX8_pour_98 : decode cX8_pour 98 = .ok (.iconst 4, 1) := by decide +kernel
theorem dX8_pour_99 : decode cX8_pour 99 = .ok (.iload_n 3, 1) := by decide +kernel
theorem dX8_pour_100 : decode cX8_pour 100 = .ok (.imul, 1) := by decide +kernel
theorem dX8_pour_101 : decode cX8_pour 101 = .ok (.iadd, 1) := by decide +kernel
theorem dX8_pour_102 : decode cX8_pour 102 = .ok (.iconst 2, 1) := by decide +kernel
theorem dX8_pour_103 : decode cX8_pour 103 = .ok (.iadd, 1) := by decide +kernel
theorem dX8_pour_104 : decode cX8_pour 104 = .ok (.iload 5, 2) := by decide +kernel
theorem dX8_pour_106 : decode cX8_pour 106 = .ok (.invokevirtual 133, 3) := by decide +kernel
theorem dX8_pour_109 : decode cX8_pour 109 = .ok (.if_icmp .ne 7, 3) := by decide +kernel
theorem dX8_pour_112 : decode cX8_pour 112 = .ok (.iconst 0, 1) := by decide +kernel
theorem dX8_pour_113 : decode cX8_pour 113 = .ok (.goto 4, 3) := by decide +kernel
theorem dX8_pour_116 : decode cX8_pour 116 = .ok (.iconst 1, 1) := by decide +kernel
theorem dX8_pour_117 : decode cX8_pour 117 = .ok (.iadd, 1) := by decide +kernel
theorem dX8_pour_118 : decode cX8_pour 118 = .ok (.istore_n 2, 1) := by decide +kernel
theorem dX8_pour_119 : decode cX8_pour 119 = .ok (.iinc 3 1, 3) := by decide +kernel
theorem dX8_pour_122 : decode cX8_pour 122 = .ok (.goto (-95), 3) := by decide +kernel
theorem dX8_pour_125 : decode cX8_pour 125 = .ok (.iload_n 2, 1) := by decide +kernel
theorem dX8_pour_126 : decode cX8_pour 126 = .ok (.ireturn, 1) := by decide +kernel
theorem dX8_reads_0 : decode cX8_reads 0 = .ok (.iload_n 1, 1) := by decide +kernel
theorem dX8_reads_1 : decode cX8_reads 1 = .ok (.invokestatic 297, 3) := by decide +kernel
theorem dX8_reads_4 : decode cX8_reads 4 = .ok (.ifCond .ne 6, 3) := by decide +kernel
theorem dX8_reads_7 : decode cX8_reads 7 = .ok (.ldc 90, 2) := by decide +kernel
theorem dX8_reads_9 : decode cX8_reads 9 = .ok (.ireturn, 1) := by decide +kernel
theorem dX8_reads_10 : decode cX8_reads 10 = .ok (.aload_n 0, 1) := by decide +kernel
theorem dX8_reads_11 : decode cX8_reads 11 = .ok (.getfield 19, 3) := by decide +kernel
theorem dX8_reads_14 : decode cX8_reads 14 = .ok (.iload_n 1, 1) := by decide +kernel
theorem dX8_reads_15 : decode cX8_reads 15 = .ok (.iaload, 1) := by decide +kernel
theorem dX8_reads_16 : decode cX8_reads 16 = .ok (.ifCond .ge 7, 3) := by decide +kernel
theorem dX8_reads_19 : decode cX8_reads 19 = .ok (.ldc_w 303, 3) := by decide +kernel
theorem dX8_reads_22 : decode cX8_reads 22 = .ok (.ireturn, 1) := by decide +kernel
theorem dX8_reads_23 : decode cX8_reads 23 = .ok (.iconst 0, 1) := by decide +kernel
theorem dX8_reads_24 : decode cX8_reads 24 = .ok (.istore_n 2, 1) := by decide +kernel
theorem dX8_reads_25 : decode cX8_reads 25 = .ok (.iload_n 2, 1) := by decide +kernel
theorem dX8_reads_26 : decode cX8_reads 26 = .ok (.aload_n 0, 1) := by decide +kernel
theorem dX8_reads_27 : decode cX8_reads 27 = .ok (.getfield 22, 3) := by decide +kernel
theorem dX8_reads_30 : decode cX8_reads 30 = .ok (.iload_n 1, 1) := by decide +kernel
theorem dX8_reads_31 : decode cX8_reads 31 = .ok (.iaload, 1) := by decide +kernel
theorem dX8_reads_32 : decode cX8_reads 32 = .ok (.if_icmp .ge 52, 3) := by decide +kernel
theorem dX8_reads_35 : decode cX8_reads 35 = .ok (.aload_n 0, 1) := by decide +kernel
theorem dX8_reads_36 : decode cX8_reads 36 = .ok (.getfield 25, 3) := by decide +kernel
theorem dX8_reads_39 : decode cX8_reads 39 = .ok (.bipush 24, 2) := by decide +kernel
theorem dX8_reads_41 : decode cX8_reads 41 = .ok (.iload_n 1, 1) := by decide +kernel
theorem dX8_reads_42 : decode cX8_reads 42 = .ok (.imul, 1) := by decide +kernel
theorem dX8_reads_43 : decode cX8_reads 43 = .ok (.iload_n 2, 1) := by decide +kernel
theorem dX8_reads_44 : decode cX8_reads 44 = .ok (.iadd, 1) := by decide +kernel
theorem dX8_reads_45 : decode cX8_reads 45 = .ok (.iaload, 1) := by decide +kernel
theorem dX8_reads_46 : decode cX8_reads 46 = .ok (.istore_n 3, 1) := by decide +kernel
theorem dX8_reads_47 : decode cX8_reads 47 = .ok (.iload_n 3, 1) := by decide +kernel
theorem dX8_reads_48 : decode cX8_reads 48 = .ok (.ldc 74, 2) := by decide +kernel
theorem dX8_reads_50 : decode cX8_reads 50 = .ok (.if_icmp .eq 28, 3) := by decide +kernel
theorem dX8_reads_53 : decode cX8_reads 53 = .ok (.iload_n 2, 1) := by decide +kernel
theorem dX8_reads_54 : decode cX8_reads 54 = .ok (.aload_n 0, 1) := by decide +kernel
theorem dX8_reads_55 : decode cX8_reads 55 = .ok (.getfield 7, 3) := by decide +kernel
theorem dX8_reads_58 : decode cX8_reads 58 = .ok (.iconst 0, 1) := by decide +kernel
theorem dX8_reads_59 : decode cX8_reads 59 = .ok (.iaload, 1) := by decide +kernel
theorem dX8_reads_60 : decode cX8_reads 60 = .ok (.if_icmp .ge 16, 3) := by decide +kernel
theorem dX8_reads_63 : decode cX8_reads 63 = .ok (.iload_n 3, 1) := by decide +kernel
theorem dX8_reads_64 : decode cX8_reads 64 = .ok (.aload_n 0, 1) := by decide +kernel
theorem dX8_reads_65 : decode cX8_reads 65 = .ok (.getfield 7, 3) := by decide +kernel
theorem dX8_reads_68 : decode cX8_reads 68 = .ok (.bipush 6, 2) := by decide +kernel
theorem dX8_reads_70 : decode cX8_reads 70 = .ok (.iload_n 2, 1) := by decide +kernel
theorem dX8_reads_71 : decode cX8_reads 71 = .ok (.iadd, 1) := by decide +kernel
theorem dX8_reads_72 : decode cX8_reads 72 = .ok (.iaload, 1) := by decide +kernel
theorem dX8_reads_73 : decode cX8_reads 73 = .ok (.if_icmp .eq 5, 3) := by decide +kernel
theorem dX8_reads_76 : decode cX8_reads 76 = .ok (.iload_n 2, 1) := by decide +kernel
theorem dX8_reads_77 : decode cX8_reads 77 = .ok (.ireturn, 1) := by decide +kernel
theorem dX8_reads_78 : decode cX8_reads 78 = .ok (.iinc 2 1, 3) := by decide +kernel
theorem dX8_reads_81 : decode cX8_reads 81 = .ok (.goto (-56), 3) := by decide +kernel
theorem dX8_reads_84 : decode cX8_reads 84 = .ok (.ldc 74, 2) := by decide +kernel
theorem dX8_reads_86 : decode cX8_reads 86 = .ok (.ireturn, 1) := by decide +kernel
theorem dX8_miles_0 : decode cX8_miles 0 = .ok (.iload_n 1, 1) := by decide +kernel
theorem dX8_miles_1 : decode cX8_miles 1 = .ok (.invokestatic 297, 3) := by decide +kernel
theorem dX8_miles_4 : decode cX8_miles 4 = .ok (.ifCond .eq 13, 3) := by decide +kernel
theorem dX8_miles_7 : decode cX8_miles 7 = .ok (.iload_n 2, 1) := by decide +kernel
theorem dX8_miles_8 : decode cX8_miles 8 = .ok (.i2l, 1) := by decide +kernel
theorem dX8_miles_9 : decode cX8_miles 9 = .ok (.lconst 0, 1) := by decide +kernel
theorem dX8_miles_10 : decode cX8_miles 10 = .ok (.lconst 1, 1) := by decide +kernel
theorem dX8_miles_11 : decode cX8_miles 11 = .ok (.invokestatic 75, 3) := by decide +kernel
theorem dX8_miles_14 : decode cX8_miles 14 = .ok (.ifCond .ne 6, 3) := by decide +kernel
theorem dX8_miles_17 : decode cX8_miles 17 = .ok (.ldc 90, 2) := by decide +kernel
theorem dX8_miles_19 : decode cX8_miles 19 = .ok (.ireturn, 1) := by decide +kernel
theorem dX8_miles_20 : decode cX8_miles 20 = .ok (.aload_n 0, 1) := by decide +kernel
theorem dX8_miles_21 : decode cX8_miles 21 = .ok (.getfield 19, 3) := by decide +kernel
theorem dX8_miles_24 : decode cX8_miles 24 = .ok (.iload_n 1, 1) := by decide +kernel
theorem dX8_miles_25 : decode cX8_miles 25 = .ok (.iaload, 1) := by decide +kernel
theorem dX8_miles_26 : decode cX8_miles 26 = .ok (.ifCond .ge 7, 3) := by decide +kernel
theorem dX8_miles_29 : decode cX8_miles 29 = .ok (.ldc_w 303, 3) := by decide +kernel
theorem dX8_miles_32 : decode cX8_miles 32 = .ok (.ireturn, 1) := by decide +kernel
theorem dX8_miles_33 : decode cX8_miles 33 = .ok (.aload_n 0, 1) := by decide +kernel
theorem dX8_miles_34 : decode cX8_miles 34 = .ok (.invokevirtual 177, 3) := by decide +kernel
theorem dX8_miles_37 : decode cX8_miles 37 = .ok (.iconst (-1), 1) := by decide +kernel
theorem dX8_miles_38 : decode cX8_miles 38 = .ok (.istore_n 3, 1) := by decide +kernel
theorem dX8_miles_39 : decode cX8_miles 39 = .ok (.iconst 0, 1) := by decide +kernel
theorem dX8_miles_40 : decode cX8_miles 40 = .ok (.istore 4, 2) := by decide +kernel
theorem dX8_miles_42 : decode cX8_miles 42 = .ok (.iconst 0, 1) := by decide +kernel
theorem dX8_miles_43 : decode cX8_miles 43 = .ok (.istore 5, 2) := by decide +kernel
theorem dX8_miles_45 : decode cX8_miles 45 = .ok (.iload 5, 2) := by decide +kernel
theorem dX8_miles_47 : decode cX8_miles 47 = .ok (.bipush 60, 2) := by decide +kernel
theorem dX8_miles_49 : decode cX8_miles 49 = .ok (.if_icmp .gt 110, 3) := by decide +kernel
theorem dX8_miles_52 : decode cX8_miles 52 = .ok (.iconst 0, 1) := by decide +kernel
theorem dX8_miles_53 : decode cX8_miles 53 = .ok (.istore 6, 2) := by decide +kernel
theorem dX8_miles_55 : decode cX8_miles 55 = .ok (.iconst 0, 1) := by decide +kernel
theorem dX8_miles_56 : decode cX8_miles 56 = .ok (.istore 7, 2) := by decide +kernel
theorem dX8_miles_58 : decode cX8_miles 58 = .ok (.iload 7, 2) := by decide +kernel
theorem dX8_miles_60 : decode cX8_miles 60 = .ok (.aload_n 0, 1) := by decide +kernel
theorem dX8_miles_61 : decode cX8_miles 61 = .ok (.getfield 22, 3) := by decide +kernel
theorem dX8_miles_64 : decode cX8_miles 64 = .ok (.iload_n 1, 1) := by decide +kernel
theorem dX8_miles_65 : decode cX8_miles 65 = .ok (.iaload, 1) := by decide +kernel
theorem dX8_miles_66 : decode cX8_miles 66 = .ok (.if_icmp .ge 65, 3) := by decide +kernel
theorem dX8_miles_69 : decode cX8_miles 69 = .ok (.aload_n 0, 1) := by decide +kernel
theorem dX8_miles_70 : decode cX8_miles 70 = .ok (.getfield 25, 3) := by decide +kernel
theorem dX8_miles_73 : decode cX8_miles 73 = .ok (.bipush 24, 2) := by decide +kernel
theorem dX8_miles_75 : decode cX8_miles 75 = .ok (.iload_n 1, 1) := by decide +kernel
theorem dX8_miles_76 : decode cX8_miles 76 = .ok (.imul, 1) := by decide +kernel
theorem dX8_miles_77 : decode cX8_miles 77 = .ok (.iload 7, 2) := by decide +kernel
theorem dX8_miles_79 : decode cX8_miles 79 = .ok (.iadd, 1) := by decide +kernel
theorem dX8_miles_80 : decode cX8_miles 80 = .ok (.iaload, 1) := by decide +kernel
theorem dX8_miles_81 : decode cX8_miles 81 = .ok (.istore 8, 2) := by decide +kernel
theorem dX8_miles_83 : decode cX8_miles 83 = .ok (.iload 6, 2) := by decide +kernel
theorem dX8_miles_85 : decode cX8_miles 85 = .ok (.iload 8, 2) := by decide +kernel
theorem dX8_miles_87 : decode cX8_miles 87 = .ok (.ldc 74, 2) := by decide +kernel
theorem dX8_miles_89 : decode cX8_miles 89 = .ok (.if_icmp .ne 7, 3) := by decide +kernel
theorem dX8_miles_92 : decode cX8_miles 92 = .ok (.iconst 0, 1) := by decide +kernel
theorem dX8_miles_93 : decode cX8_miles 93 = .ok (.goto 29, 3) := by decide +kernel
theorem dX8_miles_96 : decode cX8_miles 96 = .ok (.iload 8, 2) := by decide +kernel
theorem dX8_miles_98 : decode cX8_miles 98 = .ok (.iload 7, 2) := by decide +kernel
theorem dX8_miles_100 : decode cX8_miles 100 = .ok (.aload_n 0, 1) := by decide +kernel
theorem dX8_miles_101 : decode cX8_miles 101 = .ok (.getfield 7, 3) := by decide +kernel
theorem dX8_miles_104 : decode cX8_miles 104 = .ok (.iconst 0, 1) := by decide +kernel
theorem dX8_miles_105 : decode cX8_miles 105 = .ok (.iaload, 1) := by decide +kernel
theorem dX8_miles_106 : decode cX8_miles 106 = .ok (.if_icmp .ge 12, 3) := by decide +kernel
theorem dX8_miles_109 : decode cX8_miles 109 = .ok (.aload_n 0, 1) := by decide +kernel
theorem dX8_miles_110 : decode cX8_miles 110 = .ok (.iload 7, 2) := by decide +kernel
theorem dX8_miles_112 : decode cX8_miles 112 = .ok (.invokevirtual 162, 3) := by decide +kernel
theorem dX8_miles_115 : decode cX8_miles 115 = .ok (.goto 4, 3) := by decide +kernel
theorem dX8_miles_118 : decode cX8_miles 118 = .ok (.iconst 0, 1) := by decide +kernel
theorem dX8_miles_119 : decode cX8_miles 119 = .ok (.invokestatic 192, 3) := by decide +kernel
theorem dX8_miles_122 : decode cX8_miles 122 = .ok (.iadd, 1) := by decide +kernel
theorem dX8_miles_123 : decode cX8_miles 123 = .ok (.istore 6, 2) := by decide +kernel
theorem dX8_miles_125 : decode cX8_miles 125 = .ok (.iinc 7 1, 3) := by decide +kernel
theorem dX8_miles_128 : decode cX8_miles 128 = .ok (.goto (-70), 3) := by decide +kernel
theorem dX8_miles_131 : decode cX8_miles 131 = .ok (.iload_n 3, 1) := by decide +kernel
theorem dX8_miles_132 : decode cX8_miles 132 = .ok (.ifCond .lt 10, 3) := by decide +kernel
theorem dX8_miles_135 : decode cX8_miles 135 = .ok (.iload 6, 2) := by decide +kernel
theorem dX8_miles_137 : decode cX8_miles 137 = .ok (.iload 4, 2) := by decide +kernel
theorem dX8_miles_139 : decode cX8_miles 139 = .ok (.if_icmp .ge 10, 3) := by decide +kernel
theorem dX8_miles_142 : decode cX8_miles 142 = .ok (.iload 5, 2) := by decide +kernel
theorem dX8_miles_144 : decode cX8_miles 144 = .ok (.istore_n 3, 1) := by decide +kernel
theorem dX8_miles_145 : decode cX8_miles 145 = .ok (.iload 6, 2) := by decide +kernel
theorem dX8_miles_147 : decode cX8_miles 147 = .ok (.istore 4, 2) := by decide +kernel
theorem dX8_miles_149 : decode cX8_miles 149 = .ok (.aload_n 0, 1) := by decide +kernel
theorem dX8_miles_150 : decode cX8_miles 150 = .ok (.invokevirtual 159, 3) := by decide +kernel
theorem dX8_miles_153 : decode cX8_miles 153 = .ok (.iinc 5 1, 3) := by decide +kernel
theorem dX8_miles_156 : decode cX8_miles 156 = .ok (.goto (-111), 3) := by decide +kernel
theorem dX8_miles_159 : decode cX8_miles 159 = .ok (.aload_n 0, 1) := by decide +kernel
theorem dX8_miles_160 : decode cX8_miles 160 = .ok (.invokevirtual 184, 3) := by decide +kernel
theorem dX8_miles_163 : decode cX8_miles 163 = .ok (.iload_n 2, 1) := by decide +kernel
theorem dX8_miles_164 : decode cX8_miles 164 = .ok (.ifCond .ne 7, 3) := by decide +kernel
theorem dX8_miles_167 : decode cX8_miles 167 = .ok (.iload_n 3, 1) := by decide +kernel
theorem dX8_miles_168 : decode cX8_miles 168 = .ok (.goto 5, 3) := by decide +kernel
theorem dX8_miles_171 : decode cX8_miles 171 = .ok (.iload 4, 2) := by decide +kernel
theorem dX8_miles_173 : decode cX8_miles 173 = .ok (.ireturn, 1) := by decide +kernel
theorem dX8_copy_0 : decode cX8_copy 0 = .ok (.iload_n 1, 1) := by decide +kernel
theorem dX8_copy_1 : decode cX8_copy 1 = .ok (.invokestatic 297, 3) := by decide +kernel
theorem dX8_copy_4 : decode cX8_copy 4 = .ok (.ifCond .eq 10, 3) := by decide +kernel
theorem dX8_copy_7 : decode cX8_copy 7 = .ok (.iload_n 3, 1) := by decide +kernel
theorem dX8_copy_8 : decode cX8_copy 8 = .ok (.invokestatic 297, 3) := by decide +kernel
theorem dX8_copy_11 : decode cX8_copy 11 = .ok (.ifCond .ne 6, 3) := by decide +kernel
theorem dX8_copy_14 : decode cX8_copy 14 = .ok (.ldc 90, 2) := by decide +kernel
theorem dX8_copy_16 : decode cX8_copy 16 = .ok (.ireturn, 1) := by decide +kernel
theorem dX8_copy_17 : decode cX8_copy 17 = .ok (.aload_n 0, 1) := by decide +kernel
theorem dX8_copy_18 : decode cX8_copy 18 = .ok (.getfield 19, 3) := by decide +kernel
theorem dX8_copy_21 : decode cX8_copy 21 = .ok (.iload_n 1, 1) := by decide +kernel
theorem dX8_copy_22 : decode cX8_copy 22 = .ok (.iaload, 1) := by decide +kernel
theorem dX8_copy_23 : decode cX8_copy 23 = .ok (.ifCond .lt 12, 3) := by decide +kernel
theorem dX8_copy_26 : decode cX8_copy 26 = .ok (.aload_n 0, 1) := by decide +kernel
theorem dX8_copy_27 : decode cX8_copy 27 = .ok (.getfield 19, 3) := by decide +kernel
theorem dX8_copy_30 : decode cX8_copy 30 = .ok (.iload_n 3, 1) := by decide +kernel
theorem dX8_copy_31 : decode cX8_copy 31 = .ok (.iaload, 1) := by decide +kernel
theorem dX8_copy_32 : decode cX8_copy 32 = .ok (.ifCond .ge 7, 3) := by decide +kernel
theorem dX8_copy_35 : decode cX8_copy 35 = .ok (.ldc_w 303, 3) := by decide +kernel
theorem dX8_copy_38 : decode cX8_copy 38 = .ok (.ireturn, 1) := by decide +kernel
theorem dX8_copy_39 : decode cX8_copy 39 = .ok (.aload_n 0, 1) := by decide +kernel
theorem dX8_copy_40 : decode cX8_copy 40 = .ok (.getfield 19, 3) := by decide +kernel
theorem dX8_copy_43 : decode cX8_copy 43 = .ok (.iload_n 1, 1) := by decide +kernel
theorem dX8_copy_44 : decode cX8_copy 44 = .ok (.iaload, 1) := by decide +kernel
theorem dX8_copy_45 : decode cX8_copy 45 = .ok (.aload_n 0, 1) := by decide +kernel
theorem dX8_copy_46 : decode cX8_copy 46 = .ok (.getfield 19, 3) := by decide +kernel
theorem dX8_copy_49 : decode cX8_copy 49 = .ok (.iload_n 3, 1) := by decide +kernel
theorem dX8_copy_50 : decode cX8_copy 50 = .ok (.iaload, 1) := by decide +kernel
theorem dX8_copy_51 : decode cX8_copy 51 = .ok (.if_icmp .eq 6, 3) := by decide +kernel
theorem dX8_copy_54 : decode cX8_copy 54 = .ok (.ldc 132, 2) := by decide +kernel
theorem dX8_copy_56 : decode cX8_copy 56 = .ok (.ireturn, 1) := by decide +kernel
theorem dX8_copy_57 : decode cX8_copy 57 = .ok (.iload_n 2, 1) := by decide +kernel
theorem dX8_copy_58 : decode cX8_copy 58 = .ok (.ifCond .lt 48, 3) := by decide +kernel
theorem dX8_copy_61 : decode cX8_copy 61 = .ok (.iload 4, 2) := by decide +kernel
theorem dX8_copy_63 : decode cX8_copy 63 = .ok (.ifCond .lt 43, 3) := by decide +kernel
theorem dX8_copy_66 : decode cX8_copy 66 = .ok (.iload 5, 2) := by decide +kernel
theorem dX8_copy_68 : decode cX8_copy 68 = .ok (.ifCond .lt 38, 3) := by decide +kernel
theorem dX8_copy_71 : decode cX8_copy 71 = .ok (.iload_n 2, 1) := by decide +kernel
theorem dX8_copy_72 : decode cX8_copy 72 = .ok (.i2l, 1) := by decide +kernel
theorem dX8_copy_73 : decode cX8_copy 73 = .ok (.iload 5, 2) := by decide +kernel
theorem dX8_copy_75 : decode cX8_copy 75 = .ok (.i2l, 1) := by decide +kernel
theorem dX8_copy_76 : decode cX8_copy 76 = .ok (.ladd, 1) := by decide +kernel
theorem dX8_copy_77 : decode cX8_copy 77 = .ok (.aload_n 0, 1) := by decide +kernel
theorem dX8_copy_78 : decode cX8_copy 78 = .ok (.getfield 22, 3) := by decide +kernel
theorem dX8_copy_81 : decode cX8_copy 81 = .ok (.iload_n 1, 1) := by decide +kernel
theorem dX8_copy_82 : decode cX8_copy 82 = .ok (.iaload, 1) := by decide +kernel
theorem dX8_copy_83 : decode cX8_copy 83 = .ok (.i2l, 1) := by decide +kernel
theorem dX8_copy_84 : decode cX8_copy 84 = .ok (.lcmp, 1) := by decide +kernel
theorem dX8_copy_85 : decode cX8_copy 85 = .ok (.ifCond .gt 21, 3) := by decide +kernel
theorem dX8_copy_88 : decode cX8_copy 88 = .ok (.iload 4, 2) := by decide +kernel
theorem dX8_copy_90 : decode cX8_copy 90 = .ok (.i2l, 1) := by decide +kernel
theorem dX8_copy_91 : decode cX8_copy 91 = .ok (.iload 5, 2) := by decide +kernel
theorem dX8_copy_93 : decode cX8_copy 93 = .ok (.i2l, 1) := by decide +kernel
theorem dX8_copy_94 : decode cX8_copy 94 = .ok (.ladd, 1) := by decide +kernel
theorem dX8_copy_95 : decode cX8_copy 95 = .ok (.aload_n 0, 1) := by decide +kernel
theorem dX8_copy_96 : decode cX8_copy 96 = .ok (.getfield 22, 3) := by decide +kernel
theorem dX8_copy_99 : decode cX8_copy 99 = .ok (.iload_n 3, 1) := by decide +kernel
theorem dX8_copy_100 : decode cX8_copy 100 = .ok (.iaload, 1) := by decide +kernel
theorem dX8_copy_101 : decode cX8_copy 101 = .ok (.i2l, 1) := by decide +kernel
theorem dX8_copy_102 : decode cX8_copy 102 = .ok (.lcmp, 1) := by decide +kernel
theorem dX8_copy_103 : decode cX8_copy 103 = .ok (.ifCond .le 7, 3) := by decide +kernel
theorem dX8_copy_106 : decode cX8_copy 106 = .ok (.ldc_w 304, 3) := by decide +kernel
theorem dX8_copy_109 : decode cX8_copy 109 = .ok (.ireturn, 1) := by decide +kernel
theorem dX8_copy_110 : decode cX8_copy 110 = .ok (.iconst 0, 1) := by decide +kernel
theorem dX8_copy_111 : decode cX8_copy 111 = .ok (.istore 6, 2) := by decide +kernel
theorem dX8_copy_113 : decode cX8_copy 113 = .ok (.iload 6, 2) := by decide +kernel
theorem dX8_copy_115 : decode cX8_copy 115 = .ok (.iload 5, 2) := by decide +kernel
theorem dX8_copy_117 : decode cX8_copy 117 = .ok (.if_icmp .ge 30, 3) := by decide +kernel
theorem dX8_copy_120 : decode cX8_copy 120 = .ok (.aload_n 0, 1) := by decide +kernel
theorem dX8_copy_121 : decode cX8_copy 121 = .ok (.getfield 65, 3) := by decide +kernel
theorem dX8_copy_124 : decode cX8_copy 124 = .ok (.iload 6, 2) := by decide +kernel
theorem dX8_copy_126 : decode cX8_copy 126 = .ok (.aload_n 0, 1) := by decide +kernel
theorem dX8_copy_127 : decode cX8_copy 127 = .ok (.getfield 25, 3) := by decide +kernel
theorem dX8_copy_130 : decode cX8_copy 130 = .ok (.bipush 24, 2) := by decide +kernel
theorem dX8_copy_132 : decode cX8_copy 132 = .ok (.iload_n 1, 1) := by decide +kernel
theorem dX8_copy_133 : decode cX8_copy 133 = .ok (.imul, 1) := by decide +kernel
theorem dX8_copy_134 : decode cX8_copy 134 = .ok (.iload_n 2, 1) := by decide +kernel
theorem dX8_copy_135 : decode cX8_copy 135 = .ok (.iadd, 1) := by decide +kernel
theorem dX8_copy_136 : decode cX8_copy 136 = .ok (.iload 6, 2) := by decide +kernel
theorem dX8_copy_138 : decode cX8_copy 138 = .ok (.iadd, 1) := by decide +kernel
theorem dX8_copy_139 : decode cX8_copy 139 = .ok (.iaload, 1) := by decide +kernel
theorem dX8_copy_140 : decode cX8_copy 140 = .ok (.iastore, 1) := by decide +kernel
theorem dX8_copy_141 : decode cX8_copy 141 = .ok (.iinc 6 1, 3) := by decide +kernel
theorem dX8_copy_144 : decode cX8_copy 144 = .ok (.goto (-31), 3) := by decide +kernel
theorem dX8_copy_147 : decode cX8_copy 147 = .ok (.iconst 0, 1) := by decide +kernel
theorem dX8_copy_148 : decode cX8_copy 148 = .ok (.istore 6, 2) := by decide +kernel
theorem dX8_copy_150 : decode cX8_copy 150 = .ok (.iload 6, 2) := by decide +kernel
theorem dX8_copy_152 : decode cX8_copy 152 = .ok (.iload 5, 2) := by decide +kernel
theorem dX8_copy_154 : decode cX8_copy 154 = .ok (.if_icmp .ge 31, 3) := by decide +kernel
theorem dX8_copy_157 : decode cX8_copy 157 = .ok (.aload_n 0, 1) := by decide +kernel
theorem dX8_copy_158 : decode cX8_copy 158 = .ok (.getfield 25, 3) := by decide +kernel
theorem dX8_copy_161 : decode cX8_copy 161 = .ok (.bipush 24, 2) := by decide +kernel
theorem dX8_copy_163 : decode cX8_copy 163 = .ok (.iload_n 3, 1) := by decide +kernel
theorem dX8_copy_164 : decode cX8_copy 164 = .ok (.imul, 1) := by decide +kernel
theorem dX8_copy_165 : decode cX8_copy 165 = .ok (.iload 4, 2) := by decide +kernel
theorem dX8_copy_167 : decode cX8_copy 167 = .ok (.iadd, 1) := by decide +kernel
theorem dX8_copy_168 : decode cX8_copy 168 = .ok (.iload 6, 2) := by decide +kernel
theorem dX8_copy_170 : decode cX8_copy 170 = .ok (.iadd, 1) := by decide +kernel
theorem dX8_copy_171 : decode cX8_copy 171 = .ok (.aload_n 0, 1) := by decide +kernel
theorem dX8_copy_172 : decode cX8_copy 172 = .ok (.getfield 65, 3) := by decide +kernel
theorem dX8_copy_175 : decode cX8_copy 175 = .ok (.iload 6, 2) := by decide +kernel
theorem dX8_copy_177 : decode cX8_copy 177 = .ok (.iaload, 1) := by decide +kernel
theorem dX8_copy_178 : decode cX8_copy 178 = .ok (.iastore, 1) := by decide +kernel
theorem dX8_copy_179 : decode cX8_copy 179 = .ok (.iinc 6 1, 3) := by decide +kernel
theorem dX8_copy_182 : decode cX8_copy 182 = .ok (.goto (-32), 3) := by decide +kernel
theorem dX8_copy_185 : decode cX8_copy 185 = .ok (.iload 5, 2) := by decide +kernel
theorem dX8_copy_187 : decode cX8_copy 187 = .ok (.ireturn, 1) := by decide +kernel
theorem dX8_isSlot_0 : decode cX8_isSlot 0 = .ok (.iload_n 0, 1) := by decide +kernel
theorem dX8_isSlot_1 : decode cX8_isSlot 1 = .ok (.i2l, 1) := by decide +kernel
theorem dX8_isSlot_2 : decode cX8_isSlot 2 = .ok (.lconst 0, 1) := by decide +kernel
theorem dX8_isSlot_3 : decode cX8_isSlot 3 = .ok (.ldc2_w 309, 3) := by decide +kernel
theorem dX8_isSlot_6 : decode cX8_isSlot 6 = .ok (.invokestatic 75, 3) := by decide +kernel
theorem dX8_isSlot_9 : decode cX8_isSlot 9 = .ok (.ireturn, 1) := by decide +kernel
theorem dX8_lay_0 : decode cX8_lay 0 = .ok (.iload_n 2, 1) := by decide +kernel
theorem dX8_lay_1 : decode cX8_lay 1 = .ok (.ifCond .eq 33, 3) := by decide +kernel
theorem dX8_lay_4 : decode cX8_lay 4 = .ok (.iload_n 2, 1) := by decide +kernel
theorem dX8_lay_5 : decode cX8_lay 5 = .ok (.iconst 3, 1) := by decide +kernel
theorem dX8_lay_6 : decode cX8_lay 6 = .ok (.if_icmp .eq 28, 3) := by decide +kernel
theorem dX8_lay_9 : decode cX8_lay 9 = .ok (.iload_n 2, 1) := by decide +kernel
theorem dX8_lay_10 : decode cX8_lay 10 = .ok (.iconst 1, 1) := by decide +kernel
theorem dX8_lay_11 : decode cX8_lay 11 = .ok (.if_icmp .ne 11, 3) := by decide +kernel
theorem dX8_lay_14 : decode cX8_lay 14 = .ok (.aload_n 0, 1) := by decide +kernel
theorem dX8_lay_15 : decode cX8_lay 15 = .ok (.iload_n 3, 1) := by decide +kernel
theorem dX8_lay_16 : decode cX8_lay 16 = .ok (.invokevirtual 112, 3) := by decide +kernel
theorem dX8_lay_19 : decode cX8_lay 19 = .ok (.ifCond .ne 15, 3) := by decide +kernel
theorem dX8_lay_22 : decode cX8_lay 22 = .ok (.iload_n 2, 1) := by decide +kernel
theorem dX8_lay_23 : decode cX8_lay 23 = .ok (.iconst 2, 1) := by decide +kernel
theorem dX8_lay_24 : decode cX8_lay 24 = .ok (.if_icmp .ne 14, 3) := by decide +kernel
theorem dX8_lay_27 : decode cX8_lay 27 = .ok (.iload_n 3, 1) := by decide +kernel
theorem dX8_lay_28 : decode cX8_lay 28 = .ok (.invokestatic 297, 3) := by decide +kernel
theorem dX8_lay_31 : decode cX8_lay 31 = .ok (.ifCond .eq 7, 3) := by decide +kernel
theorem dX8_lay_34 : decode cX8_lay 34 = .ok (.iconst 1, 1) := by decide +kernel
theorem dX8_lay_35 : decode cX8_lay 35 = .ok (.goto 4, 3) := by decide +kernel
theorem dX8_lay_38 : decode cX8_lay 38 = .ok (.iconst 0, 1) := by decide +kernel
theorem dX8_lay_39 : decode cX8_lay 39 = .ok (.istore 4, 2) := by decide +kernel
theorem dX8_lay_41 : decode cX8_lay 41 = .ok (.iload_n 1, 1) := by decide +kernel
theorem dX8_lay_42 : decode cX8_lay 42 = .ok (.invokestatic 311, 3) := by decide +kernel
theorem dX8_lay_45 : decode cX8_lay 45 = .ok (.ifCond .eq 8, 3) := by decide +kernel
theorem dX8_lay_48 : decode cX8_lay 48 = .ok (.iload 4, 2) := by decide +kernel
theorem dX8_lay_50 : decode cX8_lay 50 = .ok (.ifCond .ne 6, 3) := by decide +kernel
theorem dX8_lay_53 : decode cX8_lay 53 = .ok (.ldc 90, 2) := by decide +kernel
theorem dX8_lay_55 : decode cX8_lay 55 = .ok (.ireturn, 1) := by decide +kernel
theorem dX8_lay_56 : decode cX8_lay 56 = .ok (.iload_n 2, 1) := by decide +kernel
theorem dX8_lay_57 : decode cX8_lay 57 = .ok (.iconst 2, 1) := by decide +kernel
theorem dX8_lay_58 : decode cX8_lay 58 = .ok (.if_icmp .ne 16, 3) := by decide +kernel
theorem dX8_lay_61 : decode cX8_lay 61 = .ok (.aload_n 0, 1) := by decide +kernel
theorem dX8_lay_62 : decode cX8_lay 62 = .ok (.getfield 19, 3) := by decide +kernel
theorem dX8_lay_65 : decode cX8_lay 65 = .ok (.iload_n 3, 1) := by decide +kernel
theorem dX8_lay_66 : decode cX8_lay 66 = .ok (.iaload, 1) := by decide +kernel
theorem dX8_lay_67 : decode cX8_lay 67 = .ok (.ifCond .ge 7, 3) := by decide +kernel
theorem dX8_lay_70 : decode cX8_lay 70 = .ok (.ldc_w 303, 3) := by decide +kernel
theorem dX8_lay_73 : decode cX8_lay 73 = .ok (.ireturn, 1) := by decide +kernel
theorem dX8_lay_74 : decode cX8_lay 74 = .ok (.aload_n 0, 1) := by decide +kernel
theorem dX8_lay_75 : decode cX8_lay 75 = .ok (.getfield 28, 3) := by decide +kernel
theorem dX8_lay_78 : decode cX8_lay 78 = .ok (.iload_n 1, 1) := by decide +kernel
theorem dX8_lay_79 : decode cX8_lay 79 = .ok (.iaload, 1) := by decide +kernel
theorem dX8_lay_80 : decode cX8_lay 80 = .ok (.istore 5, 2) := by decide +kernel
theorem dX8_lay_82 : decode cX8_lay 82 = .ok (.aload_n 0, 1) := by decide +kernel
theorem dX8_lay_83 : decode cX8_lay 83 = .ok (.getfield 28, 3) := by decide +kernel
theorem dX8_lay_86 : decode cX8_lay 86 = .ok (.iload_n 1, 1) := by decide +kernel
theorem dX8_lay_87 : decode cX8_lay 87 = .ok (.iload_n 2, 1) := by decide +kernel
theorem dX8_lay_88 : decode cX8_lay 88 = .ok (.iastore, 1) := by decide +kernel
theorem dX8_lay_89 : decode cX8_lay 89 = .ok (.aload_n 0, 1) := by decide +kernel
theorem dX8_lay_90 : decode cX8_lay 90 = .ok (.getfield 31, 3) := by decide +kernel
theorem dX8_lay_93 : decode cX8_lay 93 = .ok (.iload_n 1, 1) := by decide +kernel
theorem dX8_lay_94 : decode cX8_lay 94 = .ok (.iload_n 2, 1) := by decide +kernel
theorem dX8_lay_95 : decode cX8_lay 95 = .ok (.iconst 1, 1) := by decide +kernel
theorem dX8_lay_96 : decode cX8_lay 96 = .ok (.if_icmp .ne 12, 3) := by decide +kernel
theorem dX8_lay_99 : decode cX8_lay 99 = .ok (.aload_n 0, 1) := by decide +kernel
theorem dX8_lay_100 : decode cX8_lay 100 = .ok (.iload_n 3, 1) := by decide +kernel
theorem dX8_lay_101 : decode cX8_lay 101 = .ok (.iconst 0, 1) := by decide +kernel
theorem dX8_lay_102 : decode cX8_lay 102 = .ok (.invokevirtual 99, 3) := by decide +kernel
theorem dX8_lay_105 : decode cX8_lay 105 = .ok (.goto 4, 3) := by decide +kernel
theorem dX8_lay_108 : decode cX8_lay 108 = .ok (.iload_n 3, 1) := by decide +kernel
theorem dX8_lay_109 : decode cX8_lay 109 = .ok (.iastore, 1) := by decide +kernel
theorem dX8_lay_110 : decode cX8_lay 110 = .ok (.aload_n 0, 1) := by decide +kernel
theorem dX8_lay_111 : decode cX8_lay 111 = .ok (.getfield 34, 3) := by decide +kernel
theorem dX8_lay_114 : decode cX8_lay 114 = .ok (.iload_n 1, 1) := by decide +kernel
theorem dX8_lay_115 : decode cX8_lay 115 = .ok (.iload_n 2, 1) := by decide +kernel
theorem dX8_lay_116 : decode cX8_lay 116 = .ok (.iconst 1, 1) := by decide +kernel
theorem dX8_lay_117 : decode cX8_lay 117 = .ok (.if_icmp .ne 11, 3) := by decide +kernel
theorem dX8_lay_120 : decode cX8_lay 120 = .ok (.aload_n 0, 1) := by decide +kernel
theorem dX8_lay_121 : decode cX8_lay 121 = .ok (.iload_n 3, 1) := by decide +kernel
theorem dX8_lay_122 : decode cX8_lay 122 = .ok (.invokevirtual 125, 3) := by decide +kernel
theorem dX8_lay_125 : decode cX8_lay 125 = .ok (.goto 4, 3) := by decide +kernel
theorem dX8_lay_128 : decode cX8_lay 128 = .ok (.iconst 0, 1) := by decide +kernel
theorem dX8_lay_129 : decode cX8_lay 129 = .ok (.iastore, 1) := by decide +kernel
theorem dX8_lay_130 : decode cX8_lay 130 = .ok (.iload_n 2, 1) := by decide +kernel
theorem dX8_lay_131 : decode cX8_lay 131 = .ok (.iconst 2, 1) := by decide +kernel
theorem dX8_lay_132 : decode cX8_lay 132 = .ok (.if_icmp .ne 55, 3) := by decide +kernel
theorem dX8_lay_135 : decode cX8_lay 135 = .ok (.aload_n 0, 1) := by decide +kernel
theorem dX8_lay_136 : decode cX8_lay 136 = .ok (.getfield 37, 3) := by decide +kernel
theorem dX8_lay_139 : decode cX8_lay 139 = .ok (.iload_n 1, 1) := by decide +kernel
theorem dX8_lay_140 : decode cX8_lay 140 = .ok (.aload_n 0, 1) := by decide +kernel
theorem dX8_lay_141 : decode cX8_lay 141 = .ok (.getfield 22, 3) := by decide +kernel
theorem dX8_lay_144 : decode cX8_lay 144 = .ok (.iload_n 3, 1) := by decide +kernel
theorem dX8_lay_145 : decode cX8_lay 145 = .ok (.iaload, 1) := by decide +kernel
theorem dX8_lay_146 : decode cX8_lay 146 = .ok (.iastore, 1) := by decide +kernel
theorem dX8_lay_147 : decode cX8_lay 147 = .ok (.iconst 0, 1) := by decide +kernel
theorem dX8_lay_148 : decode cX8_lay 148 = .ok (.istore 6, 2) := by decide +kernel
theorem dX8_lay_150 : decode cX8_lay 150 = .ok (.iload 6, 2) := by decide +kernel
theorem dX8_lay_152 : decode cX8_lay 152 = .ok (.bipush 24, 2) := by decide +kernel
theorem dX8_lay_154 : decode cX8_lay 154 = .ok (.if_icmp .ge 33, 3) := by decide +kernel
theorem dX8_lay_157 : decode cX8_lay 157 = .ok (.aload_n 0, 1) := by decide +kernel
theorem dX8_lay_158 : decode cX8_lay 158 = .ok (.getfield 40, 3) := by decide +kernel
theorem dX8_lay_161 : decode cX8_lay 161 = .ok (.bipush 24, 2) := by decide +kernel
theorem dX8_lay_163 : decode cX8_lay 163 = .ok (.iload_n 1, 1) := by decide +kernel
theorem dX8_lay_164 : decode cX8_lay 164 = .ok (.imul, 1) := by decide +kernel
theorem dX8_lay_165 : decode cX8_lay 165 = .ok (.iload 6, 2) := by decide +kernel
theorem dX8_lay_167 : decode cX8_lay 167 = .ok (.iadd, 1) := by decide +kernel
theorem dX8_lay_168 : decode cX8_lay 168 = .ok (.aload_n 0, 1) := by decide +kernel
theorem dX8_lay_169 : decode cX8_lay 169 = .ok (.getfield 25, 3) := by decide +kernel
theorem dX8_lay_172 : decode cX8_lay 172 = .ok (.bipush 24, 2) := by decide +kernel
theorem dX8_lay_174 : decode cX8_lay 174 = .ok (.iload_n 3, 1) := by decide +kernel
theorem dX8_lay_175 : decode cX8_lay 175 = .ok (.imul, 1) := by decide +kernel
theorem dX8_lay_176 : decode cX8_lay 176 = .ok (.iload 6, 2) := by decide +kernel
theorem dX8_lay_178 : decode cX8_lay 178 = .ok (.iadd, 1) := by decide +kernel
theorem dX8_lay_179 : decode cX8_lay 179 = .ok (.iaload, 1) := by decide +kernel
theorem dX8_lay_180 : decode cX8_lay 180 = .ok (.iastore, 1) := by decide +kernel
theorem dX8_lay_181 : decode cX8_lay 181 = .ok (.iinc 6 1, 3) := by decide +kernel
theorem dX8_lay_184 : decode cX8_lay 184 = .ok (.goto (-34), 3) := by decide +kernel
theorem dX8_lay_187 : decode cX8_lay 187 = .ok (.iload 5, 2) := by decide +kernel
theorem dX8_lay_189 : decode cX8_lay 189 = .ok (.ireturn, 1) := by decide +kernel
theorem dX8_ask_0 : decode cX8_ask 0 = .ok (.iload_n 1, 1) := by decide +kernel
theorem dX8_ask_1 : decode cX8_ask 1 = .ok (.invokestatic 311, 3) := by decide +kernel
theorem dX8_ask_4 : decode cX8_ask 4 = .ok (.ifCond .eq 15, 3) := by decide +kernel
theorem dX8_ask_7 : decode cX8_ask 7 = .ok (.iload_n 2, 1) := by decide +kernel
theorem dX8_ask_8 : decode cX8_ask 8 = .ok (.i2l, 1) := by decide +kernel
theorem dX8_ask_9 : decode cX8_ask 9 = .ok (.lconst 0, 1) := by decide +kernel
theorem dX8_ask_10 : decode cX8_ask 10 = .ok (.ldc2_w 84, 3) := by decide +kernel
theorem dX8_ask_13 : decode cX8_ask 13 = .ok (.invokestatic 75, 3) := by decide +kernel
theorem dX8_ask_16 : decode cX8_ask 16 = .ok (.ifCond .ne 6, 3) := by decide +kernel
theorem dX8_ask_19 : decode cX8_ask 19 = .ok (.ldc 90, 2) := by decide +kernel
theorem dX8_ask_21 : decode cX8_ask 21 = .ok (.ireturn, 1) := by decide +kernel
theorem dX8_ask_22 : decode cX8_ask 22 = .ok (.aload_n 0, 1) := by decide +kernel
theorem dX8_ask_23 : decode cX8_ask 23 = .ok (.getfield 28, 3) := by decide +kernel
theorem dX8_ask_26 : decode cX8_ask 26 = .ok (.iload_n 1, 1) := by decide +kernel
theorem dX8_ask_27 : decode cX8_ask 27 = .ok (.iaload, 1) := by decide +kernel
theorem dX8_ask_28 : decode cX8_ask 28 = .ok (.ifCond .ne 7, 3) := by decide +kernel
theorem dX8_ask_31 : decode cX8_ask 31 = .ok (.ldc_w 303, 3) := by decide +kernel
theorem dX8_ask_34 : decode cX8_ask 34 = .ok (.ireturn, 1) := by decide +kernel
theorem dX8_ask_35 : decode cX8_ask 35 = .ok (.aload_n 0, 1) := by decide +kernel
theorem dX8_ask_36 : decode cX8_ask 36 = .ok (.getfield 28, 3) := by decide +kernel
theorem dX8_ask_39 : decode cX8_ask 39 = .ok (.iload_n 1, 1) := by decide +kernel
theorem dX8_ask_40 : decode cX8_ask 40 = .ok (.iaload, 1) := by decide +kernel
theorem dX8_ask_41 : decode cX8_ask 41 = .ok (.iconst 1, 1) := by decide +kernel
theorem dX8_ask_42 : decode cX8_ask 42 = .ok (.if_icmp .ne 25, 3) := by decide +kernel
theorem dX8_ask_45 : decode cX8_ask 45 = .ok (.aload_n 0, 1) := by decide +kernel
theorem dX8_ask_46 : decode cX8_ask 46 = .ok (.getfield 31, 3) := by decide +kernel
theorem dX8_ask_49 : decode cX8_ask 49 = .ok (.iload_n 1, 1) := by decide +kernel
theorem dX8_ask_50 : decode cX8_ask 50 = .ok (.iaload, 1) := by decide +kernel
theorem dX8_ask_51 : decode cX8_ask 51 = .ok (.iload_n 2, 1) := by decide +kernel
theorem dX8_ask_52 : decode cX8_ask 52 = .ok (.invokestatic 128, 3) := by decide +kernel
theorem dX8_ask_55 : decode cX8_ask 55 = .ok (.ifCond .eq 12, 3) := by decide +kernel
theorem dX8_ask_58 : decode cX8_ask 58 = .ok (.aload_n 0, 1) := by decide +kernel
theorem dX8_ask_59 : decode cX8_ask 59 = .ok (.getfield 34, 3) := by decide +kernel
theorem dX8_ask_62 : decode cX8_ask 62 = .ok (.iload_n 1, 1) := by decide +kernel
theorem dX8_ask_63 : decode cX8_ask 63 = .ok (.iaload, 1) := by decide +kernel
theorem dX8_ask_64 : decode cX8_ask 64 = .ok (.goto 5, 3) := by decide +kernel
theorem dX8_ask_67 : decode cX8_ask 67 = .ok (.ldc 132, 2) := by decide +kernel
theorem dX8_ask_69 : decode cX8_ask 69 = .ok (.ireturn, 1) := by decide +kernel
theorem dX8_item_0 : decode cX8_item 0 = .ok (.iload_n 1, 1) := by decide +kernel
theorem dX8_item_1 : decode cX8_item 1 = .ok (.invokestatic 311, 3) := by decide +kernel
theorem dX8_item_4 : decode cX8_item 4 = .ok (.ifCond .ne 6, 3) := by decide +kernel
theorem dX8_item_7 : decode cX8_item 7 = .ok (.ldc 90, 2) := by decide +kernel
theorem dX8_item_9 : decode cX8_item 9 = .ok (.ireturn, 1) := by decide +kernel
theorem dX8_item_10 : decode cX8_item 10 = .ok (.aload_n 0, 1) := by decide +kernel
theorem dX8_item_11 : decode cX8_item 11 = .ok (.getfield 28, 3) := by decide +kernel
theorem dX8_item_14 : decode cX8_item 14 = .ok (.iload_n 1, 1) := by decide +kernel
theorem dX8_item_15 : decode cX8_item 15 = .ok (.iaload, 1) := by decide +kernel
theorem dX8_item_16 : decode cX8_item 16 = .ok (.iconst 2, 1) := by decide +kernel
theorem dX8_item_17 : decode cX8_item 17 = .ok (.if_icmp .eq 21, 3) := by decide +kernel
theorem dX8_item_20 : decode cX8_item 20 = .ok (.aload_n 0, 1) := by decide +kernel
theorem dX8_item_21 : decode cX8_item 21 = .ok (.getfield 28, 3) := by decide +kernel
theorem dX8_item_24 : decode cX8_item 24 = .ok (.iload_n 1, 1) := by decide +kernel
theorem dX8_item_25 : decode cX8_item 25 = .ok (.iaload, 1) := by decide +kernel
theorem dX8_item_26 : decode cX8_item 26 = .ok (.ifCond .ne 9, 3) := by decide +kernel
theorem dX8_item_29 : decode cX8_item 29 = .ok (.ldc_w 303, 3) := by decide +kernel
theorem dX8_item_32 : decode cX8_item 32 = .ok (.goto 5, 3) := by decide +kernel
theorem dX8_item_35 : decode cX8_item 35 = .ok (.ldc 132, 2) := by decide +kernel
theorem dX8_item_37 : decode cX8_item 37 = .ok (.ireturn, 1) := by decide +kernel
theorem dX8_item_38 : decode cX8_item 38 = .ok (.iload_n 2, 1) := by decide +kernel
theorem dX8_item_39 : decode cX8_item 39 = .ok (.i2l, 1) := by decide +kernel
theorem dX8_item_40 : decode cX8_item 40 = .ok (.lconst 0, 1) := by decide +kernel
theorem dX8_item_41 : decode cX8_item 41 = .ok (.aload_n 0, 1) := by decide +kernel
theorem dX8_item_42 : decode cX8_item 42 = .ok (.getfield 37, 3) := by decide +kernel
theorem dX8_item_45 : decode cX8_item 45 = .ok (.iload_n 1, 1) := by decide +kernel
theorem dX8_item_46 : decode cX8_item 46 = .ok (.iaload, 1) := by decide +kernel
theorem dX8_item_47 : decode cX8_item 47 = .ok (.iconst 1, 1) := by decide +kernel
theorem dX8_item_48 : decode cX8_item 48 = .ok (.isub, 1) := by decide +kernel
theorem dX8_item_49 : decode cX8_item 49 = .ok (.i2l, 1) := by decide +kernel
theorem dX8_item_50 : decode cX8_item 50 = .ok (.invokestatic 75, 3) := by decide +kernel
theorem dX8_item_53 : decode cX8_item 53 = .ok (.ifCond .ne 7, 3) := by decide +kernel
theorem dX8_item_56 : decode cX8_item 56 = .ok (.ldc_w 304, 3) := by decide +kernel
theorem dX8_item_59 : decode cX8_item 59 = .ok (.ireturn, 1) := by decide +kernel
theorem dX8_item_60 : decode cX8_item 60 = .ok (.aload_n 0, 1) := by decide +kernel
theorem dX8_item_61 : decode cX8_item 61 = .ok (.getfield 40, 3) := by decide +kernel
theorem dX8_item_64 : decode cX8_item 64 = .ok (.bipush 24, 2) := by decide +kernel
theorem dX8_item_66 : decode cX8_item 66 = .ok (.iload_n 1, 1) := by decide +kernel
theorem dX8_item_67 : decode cX8_item 67 = .ok (.imul, 1) := by decide +kernel
theorem dX8_item_68 : decode cX8_item 68 = .ok (.iload_n 2, 1) := by decide +kernel
theorem dX8_item_69 : decode cX8_item 69 = .ok (.iadd, 1) := by decide +kernel
theorem dX8_item_70 : decode cX8_item 70 = .ok (.iaload, 1) := by decide +kernel
theorem dX8_item_71 : decode cX8_item 71 = .ok (.istore_n 3, 1) := by decide +kernel
theorem dX8_item_72 : decode cX8_item 72 = .ok (.iload_n 3, 1) := by decide +kernel
theorem dX8_item_73 : decode cX8_item 73 = .ok (.ldc 74, 2) := by decide +kernel
theorem dX8_item_75 : decode cX8_item 75 = .ok (.if_icmp .ne 8, 3) := by decide +kernel
theorem dX8_item_78 : decode cX8_item 78 = .ok (.ldc 132, 2) := by decide +kernel
theorem dX8_item_80 : decode cX8_item 80 = .ok (.goto 4, 3) := by decide +kernel
theorem dX8_item_83 : decode cX8_item 83 = .ok (.iload_n 3, 1) := by decide +kernel
theorem dX8_item_84 : decode cX8_item 84 = .ok (.ireturn, 1) := by decide +kernel
theorem dX8_rest_0 : decode cX8_rest 0 = .ok (.iload_n 1, 1) := by decide +kernel
theorem dX8_rest_1 : decode cX8_rest 1 = .ok (.invokestatic 311, 3) := by decide +kernel
theorem dX8_rest_4 : decode cX8_rest 4 = .ok (.ifCond .ne 6, 3) := by decide +kernel
theorem dX8_rest_7 : decode cX8_rest 7 = .ok (.ldc 90, 2) := by decide +kernel
theorem dX8_rest_9 : decode cX8_rest 9 = .ok (.ireturn, 1) := by decide +kernel
theorem dX8_rest_10 : decode cX8_rest 10 = .ok (.aload_n 0, 1) := by decide +kernel
theorem dX8_rest_11 : decode cX8_rest 11 = .ok (.getfield 28, 3) := by decide +kernel
theorem dX8_rest_14 : decode cX8_rest 14 = .ok (.iload_n 1, 1) := by decide +kernel
theorem dX8_rest_15 : decode cX8_rest 15 = .ok (.iaload, 1) := by decide +kernel
theorem dX8_rest_16 : decode cX8_rest 16 = .ok (.iconst 3, 1) := by decide +kernel
theorem dX8_rest_17 : decode cX8_rest 17 = .ok (.if_icmp .eq 21, 3) := by decide +kernel
theorem dX8_rest_20 : decode cX8_rest 20 = .ok (.aload_n 0, 1) := by decide +kernel
theorem dX8_rest_21 : decode cX8_rest 21 = .ok (.getfield 28, 3) := by decide +kernel
theorem dX8_rest_24 : decode cX8_rest 24 = .ok (.iload_n 1, 1) := by decide +kernel
theorem dX8_rest_25 : decode cX8_rest 25 = .ok (.iaload, 1) := by decide +kernel
theorem dX8_rest_26 : decode cX8_rest 26 = .ok (.ifCond .ne 9, 3) := by decide +kernel
theorem dX8_rest_29 : decode cX8_rest 29 = .ok (.ldc_w 303, 3) := by decide +kernel
theorem dX8_rest_32 : decode cX8_rest 32 = .ok (.goto 5, 3) := by decide +kernel
theorem dX8_rest_35 : decode cX8_rest 35 = .ok (.ldc 132, 2) := by decide +kernel
theorem dX8_rest_37 : decode cX8_rest 37 = .ok (.ireturn, 1) := by decide +kernel
theorem dX8_rest_38 : decode cX8_rest 38 = .ok (.iload_n 2, 1) := by decide +kernel
theorem dX8_rest_39 : decode cX8_rest 39 = .ok (.ifCond .ne 9, 3) := by decide +kernel
theorem dX8_rest_42 : decode cX8_rest 42 = .ok (.ldc_w 314, 3) := by decide +kernel
theorem dX8_rest_45 : decode cX8_rest 45 = .ok (.goto 11, 3) := by decide +kernel
theorem dX8_rest_48 : decode cX8_rest 48 = .ok (.aload_n 0, 1) := by decide +kernel
theorem dX8_rest_49 : decode cX8_rest 49 = .ok (.getfield 31, 3) := by decide +kernel
theorem dX8_rest_52 : decode cX8_rest 52 = .ok (.iload_n 1, 1) := by decide +kernel
theorem dX8_rest_53 : decode cX8_rest 53 = .ok (.iaload, 1) := by decide +kernel
theorem dX8_rest_54 : decode cX8_rest 54 = .ok (.iload_n 2, 1) := by decide +kernel
theorem dX8_rest_55 : decode cX8_rest 55 = .ok (.irem, 1) := by decide +kernel
theorem dX8_rest_56 : decode cX8_rest 56 = .ok (.ireturn, 1) := by decide +kernel
theorem dX8_tell_0 : decode cX8_tell 0 = .ok (.aload_n 0, 1) := by decide +kernel
theorem dX8_tell_1 : decode cX8_tell 1 = .ok (.getfield 315, 3) := by decide +kernel
theorem dX8_tell_4 : decode cX8_tell 4 = .ok (.bipush 60, 2) := by decide +kernel
theorem dX8_tell_6 : decode cX8_tell 6 = .ok (.if_icmp .ne 6, 3) := by decide +kernel
theorem dX8_tell_9 : decode cX8_tell 9 = .ok (.ldc 91, 2) := by decide +kernel
theorem dX8_tell_11 : decode cX8_tell 11 = .ok (.ireturn, 1) := by decide +kernel
theorem dX8_tell_12 : decode cX8_tell 12 = .ok (.aload_n 0, 1) := by decide +kernel
theorem dX8_tell_13 : decode cX8_tell 13 = .ok (.getfield 68, 3) := by decide +kernel
theorem dX8_tell_16 : decode cX8_tell 16 = .ok (.aload_n 0, 1) := by decide +kernel
theorem dX8_tell_17 : decode cX8_tell 17 = .ok (.getfield 315, 3) := by decide +kernel
theorem dX8_tell_20 : decode cX8_tell 20 = .ok (.iload_n 1, 1) := by decide +kernel
theorem dX8_tell_21 : decode cX8_tell 21 = .ok (.iastore, 1) := by decide +kernel
theorem dX8_tell_22 : decode cX8_tell 22 = .ok (.aload_n 0, 1) := by decide +kernel
theorem dX8_tell_23 : decode cX8_tell 23 = .ok (.dup, 1) := by decide +kernel
theorem dX8_tell_24 : decode cX8_tell 24 = .ok (.getfield 315, 3) := by decide +kernel
theorem dX8_tell_27 : decode cX8_tell 27 = .ok (.iconst 1, 1) := by decide +kernel
theorem dX8_tell_28 : decode cX8_tell 28 = .ok (.iadd, 1) := by decide +kernel
theorem dX8_tell_29 : decode cX8_tell 29 = .ok (.putfield 315, 3) := by decide +kernel
theorem dX8_tell_32 : decode cX8_tell 32 = .ok (.aload_n 0, 1) := by decide +kernel
theorem dX8_tell_33 : decode cX8_tell 33 = .ok (.getfield 315, 3) := by decide +kernel
theorem dX8_tell_36 : decode cX8_tell 36 = .ok (.ireturn, 1) := by decide +kernel
theorem dX8_setAside_0 : decode cX8_setAside 0 = .ok (.iconst 0, 1) := by decide +kernel
theorem dX8_setAside_1 : decode cX8_setAside 1 = .ok (.istore_n 3, 1) := by decide +kernel
theorem dX8_setAside_2 : decode cX8_setAside 2 = .ok (.iload_n 3, 1) := by decide +kernel
theorem dX8_setAside_3 : decode cX8_setAside 3 = .ok (.sipush 2876, 3) := by decide +kernel
theorem dX8_setAside_6 : decode cX8_setAside 6 = .ok (.if_icmp .ge 15, 3) := by decide +kernel
theorem dX8_setAside_9 : decode cX8_setAside 9 = .ok (.aload_n 2, 1) := by decide +kernel
theorem dX8_setAside_10 : decode cX8_setAside 10 = .ok (.iload_n 3, 1) := by decide +kernel
theorem dX8_setAside_11 : decode cX8_setAside 11 = .ok (.aload_n 1, 1) := by decide +kernel
theorem dX8_setAside_12 : decode cX8_setAside 12 = .ok (.iload_n 3, 1) := by decide +kernel
theorem dX8_setAside_13 : decode cX8_setAside 13 = .ok (.iaload, 1) := by decide +kernel
theorem dX8_setAside_14 : decode cX8_setAside 14 = .ok (.iastore, 1) := by decide +kernel
theorem dX8_setAside_15 : decode cX8_setAside 15 = .ok (.iinc 3 1, 3) := by decide +kernel
theorem dX8_setAside_18 : decode cX8_setAside 18 = .ok (.goto (-16), 3) := by decide +kernel
theorem dX8_setAside_21 : decode cX8_setAside 21 = .ok (.return_, 1) := by decide +kernel
theorem dX8_check_0 : decode cX8_check 0 = .ok (.aload_n 0, 1) := by decide +kernel
theorem dX8_check_1 : decode cX8_check 1 = .ok (.getfield 315, 3) := by decide +kernel
theorem dX8_check_4 : decode cX8_check 4 = .ok (.istore_n 2, 1) := by decide +kernel
theorem dX8_check_5 : decode cX8_check 5 = .ok (.aload_n 0, 1) := by decide +kernel
theorem dX8_check_6 : decode cX8_check 6 = .ok (.iconst 0, 1) := by decide +kernel
theorem dX8_check_7 : decode cX8_check 7 = .ok (.putfield 315, 3) := by decide +kernel
theorem dX8_check_10 : decode cX8_check 10 = .ok (.iload_n 1, 1) := by decide +kernel
theorem dX8_check_11 : decode cX8_check 11 = .ok (.i2l, 1) := by decide +kernel
theorem dX8_check_12 : decode cX8_check 12 = .ok (.lconst 1, 1) := by decide +kernel
theorem dX8_check_13 : decode cX8_check 13 = .ok (.ldc2_w 318, 3) := by decide +kernel
theorem dX8_check_16 : decode cX8_check 16 = .ok (.invokestatic 75, 3) := by decide +kernel
theorem dX8_check_19 : decode cX8_check 19 = .ok (.ifCond .ne 6, 3) := by decide +kernel
theorem dX8_check_22 : decode cX8_check 22 = .ok (.ldc 90, 2) := by decide +kernel
theorem dX8_check_24 : decode cX8_check 24 = .ok (.ireturn, 1) := by decide +kernel
theorem dX8_check_25 : decode cX8_check 25 = .ok (.aload_n 0, 1) := by decide +kernel
theorem dX8_check_26 : decode cX8_check 26 = .ok (.getfield 320, 3) := by decide +kernel
theorem dX8_check_29 : decode cX8_check 29 = .ok (.ifCond .ne 7, 3) := by decide +kernel
theorem dX8_check_32 : decode cX8_check 32 = .ok (.ldc_w 314, 3) := by decide +kernel
theorem dX8_check_35 : decode cX8_check 35 = .ok (.ireturn, 1) := by decide +kernel
theorem dX8_check_36 : decode cX8_check 36 = .ok (.aload_n 0, 1) := by decide +kernel
theorem dX8_check_37 : decode cX8_check 37 = .ok (.aload_n 0, 1) := by decide +kernel
theorem dX8_check_38 : decode cX8_check 38 = .ok (.getfield 7, 3) := by decide +kernel
theorem dX8_check_41 : decode cX8_check 41 = .ok (.aload_n 0, 1) := by decide +kernel
theorem dX8_check_42 : decode cX8_check 42 = .ok (.getfield 16, 3) := by decide +kernel
theorem dX8_check_45 : decode cX8_check 45 = .ok (.invokevirtual 324, 3) := by decide +kernel
theorem dX8_check_48 : decode cX8_check 48 = .ok (.aload_n 0, 1) := by decide +kernel
theorem dX8_check_49 : decode cX8_check 49 = .ok (.aload_n 0, 1) := by decide +kernel
theorem dX8_check_50 : decode cX8_check 50 = .ok (.getfield 13, 3) := by decide +kernel
theorem dX8_check_53 : decode cX8_check 53 = .ok (.aload_n 0, 1) := by decide +kernel
theorem dX8_check_54 : decode cX8_check 54 = .ok (.getfield 7, 3) := by decide +kernel
theorem dX8_check_57 : decode cX8_check 57 = .ok (.invokevirtual 324, 3) := by decide +kernel
theorem dX8_check_60 : decode cX8_check 60 = .ok (.aload_n 0, 1) := by decide +kernel
theorem dX8_check_61 : decode cX8_check 61 = .ok (.invokevirtual 285, 3) := by decide +kernel
theorem dX8_check_64 : decode cX8_check 64 = .ok (.iconst 0, 1) := by decide +kernel
theorem dX8_check_65 : decode cX8_check 65 = .ok (.istore_n 3, 1) := by decide +kernel
theorem dX8_check_66 : decode cX8_check 66 = .ok (.iconst 0, 1) := by decide +kernel
theorem dX8_check_67 : decode cX8_check 67 = .ok (.istore 4, 2) := by decide +kernel
theorem dX8_check_69 : decode cX8_check 69 = .ok (.iload 4, 2) := by decide +kernel
theorem dX8_check_71 : decode cX8_check 71 = .ok (.iload_n 1, 1) := by decide +kernel
theorem dX8_check_72 : decode cX8_check 72 = .ok (.if_icmp .ge 52, 3) := by decide +kernel
theorem dX8_check_75 : decode cX8_check 75 = .ok (.aload_n 0, 1) := by decide +kernel
theorem dX8_check_76 : decode cX8_check 76 = .ok (.getfield 7, 3) := by decide +kernel
theorem dX8_check_79 : decode cX8_check 79 = .ok (.iconst 2, 1) := by decide +kernel
theorem dX8_check_80 : decode cX8_check 80 = .ok (.iaload, 1) := by decide +kernel
theorem dX8_check_81 : decode cX8_check 81 = .ok (.sipush 9999, 3) := by decide +kernel
theorem dX8_check_84 : decode cX8_check 84 = .ok (.if_icmp .ge 40, 3) := by decide +kernel
theorem dX8_check_87 : decode cX8_check 87 = .ok (.aload_n 0, 1) := by decide +kernel
theorem dX8_check_88 : decode cX8_check 88 = .ok (.invokevirtual 159, 3) := by decide +kernel
theorem dX8_check_91 : decode cX8_check 91 = .ok (.aload_n 0, 1) := by decide +kernel
theorem dX8_check_92 : decode cX8_check 92 = .ok (.getfield 71, 3) := by decide +kernel
theorem dX8_check_95 : decode cX8_check 95 = .ok (.iload_n 3, 1) := by decide +kernel
theorem dX8_check_96 : decode cX8_check 96 = .ok (.aload_n 0, 1) := by decide +kernel
theorem dX8_check_97 : decode cX8_check 97 = .ok (.invokevirtual 328, 3) := by decide +kernel
theorem dX8_check_100 : decode cX8_check 100 = .ok (.iastore, 1) := by decide +kernel
theorem dX8_check_101 : decode cX8_check 101 = .ok (.aload_n 0, 1) := by decide +kernel
theorem dX8_check_102 : decode cX8_check 102 = .ok (.getfield 71, 3) := by decide +kernel
theorem dX8_check_105 : decode cX8_check 105 = .ok (.iload_n 3, 1) := by decide +kernel
theorem dX8_check_106 : decode cX8_check 106 = .ok (.iconst 1, 1) := by decide +kernel
theorem dX8_check_107 : decode cX8_check 107 = .ok (.iadd, 1) := by decide +kernel
theorem dX8_check_108 : decode cX8_check 108 = .ok (.aload_n 0, 1) := by decide +kernel
theorem dX8_check_109 : decode cX8_check 109 = .ok (.getfield 7, 3) := by decide +kernel
theorem dX8_check_112 : decode cX8_check 112 = .ok (.iconst 3, 1) := by decide +kernel
theorem dX8_check_113 : decode cX8_check 113 = .ok (.iaload, 1) := by decide +kernel
theorem dX8_check_114 : decode cX8_check 114 = .ok (.iastore, 1) := by decide +kernel
theorem dX8_check_115 : decode cX8_check 115 = .ok (.iinc 3 2, 3) := by decide +kernel
theorem dX8_check_118 : decode cX8_check 118 = .ok (.iinc 4 1, 3) := by decide +kernel
theorem dX8_check_121 : decode cX8_check 121 = .ok (.goto (-52), 3) := by decide +kernel
theorem dX8_check_124 : decode cX8_check 124 = .ok (.aload_n 0, 1) := by decide +kernel
theorem dX8_check_125 : decode cX8_check 125 = .ok (.aload_n 0, 1) := by decide +kernel
theorem dX8_check_126 : decode cX8_check 126 = .ok (.getfield 16, 3) := by decide +kernel
theorem dX8_check_129 : decode cX8_check 129 = .ok (.aload_n 0, 1) := by decide +kernel
theorem dX8_check_130 : decode cX8_check 130 = .ok (.getfield 7, 3) := by decide +kernel
theorem dX8_check_133 : decode cX8_check 133 = .ok (.invokevirtual 324, 3) := by decide +kernel
theorem dX8_check_136 : decode cX8_check 136 = .ok (.aload_n 0, 1) := by decide +kernel
theorem dX8_check_137 : decode cX8_check 137 = .ok (.invokevirtual 285, 3) := by decide +kernel
theorem dX8_check_140 : decode cX8_check 140 = .ok (.iconst 0, 1) := by decide +kernel
theorem dX8_check_141 : decode cX8_check 141 = .ok (.istore 4, 2) := by decide +kernel
theorem dX8_check_143 : decode cX8_check 143 = .ok (.iload 4, 2) := by decide +kernel
theorem dX8_check_145 : decode cX8_check 145 = .ok (.iload_n 2, 1) := by decide +kernel
theorem dX8_check_146 : decode cX8_check 146 = .ok (.if_icmp .ge 32, 3) := by decide +kernel
theorem dX8_check_149 : decode cX8_check 149 = .ok (.iload 4, 2) := by decide +kernel
theorem dX8_check_151 : decode cX8_check 151 = .ok (.iload_n 3, 1) := by decide +kernel
theorem dX8_check_152 : decode cX8_check 152 = .ok (.if_icmp .ge 26, 3) := by decide +kernel
theorem dX8_check_155 : decode cX8_check 155 = .ok (.aload_n 0, 1) := by decide +kernel
theorem dX8_check_156 : decode cX8_check 156 = .ok (.getfield 68, 3) := by decide +kernel
theorem dX8_check_159 : decode cX8_check 159 = .ok (.iload 4, 2) := by decide +kernel
theorem dX8_check_161 : decode cX8_check 161 = .ok (.iaload, 1) := by decide +kernel
theorem dX8_check_162 : decode cX8_check 162 = .ok (.aload_n 0, 1) := by decide +kernel
theorem dX8_check_163 : decode cX8_check 163 = .ok (.getfield 71, 3) := by decide +kernel
theorem dX8_check_166 : decode cX8_check 166 = .ok (.iload 4, 2) := by decide +kernel
theorem dX8_check_168 : decode cX8_check 168 = .ok (.iaload, 1) := by decide +kernel
theorem dX8_check_169 : decode cX8_check 169 = .ok (.if_icmp .ne 9, 3) := by decide +kernel
theorem dX8_check_172 : decode cX8_check 172 = .ok (.iinc 4 1, 3) := by decide +kernel
theorem dX8_check_175 : decode cX8_check 175 = .ok (.goto (-32), 3) := by decide +kernel
theorem dX8_check_178 : decode cX8_check 178 = .ok (.iload 4, 2) := by decide +kernel
theorem dX8_check_180 : decode cX8_check 180 = .ok (.iload_n 2, 1) := by decide +kernel
theorem dX8_check_181 : decode cX8_check 181 = .ok (.if_icmp .ne 13, 3) := by decide +kernel
theorem dX8_check_184 : decode cX8_check 184 = .ok (.iload 4, 2) := by decide +kernel
theorem dX8_check_186 : decode cX8_check 186 = .ok (.iload_n 3, 1) := by decide +kernel
theorem dX8_check_187 : decode cX8_check 187 = .ok (.if_icmp .ne 7, 3) := by decide +kernel
theorem dX8_check_190 : decode cX8_check 190 = .ok (.iconst 0, 1) := by decide +kernel
theorem dX8_check_191 : decode cX8_check 191 = .ok (.goto 7, 3) := by decide +kernel
theorem dX8_check_194 : decode cX8_check 194 = .ok (.iconst 1, 1) := by decide +kernel
theorem dX8_check_195 : decode cX8_check 195 = .ok (.iload 4, 2) := by decide +kernel
theorem dX8_check_197 : decode cX8_check 197 = .ok (.iadd, 1) := by decide +kernel
theorem dX8_check_198 : decode cX8_check 198 = .ok (.ireturn, 1) := by decide +kernel
theorem dX8_keep_0 : decode cX8_keep 0 = .ok (.aload_n 0, 1) := by decide +kernel
theorem dX8_keep_1 : decode cX8_keep 1 = .ok (.iconst 1, 1) := by decide +kernel
theorem dX8_keep_2 : decode cX8_keep 2 = .ok (.putfield 320, 3) := by decide +kernel
theorem dX8_keep_5 : decode cX8_keep 5 = .ok (.aload_n 0, 1) := by decide +kernel
theorem dX8_keep_6 : decode cX8_keep 6 = .ok (.aload_n 0, 1) := by decide +kernel
theorem dX8_keep_7 : decode cX8_keep 7 = .ok (.getfield 7, 3) := by decide +kernel
theorem dX8_keep_10 : decode cX8_keep 10 = .ok (.aload_n 0, 1) := by decide +kernel
theorem dX8_keep_11 : decode cX8_keep 11 = .ok (.getfield 13, 3) := by decide +kernel
theorem dX8_keep_14 : decode cX8_keep 14 = .ok (.invokevirtual 324, 3) := by decide +kernel
theorem dX8_keep_17 : decode cX8_keep 17 = .ok (.aload_n 0, 1) := by decide +kernel
theorem dX8_keep_18 : decode cX8_keep 18 = .ok (.getfield 7, 3) := by decide +kernel
theorem dX8_keep_21 : decode cX8_keep 21 = .ok (.iconst 0, 1) := by decide +kernel
theorem dX8_keep_22 : decode cX8_keep 22 = .ok (.iaload, 1) := by decide +kernel
theorem dX8_keep_23 : decode cX8_keep 23 = .ok (.ireturn, 1) := by decide +kernel
theorem dX8_back_0 : decode cX8_back 0 = .ok (.aload_n 0, 1) := by decide +kernel
theorem dX8_back_1 : decode cX8_back 1 = .ok (.getfield 320, 3) := by decide +kernel
theorem dX8_back_4 : decode cX8_back 4 = .ok (.ifCond .ne 7, 3) := by decide +kernel
theorem dX8_back_7 : decode cX8_back 7 = .ok (.ldc_w 314, 3) := by decide +kernel
theorem dX8_back_10 : decode cX8_back 10 = .ok (.ireturn, 1) := by decide +kernel
theorem dX8_back_11 : decode cX8_back 11 = .ok (.aload_n 0, 1) := by decide +kernel
theorem dX8_back_12 : decode cX8_back 12 = .ok (.aload_n 0, 1) := by decide +kernel
theorem dX8_back_13 : decode cX8_back 13 = .ok (.getfield 13, 3) := by decide +kernel
theorem dX8_back_16 : decode cX8_back 16 = .ok (.aload_n 0, 1) := by decide +kernel
theorem dX8_back_17 : decode cX8_back 17 = .ok (.getfield 7, 3) := by decide +kernel
theorem dX8_back_20 : decode cX8_back 20 = .ok (.invokevirtual 324, 3) := by decide +kernel
theorem dX8_back_23 : decode cX8_back 23 = .ok (.aload_n 0, 1) := by decide +kernel
theorem dX8_back_24 : decode cX8_back 24 = .ok (.invokevirtual 285, 3) := by decide +kernel
theorem dX8_back_27 : decode cX8_back 27 = .ok (.aload_n 0, 1) := by decide +kernel
theorem dX8_back_28 : decode cX8_back 28 = .ok (.getfield 7, 3) := by decide +kernel
theorem dX8_back_31 : decode cX8_back 31 = .ok (.iconst 0, 1) := by decide +kernel
theorem dX8_back_32 : decode cX8_back 32 = .ok (.iaload, 1) := by decide +kernel
theorem dX8_back_33 : decode cX8_back 33 = .ok (.ireturn, 1) := by decide +kernel
theorem dX8_count_0 : decode cX8_count 0 = .ok (.iload_n 1, 1) := by decide +kernel
theorem dX8_count_1 : decode cX8_count 1 = .ok (.tableswitch 97 0 7 #[47, 54, 61, 68, 73, 80, 85, 90], 47) := by decide +kernel
theorem dX8_count_48 : decode cX8_count 48 = .ok (.aload_n 0, 1) := by decide +kernel
theorem dX8_count_49 : decode cX8_count 49 = .ok (.getfield 7, 3) := by decide +kernel
theorem dX8_count_52 : decode cX8_count 52 = .ok (.iconst 0, 1) := by decide +kernel
theorem dX8_count_53 : decode cX8_count 53 = .ok (.iaload, 1) := by decide +kernel
theorem dX8_count_54 : decode cX8_count 54 = .ok (.ireturn, 1) := by decide +kernel
theorem dX8_count_55 : decode cX8_count 55 = .ok (.aload_n 0, 1) := by decide +kernel
theorem dX8_count_56 : decode cX8_count 56 = .ok (.getfield 7, 3) := by decide +kernel
theorem dX8_count_59 : decode cX8_count 59 = .ok (.iconst 2, 1) := by decide +kernel
theorem dX8_count_60 : decode cX8_count 60 = .ok (.iaload, 1) := by decide +kernel
theorem dX8_count_61 : decode cX8_count 61 = .ok (.ireturn, 1) := by decide +kernel
theorem dX8_count_62 : decode cX8_count 62 = .ok (.aload_n 0, 1) := by decide +kernel
theorem dX8_count_63 : decode cX8_count 63 = .ok (.getfield 7, 3) := by decide +kernel
theorem dX8_count_66 : decode cX8_count 66 = .ok (.iconst 4, 1) := by decide +kernel
theorem dX8_count_67 : decode cX8_count 67 = .ok (.iaload, 1) := by decide +kernel
theorem dX8_count_68 : decode cX8_count 68 = .ok (.ireturn, 1) := by decide +kernel
theorem dX8_count_69 : decode cX8_count 69 = .ok (.aload_n 0, 1) := by decide +kernel
theorem dX8_count_70 : decode cX8_count 70 = .ok (.invokevirtual 331, 3) := by decide +kernel
theorem dX8_count_73 : decode cX8_count 73 = .ok (.ireturn, 1) := by decide +kernel
theorem dX8_count_74 : decode cX8_count 74 = .ok (.aload_n 0, 1) := by decide +kernel
theorem dX8_count_75 : decode cX8_count 75 = .ok (.getfield 7, 3) := by decide +kernel
theorem dX8_count_78 : decode cX8_count 78 = .ok (.iconst 1, 1) := by decide +kernel
theorem dX8_count_79 : decode cX8_count 79 = .ok (.iaload, 1) := by decide +kernel
theorem dX8_count_80 : decode cX8_count 80 = .ok (.ireturn, 1) := by decide +kernel
theorem dX8_count_81 : decode cX8_count 81 = .ok (.aload_n 0, 1) := by decide +kernel
theorem dX8_count_82 : decode cX8_count 82 = .ok (.getfield 315, 3) := by decide +kernel
theorem dX8_count_85 : decode cX8_count 85 = .ok (.ireturn, 1) := by decide +kernel
theorem dX8_count_86 : decode cX8_count 86 = .ok (.aload_n 0, 1) := by decide +kernel
theorem dX8_count_87 : decode cX8_count 87 = .ok (.getfield 195, 3) := by decide +kernel
theorem dX8_count_90 : decode cX8_count 90 = .ok (.ireturn, 1) := by decide +kernel
theorem dX8_count_91 : decode cX8_count 91 = .ok (.aload_n 0, 1) := by decide +kernel
theorem dX8_count_92 : decode cX8_count 92 = .ok (.getfield 7, 3) := by decide +kernel
theorem dX8_count_95 : decode cX8_count 95 = .ok (.iconst 5, 1) := by decide +kernel
theorem dX8_count_96 : decode cX8_count 96 = .ok (.iaload, 1) := by decide +kernel
theorem dX8_count_97 : decode cX8_count 97 = .ok (.ireturn, 1) := by decide +kernel
theorem dX8_count_98 : decode cX8_count 98 = .ok (.ldc 90, 2) := by decide +kernel
theorem dX8_count_100 : decode cX8_count 100 = .ok (.ireturn, 1) := by decide +kernel
theorem dJ11_isValidCodePoint_9a6ad_0 : decode cJ11_isValidCodePoint_9a6ad 0 = .ok (.iload_n 0, 1) := by decide +kernel
theorem dJ11_isValidCodePoint_9a6ad_1 : decode cJ11_isValidCodePoint_9a6ad 1 = .ok (.bipush 16, 2) := by decide +kernel
theorem dJ11_isValidCodePoint_9a6ad_3 : decode cJ11_isValidCodePoint_9a6ad 3 = .ok (.iushr, 1) := by decide +kernel
theorem dJ11_isValidCodePoint_9a6ad_4 : decode cJ11_isValidCodePoint_9a6ad 4 = .ok (.istore_n 1, 1) := by decide +kernel
theorem dJ11_isValidCodePoint_9a6ad_5 : decode cJ11_isValidCodePoint_9a6ad 5 = .ok (.iload_n 1, 1) := by decide +kernel
theorem dJ11_isValidCodePoint_9a6ad_6 : decode cJ11_isValidCodePoint_9a6ad 6 = .ok (.bipush 17, 2) := by decide +kernel
theorem dJ11_isValidCodePoint_9a6ad_8 : decode cJ11_isValidCodePoint_9a6ad 8 = .ok (.if_icmp .ge 7, 3) := by decide +kernel
theorem dJ11_isValidCodePoint_9a6ad_11 : decode cJ11_isValidCodePoint_9a6ad 11 = .ok (.iconst 1, 1) := by decide +kernel
theorem dJ11_isValidCodePoint_9a6ad_12 : decode cJ11_isValidCodePoint_9a6ad 12 = .ok (.goto 4, 3) := by decide +kernel
theorem dJ11_isValidCodePoint_9a6ad_15 : decode cJ11_isValidCodePoint_9a6ad 15 = .ok (.iconst 0, 1) := by decide +kernel
theorem dJ11_isValidCodePoint_9a6ad_16 : decode cJ11_isValidCodePoint_9a6ad 16 = .ok (.ireturn, 1) := by decide +kernel
theorem dJ11_highSurrogate_5068e_0 : decode cJ11_highSurrogate_5068e 0 = .ok (.iload_n 0, 1) := by decide +kernel
theorem dJ11_highSurrogate_5068e_1 : decode cJ11_highSurrogate_5068e 1 = .ok (.bipush 10, 2) := by decide +kernel
theorem dJ11_highSurrogate_5068e_3 : decode cJ11_highSurrogate_5068e 3 = .ok (.iushr, 1) := by decide +kernel
theorem dJ11_highSurrogate_5068e_4 : decode cJ11_highSurrogate_5068e 4 = .ok (.ldc 110, 2) := by decide +kernel
theorem dJ11_highSurrogate_5068e_6 : decode cJ11_highSurrogate_5068e 6 = .ok (.iadd, 1) := by decide +kernel
theorem dJ11_highSurrogate_5068e_7 : decode cJ11_highSurrogate_5068e 7 = .ok (.i2c, 1) := by decide +kernel
theorem dJ11_highSurrogate_5068e_8 : decode cJ11_highSurrogate_5068e 8 = .ok (.ireturn, 1) := by decide +kernel
theorem dJ11_lowSurrogate_5068e_0 : decode cJ11_lowSurrogate_5068e 0 = .ok (.iload_n 0, 1) := by decide +kernel
theorem dJ11_lowSurrogate_5068e_1 : decode cJ11_lowSurrogate_5068e 1 = .ok (.sipush 1023, 3) := by decide +kernel
theorem dJ11_lowSurrogate_5068e_4 : decode cJ11_lowSurrogate_5068e 4 = .ok (.iand, 1) := by decide +kernel
theorem dJ11_lowSurrogate_5068e_5 : decode cJ11_lowSurrogate_5068e 5 = .ok (.ldc 76, 2) := by decide +kernel
theorem dJ11_lowSurrogate_5068e_7 : decode cJ11_lowSurrogate_5068e 7 = .ok (.iadd, 1) := by decide +kernel
theorem dJ11_lowSurrogate_5068e_8 : decode cJ11_lowSurrogate_5068e 8 = .ok (.i2c, 1) := by decide +kernel
theorem dJ11_lowSurrogate_5068e_9 : decode cJ11_lowSurrogate_5068e 9 = .ok (.ireturn, 1) := by decide +kernel
theorem dJ6_bitCount_0f7a4_0 : decode cJ6_bitCount_0f7a4 0 = .ok (.iload_n 0, 1) := by decide +kernel
theorem dJ6_bitCount_0f7a4_1 : decode cJ6_bitCount_0f7a4 1 = .ok (.iload_n 0, 1) := by decide +kernel
theorem dJ6_bitCount_0f7a4_2 : decode cJ6_bitCount_0f7a4 2 = .ok (.iconst 1, 1) := by decide +kernel
theorem dJ6_bitCount_0f7a4_3 : decode cJ6_bitCount_0f7a4 3 = .ok (.iushr, 1) := by decide +kernel
theorem dJ6_bitCount_0f7a4_4 : decode cJ6_bitCount_0f7a4 4 = .ok (.ldc_w 265, 3) := by decide +kernel
theorem dJ6_bitCount_0f7a4_7 : decode cJ6_bitCount_0f7a4 7 = .ok (.iand, 1) := by decide +kernel
theorem dJ6_bitCount_0f7a4_8 : decode cJ6_bitCount_0f7a4 8 = .ok (.isub, 1) := by decide +kernel
theorem dJ6_bitCount_0f7a4_9 : decode cJ6_bitCount_0f7a4 9 = .ok (.istore_n 0, 1) := by decide +kernel
theorem dJ6_bitCount_0f7a4_10 : decode cJ6_bitCount_0f7a4 10 = .ok (.iload_n 0, 1) := by decide +kernel
theorem dJ6_bitCount_0f7a4_11 : decode cJ6_bitCount_0f7a4 11 = .ok (.ldc_w 266, 3) := by decide +kernel
theorem dJ6_bitCount_0f7a4_14 : decode cJ6_bitCount_0f7a4 14 = .ok (.iand, 1) := by decide +kernel
theorem dJ6_bitCount_0f7a4_15 : decode cJ6_bitCount_0f7a4 15 = .ok (.iload_n 0, 1) := by decide +kernel
theorem dJ6_bitCount_0f7a4_16 : decode cJ6_bitCount_0f7a4 16 = .ok (.iconst 2, 1) := by decide +kernel
theorem dJ6_bitCount_0f7a4_17 : decode cJ6_bitCount_0f7a4 17 = .ok (.iushr, 1) := by decide +kernel
theorem dJ6_bitCount_0f7a4_18 : decode cJ6_bitCount_0f7a4 18 = .ok (.ldc_w 266, 3) := by decide +kernel
theorem dJ6_bitCount_0f7a4_21 : decode cJ6_bitCount_0f7a4 21 = .ok (.iand, 1) := by decide +kernel
theorem dJ6_bitCount_0f7a4_22 : decode cJ6_bitCount_0f7a4 22 = .ok (.iadd, 1) := by decide +kernel
theorem dJ6_bitCount_0f7a4_23 : decode cJ6_bitCount_0f7a4 23 = .ok (.istore_n 0, 1) := by decide +kernel
theorem dJ6_bitCount_0f7a4_24 : decode cJ6_bitCount_0f7a4 24 = .ok (.iload_n 0, 1) := by decide +kernel
theorem dJ6_bitCount_0f7a4_25 : decode cJ6_bitCount_0f7a4 25 = .ok (.iload_n 0, 1) := by decide +kernel
theorem dJ6_bitCount_0f7a4_26 : decode cJ6_bitCount_0f7a4 26 = .ok (.iconst 4, 1) := by decide +kernel
theorem dJ6_bitCount_0f7a4_27 : decode cJ6_bitCount_0f7a4 27 = .ok (.iushr, 1) := by decide +kernel
theorem dJ6_bitCount_0f7a4_28 : decode cJ6_bitCount_0f7a4 28 = .ok (.iadd, 1) := by decide +kernel
theorem dJ6_bitCount_0f7a4_29 : decode cJ6_bitCount_0f7a4 29 = .ok (.ldc_w 267, 3) := by decide +kernel
theorem dJ6_bitCount_0f7a4_32 : decode cJ6_bitCount_0f7a4 32 = .ok (.iand, 1) := by decide +kernel
theorem dJ6_bitCount_0f7a4_33 : decode cJ6_bitCount_0f7a4 33 = .ok (.istore_n 0, 1) := by decide +kernel
theorem dJ6_bitCount_0f7a4_34 : decode cJ6_bitCount_0f7a4 34 = .ok (.iload_n 0, 1) := by decide +kernel
theorem dJ6_bitCount_0f7a4_35 : decode cJ6_bitCount_0f7a4 35 = .ok (.iload_n 0, 1) := by decide +kernel
theorem dJ6_bitCount_0f7a4_36 : decode cJ6_bitCount_0f7a4 36 = .ok (.bipush 8, 2) := by decide +kernel
theorem dJ6_bitCount_0f7a4_38 : decode cJ6_bitCount_0f7a4 38 = .ok (.iushr, 1) := by decide +kernel
theorem dJ6_bitCount_0f7a4_39 : decode cJ6_bitCount_0f7a4 39 = .ok (.iadd, 1) := by decide +kernel
theorem dJ6_bitCount_0f7a4_40 : decode cJ6_bitCount_0f7a4 40 = .ok (.istore_n 0, 1) := by decide +kernel
theorem dJ6_bitCount_0f7a4_41 : decode cJ6_bitCount_0f7a4 41 = .ok (.iload_n 0, 1) := by decide +kernel
theorem dJ6_bitCount_0f7a4_42 : decode cJ6_bitCount_0f7a4 42 = .ok (.iload_n 0, 1) := by decide +kernel
theorem dJ6_bitCount_0f7a4_43 : decode cJ6_bitCount_0f7a4 43 = .ok (.bipush 16, 2) := by decide +kernel
theorem dJ6_bitCount_0f7a4_45 : decode cJ6_bitCount_0f7a4 45 = .ok (.iushr, 1) := by decide +kernel
theorem dJ6_bitCount_0f7a4_46 : decode cJ6_bitCount_0f7a4 46 = .ok (.iadd, 1) := by decide +kernel
theorem dJ6_bitCount_0f7a4_47 : decode cJ6_bitCount_0f7a4 47 = .ok (.istore_n 0, 1) := by decide +kernel
theorem dJ6_bitCount_0f7a4_48 : decode cJ6_bitCount_0f7a4 48 = .ok (.iload_n 0, 1) := by decide +kernel
theorem dJ6_bitCount_0f7a4_49 : decode cJ6_bitCount_0f7a4 49 = .ok (.bipush 63, 2) := by decide +kernel
theorem dJ6_bitCount_0f7a4_51 : decode cJ6_bitCount_0f7a4 51 = .ok (.iand, 1) := by decide +kernel
theorem dJ6_bitCount_0f7a4_52 : decode cJ6_bitCount_0f7a4 52 = .ok (.ireturn, 1) := by decide +kernel
theorem dJ9_abs_0f7a4_0 : decode cJ9_abs_0f7a4 0 = .ok (.iload_n 0, 1) := by decide +kernel
theorem dJ9_abs_0f7a4_1 : decode cJ9_abs_0f7a4 1 = .ok (.ifCond .ge 8, 3) := by decide +kernel
theorem dJ9_abs_0f7a4_4 : decode cJ9_abs_0f7a4 4 = .ok (.iload_n 0, 1) := by decide +kernel
theorem dJ9_abs_0f7a4_5 : decode cJ9_abs_0f7a4 5 = .ok (.ineg, 1) := by decide +kernel
theorem dJ9_abs_0f7a4_6 : decode cJ9_abs_0f7a4 6 = .ok (.goto 4, 3) := by decide +kernel
theorem dJ9_abs_0f7a4_9 : decode cJ9_abs_0f7a4 9 = .ok (.iload_n 0, 1) := by decide +kernel
theorem dJ9_abs_0f7a4_10 : decode cJ9_abs_0f7a4 10 = .ok (.ireturn, 1) := by decide +kernel
theorem dJ9_max_7cf53_0 : decode cJ9_max_7cf53 0 = .ok (.iload_n 0, 1) := by decide +kernel
theorem dJ9_max_7cf53_1 : decode cJ9_max_7cf53 1 = .ok (.iload_n 1, 1) := by decide +kernel
theorem dJ9_max_7cf53_2 : decode cJ9_max_7cf53 2 = .ok (.if_icmp .lt 7, 3) := by decide +kernel
theorem dJ9_max_7cf53_5 : decode cJ9_max_7cf53 5 = .ok (.iload_n 0, 1) := by decide +kernel
theorem dJ9_max_7cf53_6 : decode cJ9_max_7cf53 6 = .ok (.goto 4, 3) := by decide +kernel
theorem dJ9_max_7cf53_9 : decode cJ9_max_7cf53 9 = .ok (.iload_n 1, 1) := by decide +kernel
theorem dJ9_max_7cf53_10 : decode cJ9_max_7cf53 10 = .ok (.ireturn, 1) := by decide +kernel
theorem dJ9_min_7cf53_0 : decode cJ9_min_7cf53 0 = .ok (.iload_n 0, 1) := by decide +kernel
theorem dJ9_min_7cf53_1 : decode cJ9_min_7cf53 1 = .ok (.iload_n 1, 1) := by decide +kernel
theorem dJ9_min_7cf53_2 : decode cJ9_min_7cf53 2 = .ok (.if_icmp .gt 7, 3) := by decide +kernel
theorem dJ9_min_7cf53_5 : decode cJ9_min_7cf53 5 = .ok (.iload_n 0, 1) := by decide +kernel
theorem dJ9_min_7cf53_6 : decode cJ9_min_7cf53 6 = .ok (.goto 4, 3) := by decide +kernel
theorem dJ9_min_7cf53_9 : decode cJ9_min_7cf53 9 = .ok (.iload_n 1, 1) := by decide +kernel
theorem dJ9_min_7cf53_10 : decode cJ9_min_7cf53 10 = .ok (.ireturn, 1) := by decide +kernel
theorem dJ0_length_8abf5_0 : decode cJ0_length_8abf5 0 = .ok (.aload_n 0, 1) := by decide +kernel
theorem dJ0_length_8abf5_1 : decode cJ0_length_8abf5 1 = .ok (.getfield 9, 3) := by decide +kernel
theorem dJ0_length_8abf5_4 : decode cJ0_length_8abf5 4 = .ok (.arraylength, 1) := by decide +kernel
theorem dJ0_length_8abf5_5 : decode cJ0_length_8abf5 5 = .ok (.aload_n 0, 1) := by decide +kernel
theorem dJ0_length_8abf5_6 : decode cJ0_length_8abf5 6 = .ok (.invokevirtual 335, 3) := by decide +kernel
theorem dJ0_length_8abf5_9 : decode cJ0_length_8abf5 9 = .ok (.ishr, 1) := by decide +kernel
theorem dJ0_length_8abf5_10 : decode cJ0_length_8abf5 10 = .ok (.ireturn, 1) := by decide +kernel
theorem dJ0_charAt_5068e_0 : decode cJ0_charAt_5068e 0 = .ok (.aload_n 0, 1) := by decide +kernel
theorem dJ0_charAt_5068e_1 : decode cJ0_charAt_5068e 1 = .ok (.invokevirtual 492, 3) := by decide +kernel
theorem dJ0_charAt_5068e_4 : decode cJ0_charAt_5068e 4 = .ok (.ifCond .eq 12, 3) := by decide +kernel
theorem dJ0_charAt_5068e_7 : decode cJ0_charAt_5068e 7 = .ok (.aload_n 0, 1) := by decide +kernel
theorem dJ0_charAt_5068e_8 : decode cJ0_charAt_5068e 8 = .ok (.getfield 9, 3) := by decide +kernel
theorem dJ0_charAt_5068e_11 : decode cJ0_charAt_5068e 11 = .ok (.iload_n 1, 1) := by decide +kernel
theorem dJ0_charAt_5068e_12 : decode cJ0_charAt_5068e 12 = .ok (.invokestatic 495, 3) := by decide +kernel
theorem dJ0_charAt_5068e_15 : decode cJ0_charAt_5068e 15 = .ok (.ireturn, 1) := by decide +kernel
theorem dJ0_charAt_5068e_16 : decode cJ0_charAt_5068e 16 = .ok (.aload_n 0, 1) := by decide +kernel
theorem dJ0_charAt_5068e_17 : decode cJ0_charAt_5068e 17 = .ok (.getfield 9, 3) := by decide +kernel
theorem dJ0_charAt_5068e_20 : decode cJ0_charAt_5068e 20 = .ok (.iload_n 1, 1) := by decide +kernel
theorem dJ0_charAt_5068e_21 : decode cJ0_charAt_5068e 21 = .ok (.invokestatic 498, 3) := by decide +kernel
theorem dJ0_charAt_5068e_24 : decode cJ0_charAt_5068e 24 = .ok (.ireturn, 1) := by decide +kernel
theorem dJ0_indexOf_0f7a4_0 : decode cJ0_indexOf_0f7a4 0 = .ok (.aload_n 0, 1) := by decide +kernel
theorem dJ0_indexOf_0f7a4_1 : decode cJ0_indexOf_0f7a4 1 = .ok (.iload_n 1, 1) := by decide +kernel
theorem dJ0_indexOf_0f7a4_2 : decode cJ0_indexOf_0f7a4 2 = .ok (.iconst 0, 1) := by decide +kernel
theorem dJ0_indexOf_0f7a4_3 : decode cJ0_indexOf_0f7a4 3 = .ok (.invokevirtual 633, 3) := by decide +kernel
theorem dJ0_indexOf_0f7a4_6 : decode cJ0_indexOf_0f7a4 6 = .ok (.ireturn, 1) := by decide +kernel
theorem dJ0_indexOf_7cf53_0 : decode cJ0_indexOf_7cf53 0 = .ok (.aload_n 0, 1) := by decide +kernel
theorem dJ0_indexOf_7cf53_1 : decode cJ0_indexOf_7cf53 1 = .ok (.invokevirtual 492, 3) := by decide +kernel
theorem dJ0_indexOf_7cf53_4 : decode cJ0_indexOf_7cf53 4 = .ok (.ifCond .eq 19, 3) := by decide +kernel
theorem dJ0_indexOf_7cf53_7 : decode cJ0_indexOf_7cf53 7 = .ok (.aload_n 0, 1) := by decide +kernel
theorem dJ0_indexOf_7cf53_8 : decode cJ0_indexOf_7cf53 8 = .ok (.getfield 9, 3) := by decide +kernel
theorem dJ0_indexOf_7cf53_11 : decode cJ0_indexOf_7cf53 11 = .ok (.iload_n 1, 1) := by decide +kernel
theorem dJ0_indexOf_7cf53_12 : decode cJ0_indexOf_7cf53 12 = .ok (.iload_n 2, 1) := by decide +kernel
theorem dJ0_indexOf_7cf53_13 : decode cJ0_indexOf_7cf53 13 = .ok (.aload_n 0, 1) := by decide +kernel
theorem dJ0_indexOf_7cf53_14 : decode cJ0_indexOf_7cf53 14 = .ok (.invokevirtual 505, 3) := by decide +kernel
theorem dJ0_indexOf_7cf53_17 : decode cJ0_indexOf_7cf53 17 = .ok (.invokestatic 637, 3) := by decide +kernel
theorem dJ0_indexOf_7cf53_20 : decode cJ0_indexOf_7cf53 20 = .ok (.goto 16, 3) := by decide +kernel
theorem dJ0_indexOf_7cf53_23 : decode cJ0_indexOf_7cf53 23 = .ok (.aload_n 0, 1) := by decide +kernel
theorem dJ0_indexOf_7cf53_24 : decode cJ0_indexOf_7cf53 24 = .ok (.getfield 9, 3) := by decide +kernel
theorem dJ0_indexOf_7cf53_27 : decode cJ0_indexOf_7cf53 27 = .ok (.iload_n 1, 1) := by decide +kernel
theorem dJ0_indexOf_7cf53_28 : decode cJ0_indexOf_7cf53 28 = .ok (.iload_n 2, 1) := by decide +kernel
theorem dJ0_indexOf_7cf53_29 : decode cJ0_indexOf_7cf53 29 = .ok (.aload_n 0, 1) := by decide +kernel
theorem dJ0_indexOf_7cf53_30 : decode cJ0_indexOf_7cf53 30 = .ok (.invokevirtual 505, 3) := by decide +kernel
theorem dJ0_indexOf_7cf53_33 : decode cJ0_indexOf_7cf53 33 = .ok (.invokestatic 640, 3) := by decide +kernel
theorem dJ0_indexOf_7cf53_36 : decode cJ0_indexOf_7cf53 36 = .ok (.ireturn, 1) := by decide +kernel
theorem dJ0_coder_7d493_0 : decode cJ0_coder_7d493 0 = .ok (.getstatic 38, 3) := by decide +kernel
theorem dJ0_coder_7d493_3 : decode cJ0_coder_7d493 3 = .ok (.ifCond .eq 10, 3) := by decide +kernel
theorem dJ0_coder_7d493_6 : decode cJ0_coder_7d493 6 = .ok (.aload_n 0, 1) := by decide +kernel
theorem dJ0_coder_7d493_7 : decode cJ0_coder_7d493 7 = .ok (.getfield 15, 3) := by decide +kernel
theorem dJ0_coder_7d493_10 : decode cJ0_coder_7d493 10 = .ok (.goto 4, 3) := by decide +kernel
theorem dJ0_coder_7d493_13 : decode cJ0_coder_7d493 13 = .ok (.iconst 1, 1) := by decide +kernel
theorem dJ0_coder_7d493_14 : decode cJ0_coder_7d493 14 = .ok (.ireturn, 1) := by decide +kernel
theorem dJ0_isLatin1_aae02_0 : decode cJ0_isLatin1_aae02 0 = .ok (.getstatic 38, 3) := by decide +kernel
theorem dJ0_isLatin1_aae02_3 : decode cJ0_isLatin1_aae02 3 = .ok (.ifCond .eq 14, 3) := by decide +kernel
theorem dJ0_isLatin1_aae02_6 : decode cJ0_isLatin1_aae02 6 = .ok (.aload_n 0, 1) := by decide +kernel
theorem dJ0_isLatin1_aae02_7 : decode cJ0_isLatin1_aae02 7 = .ok (.getfield 15, 3) := by decide +kernel
theorem dJ0_isLatin1_aae02_10 : decode cJ0_isLatin1_aae02 10 = .ok (.ifCond .ne 7, 3) := by decide +kernel
theorem dJ0_isLatin1_aae02_13 : decode cJ0_isLatin1_aae02 13 = .ok (.iconst 1, 1) := by decide +kernel
theorem dJ0_isLatin1_aae02_14 : decode cJ0_isLatin1_aae02 14 = .ok (.goto 4, 3) := by decide +kernel
theorem dJ0_isLatin1_aae02_17 : decode cJ0_isLatin1_aae02 17 = .ok (.iconst 0, 1) := by decide +kernel
theorem dJ0_isLatin1_aae02_18 : decode cJ0_isLatin1_aae02 18 = .ok (.ireturn, 1) := by decide +kernel
theorem dJ0_checkIndex_df160_0 : decode cJ0_checkIndex_df160 0 = .ok (.iload_n 0, 1) := by decide +kernel
theorem dJ0_checkIndex_df160_1 : decode cJ0_checkIndex_df160 1 = .ok (.iload_n 1, 1) := by decide +kernel
theorem dJ0_checkIndex_df160_2 : decode cJ0_checkIndex_df160 2 = .ok (.getstatic 1053, 3) := by decide +kernel
theorem dJ0_checkIndex_df160_5 : decode cJ0_checkIndex_df160 5 = .ok (.invokestatic 1059, 3) := by decide +kernel
theorem dJ0_checkIndex_df160_8 : decode cJ0_checkIndex_df160 8 = .ok (.pop, 1) := by decide +kernel
theorem dJ0_checkIndex_df160_9 : decode cJ0_checkIndex_df160 9 = .ok (.return_, 1) := by decide +kernel
theorem dJ0_checkBoundsBeginEnd_23922_0 : decode cJ0_checkBoundsBeginEnd_23922 0 = .ok (.iload_n 0, 1) := by decide +kernel
theorem dJ0_checkBoundsBeginEnd_23922_1 : decode cJ0_checkBoundsBeginEnd_23922 1 = .ok (.iload_n 1, 1) := by decide +kernel
theorem dJ0_checkBoundsBeginEnd_23922_2 : decode cJ0_checkBoundsBeginEnd_23922 2 = .ok (.iload_n 2, 1) := by decide +kernel
theorem dJ0_checkBoundsBeginEnd_23922_3 : decode cJ0_checkBoundsBeginEnd_23922 3 = .ok (.getstatic 1053, 3) := by decide +kernel
theorem dJ0_checkBoundsBeginEnd_23922_6 : decode cJ0_checkBoundsBeginEnd_23922 6 = .ok (.invokestatic 1062, 3) := by decide +kernel
theorem dJ0_checkBoundsBeginEnd_23922_9 : decode cJ0_checkBoundsBeginEnd_23922 9 = .ok (.pop, 1) := by decide +kernel
theorem dJ0_checkBoundsBeginEnd_23922_10 : decode cJ0_checkBoundsBeginEnd_23922 10 = .ok (.return_, 1) := by decide +kernel
theorem dJ1_charAt_3b067_0 : decode cJ1_charAt_3b067 0 = .ok (.iload_n 1, 1) := by decide +kernel
theorem dJ1_charAt_3b067_1 : decode cJ1_charAt_3b067 1 = .ok (.aload_n 0, 1) := by decide +kernel
theorem dJ1_charAt_3b067_2 : decode cJ1_charAt_3b067 2 = .ok (.arraylength, 1) := by decide +kernel
theorem dJ1_charAt_3b067_3 : decode cJ1_charAt_3b067 3 = .ok (.invokestatic 9, 3) := by decide +kernel
theorem dJ1_charAt_3b067_6 : decode cJ1_charAt_3b067 6 = .ok (.aload_n 0, 1) := by decide +kernel
theorem dJ1_charAt_3b067_7 : decode cJ1_charAt_3b067 7 = .ok (.iload_n 1, 1) := by decide +kernel
theorem dJ1_charAt_3b067_8 : decode cJ1_charAt_3b067 8 = .ok (.baload, 1) := by decide +kernel
theorem dJ1_charAt_3b067_9 : decode cJ1_charAt_3b067 9 = .ok (.sipush 255, 3) := by decide +kernel
theorem dJ1_charAt_3b067_12 : decode cJ1_charAt_3b067 12 = .ok (.iand, 1) := by decide +kernel
theorem dJ1_charAt_3b067_13 : decode cJ1_charAt_3b067 13 = .ok (.i2c, 1) := by decide +kernel
theorem dJ1_charAt_3b067_14 : decode cJ1_charAt_3b067 14 = .ok (.ireturn, 1) := by decide +kernel
theorem dJ1_canEncode_9a6ad_0 : decode cJ1_canEncode_9a6ad 0 = .ok (.iload_n 0, 1) := by decide +kernel
theorem dJ1_canEncode_9a6ad_1 : decode cJ1_canEncode_9a6ad 1 = .ok (.ifCond .lt 14, 3) := by decide +kernel
theorem dJ1_canEncode_9a6ad_4 : decode cJ1_canEncode_9a6ad 4 = .ok (.iload_n 0, 1) := by decide +kernel
theorem dJ1_canEncode_9a6ad_5 : decode cJ1_canEncode_9a6ad 5 = .ok (.sipush 255, 3) := by decide +kernel
theorem dJ1_canEncode_9a6ad_8 : decode cJ1_canEncode_9a6ad 8 = .ok (.if_icmp .gt 7, 3) := by decide +kernel
theorem dJ1_canEncode_9a6ad_11 : decode cJ1_canEncode_9a6ad 11 = .ok (.iconst 1, 1) := by decide +kernel
theorem dJ1_canEncode_9a6ad_12 : decode cJ1_canEncode_9a6ad 12 = .ok (.goto 4, 3) := by decide +kernel
theorem dJ1_canEncode_9a6ad_15 : decode cJ1_canEncode_9a6ad 15 = .ok (.iconst 0, 1) := by decide +kernel
theorem dJ1_canEncode_9a6ad_16 : decode cJ1_canEncode_9a6ad 16 = .ok (.ireturn, 1) := by decide +kernel
theorem dJ1_indexOf_4cfef_0 : decode cJ1_indexOf_4cfef 0 = .ok (.iload_n 1, 1) := by decide +kernel
theorem dJ1_indexOf_4cfef_1 : decode cJ1_indexOf_4cfef 1 = .ok (.invokestatic 88, 3) := by decide +kernel
theorem dJ1_indexOf_4cfef_4 : decode cJ1_indexOf_4cfef 4 = .ok (.ifCond .ne 5, 3) := by decide +kernel
theorem dJ1_indexOf_4cfef_7 : decode cJ1_indexOf_4cfef 7 = .ok (.iconst (-1), 1) := by decide +kernel
theorem dJ1_indexOf_4cfef_8 : decode cJ1_indexOf_4cfef 8 = .ok (.ireturn, 1) := by decide +kernel
theorem dJ1_indexOf_4cfef_9 : decode cJ1_indexOf_4cfef 9 = .ok (.iload_n 2, 1) := by decide +kernel
theorem dJ1_indexOf_4cfef_10 : decode cJ1_indexOf_4cfef 10 = .ok (.iconst 0, 1) := by decide +kernel
theorem dJ1_indexOf_4cfef_11 : decode cJ1_indexOf_4cfef 11 = .ok (.invokestatic 92, 3) := by decide +kernel
theorem dJ1_indexOf_4cfef_14 : decode cJ1_indexOf_4cfef 14 = .ok (.istore_n 2, 1) := by decide +kernel
theorem dJ1_indexOf_4cfef_15 : decode cJ1_indexOf_4cfef 15 = .ok (.iload_n 3, 1) := by decide +kernel
theorem dJ1_indexOf_4cfef_16 : decode cJ1_indexOf_4cfef 16 = .ok (.aload_n 0, 1) := by decide +kernel
theorem dJ1_indexOf_4cfef_17 : decode cJ1_indexOf_4cfef 17 = .ok (.arraylength, 1) := by decide +kernel
theorem dJ1_indexOf_4cfef_18 : decode cJ1_indexOf_4cfef 18 = .ok (.invokestatic 38, 3) := by decide +kernel
theorem dJ1_indexOf_4cfef_21 : decode cJ1_indexOf_4cfef 21 = .ok (.istore_n 3, 1) := by decide +kernel
theorem dJ1_indexOf_4cfef_22 : decode cJ1_indexOf_4cfef 22 = .ok (.iload_n 2, 1) := by decide +kernel
theorem dJ1_indexOf_4cfef_23 : decode cJ1_indexOf_4cfef 23 = .ok (.iload_n 3, 1) := by decide +kernel
theorem dJ1_indexOf_4cfef_24 : decode cJ1_indexOf_4cfef 24 = .ok (.if_icmp .lt 5, 3) := by decide +kernel
theorem dJ1_indexOf_4cfef_27 : decode cJ1_indexOf_4cfef 27 = .ok (.iconst (-1), 1) := by decide +kernel
theorem dJ1_indexOf_4cfef_28 : decode cJ1_indexOf_4cfef 28 = .ok (.ireturn, 1) := by decide +kernel
theorem dJ1_indexOf_4cfef_29 : decode cJ1_indexOf_4cfef 29 = .ok (.aload_n 0, 1) := by decide +kernel
theorem dJ1_indexOf_4cfef_30 : decode cJ1_indexOf_4cfef 30 = .ok (.iload_n 1, 1) := by decide +kernel
theorem dJ1_indexOf_4cfef_31 : decode cJ1_indexOf_4cfef 31 = .ok (.iload_n 2, 1) := by decide +kernel
theorem dJ1_indexOf_4cfef_32 : decode cJ1_indexOf_4cfef 32 = .ok (.iload_n 3, 1) := by decide +kernel
theorem dJ1_indexOf_4cfef_33 : decode cJ1_indexOf_4cfef 33 = .ok (.invokestatic 95, 3) := by decide +kernel
theorem dJ1_indexOf_4cfef_36 : decode cJ1_indexOf_4cfef 36 = .ok (.ireturn, 1) := by decide +kernel
theorem dJ1_indexOfChar_4cfef_0 : decode cJ1_indexOfChar_4cfef 0 = .ok (.iload_n 1, 1) := by decide +kernel
theorem dJ1_indexOfChar_4cfef_1 : decode cJ1_indexOfChar_4cfef 1 = .ok (.i2b, 1) := by decide +kernel
theorem dJ1_indexOfChar_4cfef_2 : decode cJ1_indexOfChar_4cfef 2 = .ok (.istore 4, 2) := by decide +kernel
theorem dJ1_indexOfChar_4cfef_4 : decode cJ1_indexOfChar_4cfef 4 = .ok (.iload_n 2, 1) := by decide +kernel
theorem dJ1_indexOfChar_4cfef_5 : decode cJ1_indexOfChar_4cfef 5 = .ok (.istore 5, 2) := by decide +kernel
theorem dJ1_indexOfChar_4cfef_7 : decode cJ1_indexOfChar_4cfef 7 = .ok (.iload 5, 2) := by decide +kernel
theorem dJ1_indexOfChar_4cfef_9 : decode cJ1_indexOfChar_4cfef 9 = .ok (.iload_n 3, 1) := by decide +kernel
theorem dJ1_indexOfChar_4cfef_10 : decode cJ1_indexOfChar_4cfef 10 = .ok (.if_icmp .ge 21, 3) := by decide +kernel
theorem dJ1_indexOfChar_4cfef_13 : decode cJ1_indexOfChar_4cfef 13 = .ok (.aload_n 0, 1) := by decide +kernel
theorem dJ1_indexOfChar_4cfef_14 : decode cJ1_indexOfChar_4cfef 14 = .ok (.iload 5, 2) := by decide +kernel
theorem dJ1_indexOfChar_4cfef_16 : decode cJ1_indexOfChar_4cfef 16 = .ok (.baload, 1) := by decide +kernel
theorem dJ1_indexOfChar_4cfef_17 : decode cJ1_indexOfChar_4cfef 17 = .ok (.iload 4, 2) := by decide +kernel
theorem dJ1_indexOfChar_4cfef_19 : decode cJ1_indexOfChar_4cfef 19 = .ok (.if_icmp .ne 6, 3) := by decide +kernel
theorem dJ1_indexOfChar_4cfef_22 : decode cJ1_indexOfChar_4cfef 22 = .ok (.iload 5, 2) := by decide +kernel
theorem dJ1_indexOfChar_4cfef_24 : decode cJ1_indexOfChar_4cfef 24 = .ok (.ireturn, 1) := by decide +kernel
theorem dJ1_indexOfChar_4cfef_25 : decode cJ1_indexOfChar_4cfef 25 = .ok (.iinc 5 1, 3) := by decide +kernel
theorem dJ1_indexOfChar_4cfef_28 : decode cJ1_indexOfChar_4cfef 28 = .ok (.goto (-21), 3) := by decide +kernel
theorem dJ1_indexOfChar_4cfef_31 : decode cJ1_indexOfChar_4cfef 31 = .ok (.iconst (-1), 1) := by decide +kernel
theorem dJ1_indexOfChar_4cfef_32 : decode cJ1_indexOfChar_4cfef 32 = .ok (.ireturn, 1) := by decide +kernel
theorem dJ2_getChar_3b067_0 : decode cJ2_getChar_3b067 0 = .ok (.getstatic 44, 3) := by decide +kernel
theorem dJ2_getChar_3b067_3 : decode cJ2_getChar_3b067 3 = .ok (.ifCond .ne 25, 3) := by decide +kernel
theorem dJ2_getChar_3b067_6 : decode cJ2_getChar_3b067 6 = .ok (.iload_n 1, 1) := by decide +kernel
theorem dJ2_getChar_3b067_7 : decode cJ2_getChar_3b067 7 = .ok (.ifCond .lt 11, 3) := by decide +kernel
theorem dJ2_getChar_3b067_10 : decode cJ2_getChar_3b067 10 = .ok (.iload_n 1, 1) := by decide +kernel
theorem dJ2_getChar_3b067_11 : decode cJ2_getChar_3b067 11 = .ok (.aload_n 0, 1) := by decide +kernel
theorem dJ2_getChar_3b067_12 : decode cJ2_getChar_3b067 12 = .ok (.invokestatic 48, 3) := by decide +kernel
theorem dJ2_getChar_3b067_15 : decode cJ2_getChar_3b067 15 = .ok (.if_icmp .lt 13, 3) := by decide +kernel
theorem dJ2_getChar_3b067_18 : decode cJ2_getChar_3b067 18 = .ok (.new 52, 3) := by decide +kernel
theorem dJ2_getChar_3b067_21 : decode cJ2_getChar_3b067 21 = .ok (.dup, 1) := by decide +kernel
theorem dJ2_getChar_3b067_22 : decode cJ2_getChar_3b067 22 = .ok (.ldc 54, 2) := by decide +kernel
theorem dJ2_getChar_3b067_24 : decode cJ2_getChar_3b067 24 = .ok (.invokespecial 56, 3) := by decide +kernel
theorem dJ2_getChar_3b067_27 : decode cJ2_getChar_3b067 27 = .ok (.athrow, 1) := by decide +kernel
theorem dJ2_getChar_3b067_28 : decode cJ2_getChar_3b067 28 = .ok (.iload_n 1, 1) := by decide +kernel
theorem dJ2_getChar_3b067_29 : decode cJ2_getChar_3b067 29 = .ok (.iconst 1, 1) := by decide +kernel
theorem dJ2_getChar_3b067_30 : decode cJ2_getChar_3b067 30 = .ok (.ishl, 1) := by decide +kernel
theorem dJ2_getChar_3b067_31 : decode cJ2_getChar_3b067 31 = .ok (.istore_n 1, 1) := by decide +kernel
theorem dJ2_getChar_3b067_32 : decode cJ2_getChar_3b067 32 = .ok (.aload_n 0, 1) := by decide +kernel
theorem dJ2_getChar_3b067_33 : decode cJ2_getChar_3b067 33 = .ok (.iload_n 1, 1) := by decide +kernel
theorem dJ2_getChar_3b067_34 : decode cJ2_getChar_3b067 34 = .ok (.iinc 1 1, 3) := by decide +kernel
theorem dJ2_getChar_3b067_37 : decode cJ2_getChar_3b067 37 = .ok (.baload, 1) := by decide +kernel
theorem dJ2_getChar_3b067_38 : decode cJ2_getChar_3b067 38 = .ok (.sipush 255, 3) := by decide +kernel
theorem dJ2_getChar_3b067_41 : decode cJ2_getChar_3b067 41 = .ok (.iand, 1) := by decide +kernel
theorem dJ2_getChar_3b067_42 : decode cJ2_getChar_3b067 42 = .ok (.getstatic 59, 3) := by decide +kernel
theorem dJ2_getChar_3b067_45 : decode cJ2_getChar_3b067 45 = .ok (.ishl, 1) := by decide +kernel
theorem dJ2_getChar_3b067_46 : decode cJ2_getChar_3b067 46 = .ok (.aload_n 0, 1) := by decide +kernel
theorem dJ2_getChar_3b067_47 : decode cJ2_getChar_3b067 47 = .ok (.iload_n 1, 1) := by decide +kernel
theorem dJ2_getChar_3b067_48 : decode cJ2_getChar_3b067 48 = .ok (.baload, 1) := by decide +kernel
theorem dJ2_getChar_3b067_49 : decode cJ2_getChar_3b067 49 = .ok (.sipush 255, 3) := by decide +kernel
theorem dJ2_getChar_3b067_52 : decode cJ2_getChar_3b067 52 = .ok (.iand, 1) := by decide +kernel
theorem dJ2_getChar_3b067_53 : decode cJ2_getChar_3b067 53 = .ok (.getstatic 63, 3) := by decide +kernel
theorem dJ2_getChar_3b067_56 : decode cJ2_getChar_3b067 56 = .ok (.ishl, 1) := by decide +kernel
theorem dJ2_getChar_3b067_57 : decode cJ2_getChar_3b067 57 = .ok (.ior, 1) := by decide +kernel
theorem dJ2_getChar_3b067_58 : decode cJ2_getChar_3b067 58 = .ok (.i2c, 1) := by decide +kernel
theorem dJ2_getChar_3b067_59 : decode cJ2_getChar_3b067 59 = .ok (.ireturn, 1) := by decide +kernel
theorem dJ2_length_9d52b_0 : decode cJ2_length_9d52b 0 = .ok (.aload_n 0, 1) := by decide +kernel
theorem dJ2_length_9d52b_1 : decode cJ2_length_9d52b 1 = .ok (.arraylength, 1) := by decide +kernel
theorem dJ2_length_9d52b_2 : decode cJ2_length_9d52b 2 = .ok (.iconst 1, 1) := by decide +kernel
theorem dJ2_length_9d52b_3 : decode cJ2_length_9d52b 3 = .ok (.ishr, 1) := by decide +kernel
theorem dJ2_length_9d52b_4 : decode cJ2_length_9d52b 4 = .ok (.ireturn, 1) := by decide +kernel
theorem dJ2_indexOf_4cfef_0 : decode cJ2_indexOf_4cfef 0 = .ok (.iload_n 2, 1) := by decide +kernel
theorem dJ2_indexOf_4cfef_1 : decode cJ2_indexOf_4cfef 1 = .ok (.iconst 0, 1) := by decide +kernel
theorem dJ2_indexOf_4cfef_2 : decode cJ2_indexOf_4cfef 2 = .ok (.invokestatic 224, 3) := by decide +kernel
theorem dJ2_indexOf_4cfef_5 : decode cJ2_indexOf_4cfef 5 = .ok (.istore_n 2, 1) := by decide +kernel
theorem dJ2_indexOf_4cfef_6 : decode cJ2_indexOf_4cfef 6 = .ok (.iload_n 3, 1) := by decide +kernel
theorem dJ2_indexOf_4cfef_7 : decode cJ2_indexOf_4cfef 7 = .ok (.aload_n 0, 1) := by decide +kernel
theorem dJ2_indexOf_4cfef_8 : decode cJ2_indexOf_4cfef 8 = .ok (.arraylength, 1) := by decide +kernel
theorem dJ2_indexOf_4cfef_9 : decode cJ2_indexOf_4cfef 9 = .ok (.iconst 1, 1) := by decide +kernel
theorem dJ2_indexOf_4cfef_10 : decode cJ2_indexOf_4cfef 10 = .ok (.ishr, 1) := by decide +kernel
theorem dJ2_indexOf_4cfef_11 : decode cJ2_indexOf_4cfef 11 = .ok (.invokestatic 183, 3) := by decide +kernel
theorem dJ2_indexOf_4cfef_14 : decode cJ2_indexOf_4cfef 14 = .ok (.istore_n 3, 1) := by decide +kernel
theorem dJ2_indexOf_4cfef_15 : decode cJ2_indexOf_4cfef 15 = .ok (.iload_n 2, 1) := by decide +kernel
theorem dJ2_indexOf_4cfef_16 : decode cJ2_indexOf_4cfef 16 = .ok (.iload_n 3, 1) := by decide +kernel
theorem dJ2_indexOf_4cfef_17 : decode cJ2_indexOf_4cfef 17 = .ok (.if_icmp .lt 5, 3) := by decide +kernel
theorem dJ2_indexOf_4cfef_20 : decode cJ2_indexOf_4cfef 20 = .ok (.iconst (-1), 1) := by decide +kernel
theorem dJ2_indexOf_4cfef_21 : decode cJ2_indexOf_4cfef 21 = .ok (.ireturn, 1) := by decide +kernel
theorem dJ2_indexOf_4cfef_22 : decode cJ2_indexOf_4cfef 22 = .ok (.iload_n 1, 1) := by decide +kernel
theorem dJ2_indexOf_4cfef_23 : decode cJ2_indexOf_4cfef 23 = .ok (.ldc 227, 2) := by decide +kernel
theorem dJ2_indexOf_4cfef_25 : decode cJ2_indexOf_4cfef 25 = .ok (.if_icmp .ge 11, 3) := by decide +kernel
theorem dJ2_indexOf_4cfef_28 : decode cJ2_indexOf_4cfef 28 = .ok (.aload_n 0, 1) := by decide +kernel
theorem dJ2_indexOf_4cfef_29 : decode cJ2_indexOf_4cfef 29 = .ok (.iload_n 1, 1) := by decide +kernel
theorem dJ2_indexOf_4cfef_30 : decode cJ2_indexOf_4cfef 30 = .ok (.iload_n 2, 1) := by decide +kernel
theorem dJ2_indexOf_4cfef_31 : decode cJ2_indexOf_4cfef 31 = .ok (.iload_n 3, 1) := by decide +kernel
theorem dJ2_indexOf_4cfef_32 : decode cJ2_indexOf_4cfef 32 = .ok (.invokestatic 228, 3) := by decide +kernel
theorem dJ2_indexOf_4cfef_35 : decode cJ2_indexOf_4cfef 35 = .ok (.ireturn, 1) := by decide +kernel
theorem dJ2_indexOf_4cfef_36 : decode cJ2_indexOf_4cfef 36 = .ok (.aload_n 0, 1) := by decide +kernel
theorem dJ2_indexOf_4cfef_37 : decode cJ2_indexOf_4cfef 37 = .ok (.iload_n 1, 1) := by decide +kernel
theorem dJ2_indexOf_4cfef_38 : decode cJ2_indexOf_4cfef 38 = .ok (.iload_n 2, 1) := by decide +kernel
theorem dJ2_indexOf_4cfef_39 : decode cJ2_indexOf_4cfef 39 = .ok (.iload_n 3, 1) := by decide +kernel
theorem dJ2_indexOf_4cfef_40 : decode cJ2_indexOf_4cfef 40 = .ok (.invokestatic 232, 3) := by decide +kernel
theorem dJ2_indexOf_4cfef_43 : decode cJ2_indexOf_4cfef 43 = .ok (.ireturn, 1) := by decide +kernel
theorem dJ2_indexOfChar_4cfef_0 : decode cJ2_indexOfChar_4cfef 0 = .ok (.iload_n 2, 1) := by decide +kernel
theorem dJ2_indexOfChar_4cfef_1 : decode cJ2_indexOfChar_4cfef 1 = .ok (.iload_n 3, 1) := by decide +kernel
theorem dJ2_indexOfChar_4cfef_2 : decode cJ2_indexOfChar_4cfef 2 = .ok (.aload_n 0, 1) := by decide +kernel
theorem dJ2_indexOfChar_4cfef_3 : decode cJ2_indexOfChar_4cfef 3 = .ok (.invokestatic 96, 3) := by decide +kernel
theorem dJ2_indexOfChar_4cfef_6 : decode cJ2_indexOfChar_4cfef 6 = .ok (.aload_n 0, 1) := by decide +kernel
theorem dJ2_indexOfChar_4cfef_7 : decode cJ2_indexOfChar_4cfef 7 = .ok (.iload_n 1, 1) := by decide +kernel
theorem dJ2_indexOfChar_4cfef_8 : decode cJ2_indexOfChar_4cfef 8 = .ok (.iload_n 2, 1) := by decide +kernel
theorem dJ2_indexOfChar_4cfef_9 : decode cJ2_indexOfChar_4cfef 9 = .ok (.iload_n 3, 1) := by decide +kernel
theorem dJ2_indexOfChar_4cfef_10 : decode cJ2_indexOfChar_4cfef 10 = .ok (.invokestatic 244, 3) := by decide +kernel
theorem dJ2_indexOfChar_4cfef_13 : decode cJ2_indexOfChar_4cfef 13 = .ok (.ireturn, 1) := by decide +kernel
theorem dJ2_indexOfCharUnsafe_4cfef_0 : decode cJ2_indexOfCharUnsafe_4cfef 0 = .ok (.iload_n 2, 1) := by decide +kernel
theorem dJ2_indexOfCharUnsafe_4cfef_1 : decode cJ2_indexOfCharUnsafe_4cfef 1 = .ok (.istore 4, 2) := by decide +kernel
theorem dJ2_indexOfCharUnsafe_4cfef_3 : decode cJ2_indexOfCharUnsafe_4cfef 3 = .ok (.iload 4, 2) := by decide +kernel
theorem dJ2_indexOfCharUnsafe_4cfef_5 : decode cJ2_indexOfCharUnsafe_4cfef 5 = .ok (.iload_n 3, 1) := by decide +kernel
theorem dJ2_indexOfCharUnsafe_4cfef_6 : decode cJ2_indexOfCharUnsafe_4cfef 6 = .ok (.if_icmp .ge 22, 3) := by decide +kernel
theorem dJ2_indexOfCharUnsafe_4cfef_9 : decode cJ2_indexOfCharUnsafe_4cfef 9 = .ok (.aload_n 0, 1) := by decide +kernel
theorem dJ2_indexOfCharUnsafe_4cfef_10 : decode cJ2_indexOfCharUnsafe_4cfef 10 = .ok (.iload 4, 2) := by decide +kernel
theorem dJ2_indexOfCharUnsafe_4cfef_12 : decode cJ2_indexOfCharUnsafe_4cfef 12 = .ok (.invokestatic 71, 3) := by decide +kernel
theorem dJ2_indexOfCharUnsafe_4cfef_15 : decode cJ2_indexOfCharUnsafe_4cfef 15 = .ok (.iload_n 1, 1) := by decide +kernel
theorem dJ2_indexOfCharUnsafe_4cfef_16 : decode cJ2_indexOfCharUnsafe_4cfef 16 = .ok (.if_icmp .ne 6, 3) := by decide +kernel
theorem dJ2_indexOfCharUnsafe_4cfef_19 : decode cJ2_indexOfCharUnsafe_4cfef 19 = .ok (.iload 4, 2) := by decide +kernel
theorem dJ2_indexOfCharUnsafe_4cfef_21 : decode cJ2_indexOfCharUnsafe_4cfef 21 = .ok (.ireturn, 1) := by decide +kernel
theorem dJ2_indexOfCharUnsafe_4cfef_22 : decode cJ2_indexOfCharUnsafe_4cfef 22 = .ok (.iinc 4 1, 3) := by decide +kernel
theorem dJ2_indexOfCharUnsafe_4cfef_25 : decode cJ2_indexOfCharUnsafe_4cfef 25 = .ok (.goto (-22), 3) := by decide +kernel
theorem dJ2_indexOfCharUnsafe_4cfef_28 : decode cJ2_indexOfCharUnsafe_4cfef 28 = .ok (.iconst (-1), 1) := by decide +kernel
theorem dJ2_indexOfCharUnsafe_4cfef_29 : decode cJ2_indexOfCharUnsafe_4cfef 29 = .ok (.ireturn, 1) := by decide +kernel
theorem dJ2_indexOfSupplementary_4cfef_0 : decode cJ2_indexOfSupplementary_4cfef 0 = .ok (.iload_n 1, 1) := by decide +kernel
theorem dJ2_indexOfSupplementary_4cfef_1 : decode cJ2_indexOfSupplementary_4cfef 1 = .ok (.invokestatic 164, 3) := by decide +kernel
theorem dJ2_indexOfSupplementary_4cfef_4 : decode cJ2_indexOfSupplementary_4cfef 4 = .ok (.ifCond .eq 65, 3) := by decide +kernel
theorem dJ2_indexOfSupplementary_4cfef_7 : decode cJ2_indexOfSupplementary_4cfef 7 = .ok (.iload_n 1, 1) := by decide +kernel
theorem dJ2_indexOfSupplementary_4cfef_8 : decode cJ2_indexOfSupplementary_4cfef 8 = .ok (.invokestatic 157, 3) := by decide +kernel
theorem dJ2_indexOfSupplementary_4cfef_11 : decode cJ2_indexOfSupplementary_4cfef 11 = .ok (.istore 4, 2) := by decide +kernel
theorem dJ2_indexOfSupplementary_4cfef_13 : decode cJ2_indexOfSupplementary_4cfef 13 = .ok (.iload_n 1, 1) := by decide +kernel
theorem dJ2_indexOfSupplementary_4cfef_14 : decode cJ2_indexOfSupplementary_4cfef 14 = .ok (.invokestatic 161, 3) := by decide +kernel
theorem dJ2_indexOfSupplementary_4cfef_17 : decode cJ2_indexOfSupplementary_4cfef 17 = .ok (.istore 5, 2) := by decide +kernel
theorem dJ2_indexOfSupplementary_4cfef_19 : decode cJ2_indexOfSupplementary_4cfef 19 = .ok (.iload_n 2, 1) := by decide +kernel
theorem dJ2_indexOfSupplementary_4cfef_20 : decode cJ2_indexOfSupplementary_4cfef 20 = .ok (.iload_n 3, 1) := by decide +kernel
theorem dJ2_indexOfSupplementary_4cfef_21 : decode cJ2_indexOfSupplementary_4cfef 21 = .ok (.aload_n 0, 1) := by decide +kernel
theorem dJ2_indexOfSupplementary_4cfef_22 : decode cJ2_indexOfSupplementary_4cfef 22 = .ok (.invokestatic 96, 3) := by decide +kernel
theorem dJ2_indexOfSupplementary_4cfef_25 : decode cJ2_indexOfSupplementary_4cfef 25 = .ok (.iload_n 2, 1) := by decide +kernel
theorem dJ2_indexOfSupplementary_4cfef_26 : decode cJ2_indexOfSupplementary_4cfef 26 = .ok (.istore 6, 2) := by decide +kernel
theorem dJ2_indexOfSupplementary_4cfef_28 : decode cJ2_indexOfSupplementary_4cfef 28 = .ok (.iload 6, 2) := by decide +kernel
theorem dJ2_indexOfSupplementary_4cfef_30 : decode cJ2_indexOfSupplementary_4cfef 30 = .ok (.iload_n 3, 1) := by decide +kernel
theorem dJ2_indexOfSupplementary_4cfef_31 : decode cJ2_indexOfSupplementary_4cfef 31 = .ok (.iconst 1, 1) := by decide +kernel
theorem dJ2_indexOfSupplementary_4cfef_32 : decode cJ2_indexOfSupplementary_4cfef 32 = .ok (.isub, 1) := by decide +kernel
theorem dJ2_indexOfSupplementary_4cfef_33 : decode cJ2_indexOfSupplementary_4cfef 33 = .ok (.if_icmp .ge 36, 3) := by decide +kernel
theorem dJ2_indexOfSupplementary_4cfef_36 : decode cJ2_indexOfSupplementary_4cfef 36 = .ok (.aload_n 0, 1) := by decide +kernel
theorem dJ2_indexOfSupplementary_4cfef_37 : decode cJ2_indexOfSupplementary_4cfef 37 = .ok (.iload 6, 2) := by decide +kernel
theorem dJ2_indexOfSupplementary_4cfef_39 : decode cJ2_indexOfSupplementary_4cfef 39 = .ok (.invokestatic 71, 3) := by decide +kernel
theorem dJ2_indexOfSupplementary_4cfef_42 : decode cJ2_indexOfSupplementary_4cfef 42 = .ok (.iload 4, 2) := by decide +kernel
theorem dJ2_indexOfSupplementary_4cfef_44 : decode cJ2_indexOfSupplementary_4cfef 44 = .ok (.if_icmp .ne 19, 3) := by decide +kernel
theorem dJ2_indexOfSupplementary_4cfef_47 : decode cJ2_indexOfSupplementary_4cfef 47 = .ok (.aload_n 0, 1) := by decide +kernel
theorem dJ2_indexOfSupplementary_4cfef_48 : decode cJ2_indexOfSupplementary_4cfef 48 = .ok (.iload 6, 2) := by decide +kernel
theorem dJ2_indexOfSupplementary_4cfef_50 : decode cJ2_indexOfSupplementary_4cfef 50 = .ok (.iconst 1, 1) := by decide +kernel
theorem dJ2_indexOfSupplementary_4cfef_51 : decode cJ2_indexOfSupplementary_4cfef 51 = .ok (.iadd, 1) := by decide +kernel
theorem dJ2_indexOfSupplementary_4cfef_52 : decode cJ2_indexOfSupplementary_4cfef 52 = .ok (.invokestatic 71, 3) := by decide +kernel
theorem dJ2_indexOfSupplementary_4cfef_55 : decode cJ2_indexOfSupplementary_4cfef 55 = .ok (.iload 5, 2) := by decide +kernel
theorem dJ2_indexOfSupplementary_4cfef_57 : decode cJ2_indexOfSupplementary_4cfef 57 = .ok (.if_icmp .ne 6, 3) := by decide +kernel
theorem dJ2_indexOfSupplementary_4cfef_60 : decode cJ2_indexOfSupplementary_4cfef 60 = .ok (.iload 6, 2) := by decide +kernel
theorem dJ2_indexOfSupplementary_4cfef_62 : decode cJ2_indexOfSupplementary_4cfef 62 = .ok (.ireturn, 1) := by decide +kernel
theorem dJ2_indexOfSupplementary_4cfef_63 : decode cJ2_indexOfSupplementary_4cfef 63 = .ok (.iinc 6 1, 3) := by decide +kernel
theorem dJ2_indexOfSupplementary_4cfef_66 : decode cJ2_indexOfSupplementary_4cfef 66 = .ok (.goto (-38), 3) := by decide +kernel
theorem dJ2_indexOfSupplementary_4cfef_69 : decode cJ2_indexOfSupplementary_4cfef 69 = .ok (.iconst (-1), 1) := by decide +kernel
theorem dJ2_indexOfSupplementary_4cfef_70 : decode cJ2_indexOfSupplementary_4cfef 70 = .ok (.ireturn, 1) := by decide +kernel
theorem dJ2_charAt_3b067_0 : decode cJ2_charAt_3b067 0 = .ok (.iload_n 1, 1) := by decide +kernel
theorem dJ2_charAt_3b067_1 : decode cJ2_charAt_3b067 1 = .ok (.aload_n 0, 1) := by decide +kernel
theorem dJ2_charAt_3b067_2 : decode cJ2_charAt_3b067 2 = .ok (.invokestatic 67, 3) := by decide +kernel
theorem dJ2_charAt_3b067_5 : decode cJ2_charAt_3b067 5 = .ok (.aload_n 0, 1) := by decide +kernel
theorem dJ2_charAt_3b067_6 : decode cJ2_charAt_3b067 6 = .ok (.iload_n 1, 1) := by decide +kernel
theorem dJ2_charAt_3b067_7 : decode cJ2_charAt_3b067 7 = .ok (.invokestatic 71, 3) := by decide +kernel
theorem dJ2_charAt_3b067_10 : decode cJ2_charAt_3b067 10 = .ok (.ireturn, 1) := by decide +kernel
theorem dJ2_checkIndex_2214a_0 : decode cJ2_checkIndex_2214a 0 = .ok (.iload_n 0, 1) := by decide +kernel
theorem dJ2_checkIndex_2214a_1 : decode cJ2_checkIndex_2214a 1 = .ok (.aload_n 1, 1) := by decide +kernel
theorem dJ2_checkIndex_2214a_2 : decode cJ2_checkIndex_2214a 2 = .ok (.invokestatic 48, 3) := by decide +kernel
theorem dJ2_checkIndex_2214a_5 : decode cJ2_checkIndex_2214a 5 = .ok (.invokestatic 414, 3) := by decide +kernel
theorem dJ2_checkIndex_2214a_8 : decode cJ2_checkIndex_2214a 8 = .ok (.return_, 1) := by decide +kernel
theorem dJ2_checkBoundsBeginEnd_d044e_0 : decode cJ2_checkBoundsBeginEnd_d044e 0 = .ok (.iload_n 0, 1) := by decide +kernel
theorem dJ2_checkBoundsBeginEnd_d044e_1 : decode cJ2_checkBoundsBeginEnd_d044e 1 = .ok (.iload_n 1, 1) := by decide +kernel
theorem dJ2_checkBoundsBeginEnd_d044e_2 : decode cJ2_checkBoundsBeginEnd_d044e 2 = .ok (.aload_n 2, 1) := by decide +kernel
theorem dJ2_checkBoundsBeginEnd_d044e_3 : decode cJ2_checkBoundsBeginEnd_d044e 3 = .ok (.invokestatic 48, 3) := by decide +kernel
theorem dJ2_checkBoundsBeginEnd_d044e_6 : decode cJ2_checkBoundsBeginEnd_d044e 6 = .ok (.invokestatic 241, 3) := by decide +kernel
theorem dJ2_checkBoundsBeginEnd_d044e_9 : decode cJ2_checkBoundsBeginEnd_d044e 9 = .ok (.return_, 1) := by decide +kernel
theorem dJ7_fill_53178_0 : decode cJ7_fill_53178 0 = .ok (.iconst 0, 1) := by decide +kernel
theorem dJ7_fill_53178_1 : decode cJ7_fill_53178 1 = .ok (.istore_n 2, 1) := by decide +kernel
theorem dJ7_fill_53178_2 : decode cJ7_fill_53178 2 = .ok (.aload_n 0, 1) := by decide +kernel
theorem dJ7_fill_53178_3 : decode cJ7_fill_53178 3 = .ok (.arraylength, 1) := by decide +kernel
theorem dJ7_fill_53178_4 : decode cJ7_fill_53178 4 = .ok (.istore_n 3, 1) := by decide +kernel
theorem dJ7_fill_53178_5 : decode cJ7_fill_53178 5 = .ok (.iload_n 2, 1) := by decide +kernel
theorem dJ7_fill_53178_6 : decode cJ7_fill_53178 6 = .ok (.iload_n 3, 1) := by decide +kernel
theorem dJ7_fill_53178_7 : decode cJ7_fill_53178 7 = .ok (.if_icmp .ge 13, 3) := by decide +kernel
theorem dJ7_fill_53178_10 : decode cJ7_fill_53178 10 = .ok (.aload_n 0, 1) := by decide +kernel
theorem dJ7_fill_53178_11 : decode cJ7_fill_53178 11 = .ok (.iload_n 2, 1) := by decide +kernel
theorem dJ7_fill_53178_12 : decode cJ7_fill_53178 12 = .ok (.iload_n 1, 1) := by decide +kernel
theorem dJ7_fill_53178_13 : decode cJ7_fill_53178 13 = .ok (.iastore, 1) := by decide +kernel
theorem dJ7_fill_53178_14 : decode cJ7_fill_53178 14 = .ok (.iinc 2 1, 3) := by decide +kernel
theorem dJ7_fill_53178_17 : decode cJ7_fill_53178 17 = .ok (.goto (-12), 3) := by decide +kernel
theorem dJ7_fill_53178_20 : decode cJ7_fill_53178 20 = .ok (.return_, 1) := by decide +kernel
theorem dJ7_copyOf_59c91_0 : decode cJ7_copyOf_59c91 0 = .ok (.iload_n 1, 1) := by decide +kernel
theorem dJ7_copyOf_59c91_1 : decode cJ7_copyOf_59c91 1 = .ok (.aload_n 0, 1) := by decide +kernel
theorem dJ7_copyOf_59c91_2 : decode cJ7_copyOf_59c91 2 = .ok (.arraylength, 1) := by decide +kernel
theorem dJ7_copyOf_59c91_3 : decode cJ7_copyOf_59c91 3 = .ok (.if_icmp .ne 11, 3) := by decide +kernel
theorem dJ7_copyOf_59c91_6 : decode cJ7_copyOf_59c91 6 = .ok (.aload_n 0, 1) := by decide +kernel
theorem dJ7_copyOf_59c91_7 : decode cJ7_copyOf_59c91 7 = .ok (.invokevirtual 316, 3) := by decide +kernel
theorem dJ7_copyOf_59c91_10 : decode cJ7_copyOf_59c91 10 = .ok (.checkcast 317, 3) := by decide +kernel
theorem dJ7_copyOf_59c91_13 : decode cJ7_copyOf_59c91 13 = .ok (.areturn, 1) := by decide +kernel
theorem dJ7_copyOf_59c91_14 : decode cJ7_copyOf_59c91 14 = .ok (.iload_n 1, 1) := by decide +kernel
theorem dJ7_copyOf_59c91_15 : decode cJ7_copyOf_59c91 15 = .ok (.newarray .int, 2) := by decide +kernel
theorem dJ7_copyOf_59c91_17 : decode cJ7_copyOf_59c91 17 = .ok (.astore_n 2, 1) := by decide +kernel
theorem dJ7_copyOf_59c91_18 : decode cJ7_copyOf_59c91 18 = .ok (.aload_n 0, 1) := by decide +kernel
theorem dJ7_copyOf_59c91_19 : decode cJ7_copyOf_59c91 19 = .ok (.iconst 0, 1) := by decide +kernel
theorem dJ7_copyOf_59c91_20 : decode cJ7_copyOf_59c91 20 = .ok (.aload_n 2, 1) := by decide +kernel
theorem dJ7_copyOf_59c91_21 : decode cJ7_copyOf_59c91 21 = .ok (.iconst 0, 1) := by decide +kernel
theorem dJ7_copyOf_59c91_22 : decode cJ7_copyOf_59c91 22 = .ok (.aload_n 0, 1) := by decide +kernel
theorem dJ7_copyOf_59c91_23 : decode cJ7_copyOf_59c91 23 = .ok (.arraylength, 1) := by decide +kernel
theorem dJ7_copyOf_59c91_24 : decode cJ7_copyOf_59c91 24 = .ok (.iload_n 1, 1) := by decide +kernel
theorem dJ7_copyOf_59c91_25 : decode cJ7_copyOf_59c91 25 = .ok (.invokestatic 304, 3) := by decide +kernel
theorem dJ7_copyOf_59c91_28 : decode cJ7_copyOf_59c91 28 = .ok (.invokestatic 150, 3) := by decide +kernel
theorem dJ7_copyOf_59c91_31 : decode cJ7_copyOf_59c91 31 = .ok (.aload_n 2, 1) := by decide +kernel
theorem dJ7_copyOf_59c91_32 : decode cJ7_copyOf_59c91 32 = .ok (.areturn, 1) := by decide +kernel
theorem dJ3_checkIndex_8e157_0 : decode cJ3_checkIndex_8e157 0 = .ok (.iload_n 0, 1) := by decide +kernel
theorem dJ3_checkIndex_8e157_1 : decode cJ3_checkIndex_8e157 1 = .ok (.ifCond .lt 8, 3) := by decide +kernel
theorem dJ3_checkIndex_8e157_4 : decode cJ3_checkIndex_8e157 4 = .ok (.iload_n 0, 1) := by decide +kernel
theorem dJ3_checkIndex_8e157_5 : decode cJ3_checkIndex_8e157 5 = .ok (.iload_n 1, 1) := by decide +kernel
theorem dJ3_checkIndex_8e157_6 : decode cJ3_checkIndex_8e157 6 = .ok (.if_icmp .lt 10, 3) := by decide +kernel
theorem dJ3_checkIndex_8e157_9 : decode cJ3_checkIndex_8e157 9 = .ok (.aload_n 2, 1) := by decide +kernel
theorem dJ3_checkIndex_8e157_10 : decode cJ3_checkIndex_8e157 10 = .ok (.iload_n 0, 1) := by decide +kernel
theorem dJ3_checkIndex_8e157_11 : decode cJ3_checkIndex_8e157 11 = .ok (.iload_n 1, 1) := by decide +kernel
theorem dJ3_checkIndex_8e157_12 : decode cJ3_checkIndex_8e157 12 = .ok (.invokestatic 95, 3) := by decide +kernel
theorem dJ3_checkIndex_8e157_15 : decode cJ3_checkIndex_8e157 15 = .ok (.athrow, 1) := by decide +kernel
theorem dJ3_checkIndex_8e157_16 : decode cJ3_checkIndex_8e157 16 = .ok (.iload_n 0, 1) := by decide +kernel
theorem dJ3_checkIndex_8e157_17 : decode cJ3_checkIndex_8e157 17 = .ok (.ireturn, 1) := by decide +kernel
theorem dJ3_checkFromToIndex_8c36e_0 : decode cJ3_checkFromToIndex_8c36e 0 = .ok (.iload_n 0, 1) := by decide +kernel
theorem dJ3_checkFromToIndex_8c36e_1 : decode cJ3_checkFromToIndex_8c36e 1 = .ok (.ifCond .lt 13, 3) := by decide +kernel
theorem dJ3_checkFromToIndex_8c36e_4 : decode cJ3_checkFromToIndex_8c36e 4 = .ok (.iload_n 0, 1) := by decide +kernel
theorem dJ3_checkFromToIndex_8c36e_5 : decode cJ3_checkFromToIndex_8c36e 5 = .ok (.iload_n 1, 1) := by decide +kernel
theorem dJ3_checkFromToIndex_8c36e_6 : decode cJ3_checkFromToIndex_8c36e 6 = .ok (.if_icmp .gt 8, 3) := by decide +kernel
theorem dJ3_checkFromToIndex_8c36e_9 : decode cJ3_checkFromToIndex_8c36e 9 = .ok (.iload_n 1, 1) := by decide +kernel
theorem dJ3_checkFromToIndex_8c36e_10 : decode cJ3_checkFromToIndex_8c36e 10 = .ok (.iload_n 2, 1) := by decide +kernel
theorem dJ3_checkFromToIndex_8c36e_11 : decode cJ3_checkFromToIndex_8c36e 11 = .ok (.if_icmp .le 11, 3) := by decide +kernel
theorem dJ3_checkFromToIndex_8c36e_14 : decode cJ3_checkFromToIndex_8c36e 14 = .ok (.aload_n 3, 1) := by decide +kernel
theorem dJ3_checkFromToIndex_8c36e_15 : decode cJ3_checkFromToIndex_8c36e 15 = .ok (.iload_n 0, 1) := by decide +kernel
theorem dJ3_checkFromToIndex_8c36e_16 : decode cJ3_checkFromToIndex_8c36e 16 = .ok (.iload_n 1, 1) := by decide +kernel
theorem dJ3_checkFromToIndex_8c36e_17 : decode cJ3_checkFromToIndex_8c36e 17 = .ok (.iload_n 2, 1) := by decide +kernel
theorem dJ3_checkFromToIndex_8c36e_18 : decode cJ3_checkFromToIndex_8c36e 18 = .ok (.invokestatic 99, 3) := by decide +kernel
theorem dJ3_checkFromToIndex_8c36e_21 : decode cJ3_checkFromToIndex_8c36e 21 = .ok (.athrow, 1) := by decide +kernel
theorem dJ3_checkFromToIndex_8c36e_22 : decode cJ3_checkFromToIndex_8c36e 22 = .ok (.iload_n 0, 1) := by decide +kernel
theorem dJ3_checkFromToIndex_8c36e_23 : decode cJ3_checkFromToIndex_8c36e 23 = .ok (.ireturn, 1) := by decide +kernel
theorem dL_law_0 : decode cL_law 0 = .ok (.new 7, 3) := by decide +kernel
theorem dL_law_3 : decode cL_law 3 = .ok (.dup, 1) := by decide +kernel
theorem dL_law_4 : decode cL_law 4 = .ok (.invokespecial 9, 3) := by decide +kernel
theorem dL_law_7 : decode cL_law 7 = .ok (.astore_n 1, 1) := by decide +kernel
theorem dL_law_8 : decode cL_law 8 = .ok (.new 10, 3) := by decide +kernel
theorem dL_law_11 : decode cL_law 11 = .ok (.dup, 1) := by decide +kernel
theorem dL_law_12 : decode cL_law 12 = .ok (.invokespecial 12, 3) := by decide +kernel
theorem dL_law_15 : decode cL_law 15 = .ok (.astore_n 2, 1) := by decide +kernel
theorem dL_law_16 : decode cL_law 16 = .ok (.iconst 0, 1) := by decide +kernel
theorem dL_law_17 : decode cL_law 17 = .ok (.istore_n 3, 1) := by decide +kernel
theorem dL_law_18 : decode cL_law 18 = .ok (.iload_n 3, 1) := by decide +kernel
theorem dL_law_19 : decode cL_law 19 = .ok (.aload_n 0, 1) := by decide +kernel
theorem dL_law_20 : decode cL_law 20 = .ok (.arraylength, 1) := by decide +kernel
theorem dL_law_21 : decode cL_law 21 = .ok (.bipush 6, 2) := by decide +kernel
theorem dL_law_23 : decode cL_law 23 = .ok (.isub, 1) := by decide +kernel
theorem dL_law_24 : decode cL_law 24 = .ok (.if_icmp .gt 1377, 3) := by decide +kernel
theorem dL_law_27 : decode cL_law 27 = .ok (.aload_n 0, 1) := by decide +kernel
theorem dL_law_28 : decode cL_law 28 = .ok (.iload_n 3, 1) := by decide +kernel
theorem dL_law_29 : decode cL_law 29 = .ok (.iaload, 1) := by decide +kernel
theorem dL_law_30 : decode cL_law 30 = .ok (.bipush 63, 2) := by decide +kernel
theorem dL_law_32 : decode cL_law 32 = .ok (.iand, 1) := by decide +kernel
theorem dL_law_33 : decode cL_law 33 = .ok (.tableswitch 1362 0 40 #[179, 222, 255, 288, 321, 364, 397, 420, 433, 456, 479, 502, 525, 548, 581, 594, 637, 660, 693, 726, 759, 772, 795, 838, 861, 874, 907, 930, 973, 1016, 1039, 1062, 1125, 1168, 1201, 1234, 1267, 1290, 1313, 1326, 1339], 179) := by decide +kernel
theorem dL_law_212 : decode cL_law 212 = .ok (.aload_n 1, 1) := by decide +kernel
theorem dL_law_213 : decode cL_law 213 = .ok (.aload_n 0, 1) := by decide +kernel
theorem dL_law_214 : decode cL_law 214 = .ok (.iload_n 3, 1) := by decide +kernel
theorem dL_law_215 : decode cL_law 215 = .ok (.iconst 1, 1) := by decide +kernel
theorem dL_law_216 : decode cL_law 216 = .ok (.iadd, 1) := by decide +kernel
theorem dL_law_217 : decode cL_law 217 = .ok (.iaload, 1) := by decide +kernel
theorem dL_law_218 : decode cL_law 218 = .ok (.aload_n 0, 1) := by decide +kernel
theorem dL_law_219 : decode cL_law 219 = .ok (.iload_n 3, 1) := by decide +kernel
theorem dL_law_220 : decode cL_law 220 = .ok (.iconst 2, 1) := by decide +kernel
theorem dL_law_221 : decode cL_law 221 = .ok (.iadd, 1) := by decide +kernel
theorem dL_law_222 : decode cL_law 222 = .ok (.iaload, 1) := by decide +kernel
theorem dL_law_223 : decode cL_law 223 = .ok (.aload_n 0, 1) := by decide +kernel
theorem dL_law_224 : decode cL_law 224 = .ok (.iload_n 3, 1) := by decide +kernel
theorem dL_law_225 : decode cL_law 225 = .ok (.iconst 3, 1) := by decide +kernel
theorem dL_law_226 : decode cL_law 226 = .ok (.iadd, 1) := by decide +kernel
theorem dL_law_227 : decode cL_law 227 = .ok (.iaload, 1) := by decide +kernel
theorem dL_law_228 : decode cL_law 228 = .ok (.invokevirtual 13, 3) := by decide +kernel
theorem dL_law_231 : decode cL_law 231 = .ok (.aload_n 2, 1) := by decide +kernel
theorem dL_law_232 : decode cL_law 232 = .ok (.aload_n 0, 1) := by decide +kernel
theorem dL_law_233 : decode cL_law 233 = .ok (.iload_n 3, 1) := by decide +kernel
theorem dL_law_234 : decode cL_law 234 = .ok (.iconst 1, 1) := by decide +kernel
theorem dL_law_235 : decode cL_law 235 = .ok (.iadd, 1) := by decide +kernel
theorem dL_law_236 : decode cL_law 236 = .ok (.iaload, 1) := by decide +kernel
theorem dL_law_237 : decode cL_law 237 = .ok (.aload_n 0, 1) := by decide +kernel
theorem dL_law_238 : decode cL_law 238 = .ok (.iload_n 3, 1) := by decide +kernel
theorem dL_law_239 : decode cL_law 239 = .ok (.iconst 2, 1) := by decide +kernel
theorem dL_law_240 : decode cL_law 240 = .ok (.iadd, 1) := by decide +kernel
theorem dL_law_241 : decode cL_law 241 = .ok (.iaload, 1) := by decide +kernel
theorem dL_law_242 : decode cL_law 242 = .ok (.aload_n 0, 1) := by decide +kernel
theorem dL_law_243 : decode cL_law 243 = .ok (.iload_n 3, 1) := by decide +kernel
theorem dL_law_244 : decode cL_law 244 = .ok (.iconst 3, 1) := by decide +kernel
theorem dL_law_245 : decode cL_law 245 = .ok (.iadd, 1) := by decide +kernel
theorem dL_law_246 : decode cL_law 246 = .ok (.iaload, 1) := by decide +kernel
theorem dL_law_247 : decode cL_law 247 = .ok (.invokevirtual 17, 3) := by decide +kernel
theorem dL_law_250 : decode cL_law 250 = .ok (.if_icmp .eq 1145, 3) := by decide +kernel
theorem dL_law_253 : decode cL_law 253 = .ok (.iconst 0, 1) := by decide +kernel
theorem dL_law_254 : decode cL_law 254 = .ok (.ireturn, 1) := by decide +kernel
theorem dL_law_255 : decode cL_law 255 = .ok (.aload_n 1, 1) := by decide +kernel
theorem dL_law_256 : decode cL_law 256 = .ok (.aload_n 0, 1) := by decide +kernel
theorem dL_law_257 : decode cL_law 257 = .ok (.iload_n 3, 1) := by decide +kernel
theorem dL_law_258 : decode cL_law 258 = .ok (.iconst 1, 1) := by decide +kernel
theorem dL_law_259 : decode cL_law 259 = .ok (.iadd, 1) := by decide +kernel
theorem dL_law_260 : decode cL_law 260 = .ok (.iaload, 1) := by decide +kernel
theorem dL_law_261 : decode cL_law 261 = .ok (.aload_n 0, 1) := by decide +kernel
theorem dL_law_262 : decode cL_law 262 = .ok (.iload_n 3, 1) := by decide +kernel
theorem dL_law_263 : decode cL_law 263 = .ok (.iconst 2, 1) := by decide +kernel
theorem dL_law_264 : decode cL_law 264 = .ok (.iadd, 1) := by decide +kernel
theorem dL_law_265 : decode cL_law 265 = .ok (.iaload, 1) := by decide +kernel
theorem dL_law_266 : decode cL_law 266 = .ok (.invokevirtual 18, 3) := by decide +kernel
theorem dL_law_269 : decode cL_law 269 = .ok (.aload_n 2, 1) := by decide +kernel
theorem dL_law_270 : decode cL_law 270 = .ok (.aload_n 0, 1) := by decide +kernel
theorem dL_law_271 : decode cL_law 271 = .ok (.iload_n 3, 1) := by decide +kernel
theorem dL_law_272 : decode cL_law 272 = .ok (.iconst 1, 1) := by decide +kernel
theorem dL_law_273 : decode cL_law 273 = .ok (.iadd, 1) := by decide +kernel
theorem dL_law_274 : decode cL_law 274 = .ok (.iaload, 1) := by decide +kernel
theorem dL_law_275 : decode cL_law 275 = .ok (.aload_n 0, 1) := by decide +kernel
theorem dL_law_276 : decode cL_law 276 = .ok (.iload_n 3, 1) := by decide +kernel
theorem dL_law_277 : decode cL_law 277 = .ok (.iconst 2, 1) := by decide +kernel
theorem dL_law_278 : decode cL_law 278 = .ok (.iadd, 1) := by decide +kernel
theorem dL_law_279 : decode cL_law 279 = .ok (.iaload, 1) := by decide +kernel
theorem dL_law_280 : decode cL_law 280 = .ok (.invokevirtual 22, 3) := by decide +kernel
theorem dL_law_283 : decode cL_law 283 = .ok (.if_icmp .eq 1112, 3) := by decide +kernel
theorem dL_law_286 : decode cL_law 286 = .ok (.iconst 0, 1) := by decide +kernel
theorem dL_law_287 : decode cL_law 287 = .ok (.ireturn, 1) := by decide +kernel
theorem dL_law_288 : decode cL_law 288 = .ok (.aload_n 1, 1) := by decide +kernel
theorem dL_law_289 : decode cL_law 289 = .ok (.aload_n 0, 1) := by decide +kernel
theorem dL_law_290 : decode cL_law 290 = .ok (.iload_n 3, 1) := by decide +kernel
theorem dL_law_291 : decode cL_law 291 = .ok (.iconst 1, 1) := by decide +kernel
theorem dL_law_292 : decode cL_law 292 = .ok (.iadd, 1) := by decide +kernel
theorem dL_law_293 : decode cL_law 293 = .ok (.iaload, 1) := by decide +kernel
theorem dL_law_294 : decode cL_law 294 = .ok (.aload_n 0, 1) := by decide +kernel
theorem dL_law_295 : decode cL_law 295 = .ok (.iload_n 3, 1) := by decide +kernel
theorem dL_law_296 : decode cL_law 296 = .ok (.iconst 2, 1) := by decide +kernel
theorem dL_law_297 : decode cL_law 297 = .ok (.iadd, 1) := by decide +kernel
theorem dL_law_298 : decode cL_law 298 = .ok (.iaload, 1) := by decide +kernel
theorem dL_law_299 : decode cL_law 299 = .ok (.invokevirtual 23, 3) := by decide +kernel
theorem dL_law_302 : decode cL_law 302 = .ok (.aload_n 2, 1) := by decide +kernel
theorem dL_law_303 : decode cL_law 303 = .ok (.aload_n 0, 1) := by decide +kernel
theorem dL_law_304 : decode cL_law 304 = .ok (.iload_n 3, 1) := by decide +kernel
theorem dL_law_305 : decode cL_law 305 = .ok (.iconst 1, 1) := by decide +kernel
theorem dL_law_306 : decode cL_law 306 = .ok (.iadd, 1) := by decide +kernel
theorem dL_law_307 : decode cL_law 307 = .ok (.iaload, 1) := by decide +kernel
theorem dL_law_308 : decode cL_law 308 = .ok (.aload_n 0, 1) := by decide +kernel
theorem dL_law_309 : decode cL_law 309 = .ok (.iload_n 3, 1) := by decide +kernel
theorem dL_law_310 : decode cL_law 310 = .ok (.iconst 2, 1) := by decide +kernel
theorem dL_law_311 : decode cL_law 311 = .ok (.iadd, 1) := by decide +kernel
theorem dL_law_312 : decode cL_law 312 = .ok (.iaload, 1) := by decide +kernel
theorem dL_law_313 : decode cL_law 313 = .ok (.invokevirtual 26, 3) := by decide +kernel
theorem dL_law_316 : decode cL_law 316 = .ok (.if_icmp .eq 1079, 3) := by decide +kernel
theorem dL_law_319 : decode cL_law 319 = .ok (.iconst 0, 1) := by decide +kernel
theorem dL_law_320 : decode cL_law 320 = .ok (.ireturn, 1) := by decide +kernel
theorem dL_law_321 : decode cL_law 321 = .ok (.aload_n 1, 1) := by decide +kernel
theorem dL_law_322 : decode cL_law 322 = .ok (.aload_n 0, 1) := by decide +kernel
theorem dL_law_323 : decode cL_law 323 = .ok (.iload_n 3, 1) := by decide +kernel
theorem dL_law_324 : decode cL_law 324 = .ok (.iconst 1, 1) := by decide +kernel
theorem dL_law_325 : decode cL_law 325 = .ok (.iadd, 1) := by decide +kernel
theorem dL_law_326 : decode cL_law 326 = .ok (.iaload, 1) := by decide +kernel
theorem dL_law_327 : decode cL_law 327 = .ok (.aload_n 0, 1) := by decide +kernel
theorem dL_law_328 : decode cL_law 328 = .ok (.iload_n 3, 1) := by decide +kernel
theorem dL_law_329 : decode cL_law 329 = .ok (.iconst 2, 1) := by decide +kernel
theorem dL_law_330 : decode cL_law 330 = .ok (.iadd, 1) := by decide +kernel
theorem dL_law_331 : decode cL_law 331 = .ok (.iaload, 1) := by decide +kernel
theorem dL_law_332 : decode cL_law 332 = .ok (.invokevirtual 27, 3) := by decide +kernel
theorem dL_law_335 : decode cL_law 335 = .ok (.aload_n 2, 1) := by decide +kernel
theorem dL_law_336 : decode cL_law 336 = .ok (.aload_n 0, 1) := by decide +kernel
theorem dL_law_337 : decode cL_law 337 = .ok (.iload_n 3, 1) := by decide +kernel
theorem dL_law_338 : decode cL_law 338 = .ok (.iconst 1, 1) := by decide +kernel
theorem dL_law_339 : decode cL_law 339 = .ok (.iadd, 1) := by decide +kernel
theorem dL_law_340 : decode cL_law 340 = .ok (.iaload, 1) := by decide +kernel
theorem dL_law_341 : decode cL_law 341 = .ok (.aload_n 0, 1) := by decide +kernel
theorem dL_law_342 : decode cL_law 342 = .ok (.iload_n 3, 1) := by decide +kernel
theorem dL_law_343 : decode cL_law 343 = .ok (.iconst 2, 1) := by decide +kernel
theorem dL_law_344 : decode cL_law 344 = .ok (.iadd, 1) := by decide +kernel
theorem dL_law_345 : decode cL_law 345 = .ok (.iaload, 1) := by decide +kernel
theorem dL_law_346 : decode cL_law 346 = .ok (.invokevirtual 30, 3) := by decide +kernel
theorem dL_law_349 : decode cL_law 349 = .ok (.if_icmp .eq 1046, 3) := by decide +kernel
theorem dL_law_352 : decode cL_law 352 = .ok (.iconst 0, 1) := by decide +kernel
theorem dL_law_353 : decode cL_law 353 = .ok (.ireturn, 1) := by decide +kernel
theorem dL_law_354 : decode cL_law 354 = .ok (.aload_n 1, 1) := by decide +kernel
theorem dL_law_355 : decode cL_law 355 = .ok (.aload_n 0, 1) := by decide +kernel
theorem dL_law_356 : decode cL_law 356 = .ok (.iload_n 3, 1) := by decide +kernel
theorem dL_law_357 : decode cL_law 357 = .ok (.iconst 1, 1) := by decide +kernel
theorem dL_law_358 : decode cL_law 358 = .ok (.iadd, 1) := by decide +kernel
theorem dL_law_359 : decode cL_law 359 = .ok (.iaload, 1) := by decide +kernel
theorem dL_law_360 : decode cL_law 360 = .ok (.aload_n 0, 1) := by decide +kernel
theorem dL_law_361 : decode cL_law 361 = .ok (.iload_n 3, 1) := by decide +kernel
theorem dL_law_362 : decode cL_law 362 = .ok (.iconst 2, 1) := by decide +kernel
theorem dL_law_363 : decode cL_law 363 = .ok (.iadd, 1) := by decide +kernel
theorem dL_law_364 : decode cL_law 364 = .ok (.iaload, 1) := by decide +kernel
theorem dL_law_365 : decode cL_law 365 = .ok (.aload_n 0, 1) := by decide +kernel
theorem dL_law_366 : decode cL_law 366 = .ok (.iload_n 3, 1) := by decide +kernel
theorem dL_law_367 : decode cL_law 367 = .ok (.iconst 3, 1) := by decide +kernel
theorem dL_law_368 : decode cL_law 368 = .ok (.iadd, 1) := by decide +kernel
theorem dL_law_369 : decode cL_law 369 = .ok (.iaload, 1) := by decide +kernel
theorem dL_law_370 : decode cL_law 370 = .ok (.invokevirtual 31, 3) := by decide +kernel
theorem dL_law_373 : decode cL_law 373 = .ok (.aload_n 2, 1) := by decide +kernel
theorem dL_law_374 : decode cL_law 374 = .ok (.aload_n 0, 1) := by decide +kernel
theorem dL_law_375 : decode cL_law 375 = .ok (.iload_n 3, 1) := by decide +kernel
theorem dL_law_376 : decode cL_law 376 = .ok (.iconst 1, 1) := by decide +kernel
theorem dL_law_377 : decode cL_law 377 = .ok (.iadd, 1) := by decide +kernel
theorem dL_law_378 : decode cL_law 378 = .ok (.iaload, 1) := by decide +kernel
theorem dL_law_379 : decode cL_law 379 = .ok (.aload_n 0, 1) := by decide +kernel
theorem dL_law_380 : decode cL_law 380 = .ok (.iload_n 3, 1) := by decide +kernel
theorem dL_law_381 : decode cL_law 381 = .ok (.iconst 2, 1) := by decide +kernel
theorem dL_law_382 : decode cL_law 382 = .ok (.iadd, 1) := by decide +kernel
theorem dL_law_383 : decode cL_law 383 = .ok (.iaload, 1) := by decide +kernel
theorem dL_law_384 : decode cL_law 384 = .ok (.aload_n 0, 1) := by decide +kernel
theorem dL_law_385 : decode cL_law 385 = .ok (.iload_n 3, 1) := by decide +kernel
theorem dL_law_386 : decode cL_law 386 = .ok (.iconst 3, 1) := by decide +kernel
theorem dL_law_387 : decode cL_law 387 = .ok (.iadd, 1) := by decide +kernel
theorem dL_law_388 : decode cL_law 388 = .ok (.iaload, 1) := by decide +kernel
theorem dL_law_389 : decode cL_law 389 = .ok (.invokevirtual 34, 3) := by decide +kernel
theorem dL_law_392 : decode cL_law 392 = .ok (.if_icmp .eq 1003, 3) := by decide +kernel
theorem dL_law_395 : decode cL_law 395 = .ok (.iconst 0, 1) := by decide +kernel
theorem dL_law_396 : decode cL_law 396 = .ok (.ireturn, 1) := by decide +kernel
theorem dL_law_397 : decode cL_law 397 = .ok (.aload_n 1, 1) := by decide +kernel
theorem dL_law_398 : decode cL_law 398 = .ok (.aload_n 0, 1) := by decide +kernel
theorem dL_law_399 : decode cL_law 399 = .ok (.iload_n 3, 1) := by decide +kernel
theorem dL_law_400 : decode cL_law 400 = .ok (.iconst 1, 1) := by decide +kernel
theorem dL_law_401 : decode cL_law 401 = .ok (.iadd, 1) := by decide +kernel
theorem dL_law_402 : decode cL_law 402 = .ok (.iaload, 1) := by decide +kernel
theorem dL_law_403 : decode cL_law 403 = .ok (.aload_n 0, 1) := by decide +kernel
theorem dL_law_404 : decode cL_law 404 = .ok (.iload_n 3, 1) := by decide +kernel
theorem dL_law_405 : decode cL_law 405 = .ok (.iconst 2, 1) := by decide +kernel
theorem dL_law_406 : decode cL_law 406 = .ok (.iadd, 1) := by decide +kernel
theorem dL_law_407 : decode cL_law 407 = .ok (.iaload, 1) := by decide +kernel
theorem dL_law_408 : decode cL_law 408 = .ok (.invokevirtual 35, 3) := by decide +kernel
theorem dL_law_411 : decode cL_law 411 = .ok (.aload_n 2, 1) := by decide +kernel
theorem dL_law_412 : decode cL_law 412 = .ok (.aload_n 0, 1) := by decide +kernel
theorem dL_law_413 : decode cL_law 413 = .ok (.iload_n 3, 1) := by decide +kernel
theorem dL_law_414 : decode cL_law 414 = .ok (.iconst 1, 1) := by decide +kernel
theorem dL_law_415 : decode cL_law 415 = .ok (.iadd, 1) := by decide +kernel
theorem dL_law_416 : decode cL_law 416 = .ok (.iaload, 1) := by decide +kernel
theorem dL_law_417 : decode cL_law 417 = .ok (.aload_n 0, 1) := by decide +kernel
theorem dL_law_418 : decode cL_law 418 = .ok (.iload_n 3, 1) := by decide +kernel
theorem dL_law_419 : decode cL_law 419 = .ok (.iconst 2, 1) := by decide +kernel
theorem dL_law_420 : decode cL_law 420 = .ok (.iadd, 1) := by decide +kernel
theorem dL_law_421 : decode cL_law 421 = .ok (.iaload, 1) := by decide +kernel
theorem dL_law_422 : decode cL_law 422 = .ok (.invokevirtual 38, 3) := by decide +kernel
theorem dL_law_425 : decode cL_law 425 = .ok (.if_icmp .eq 970, 3) := by decide +kernel
theorem dL_law_428 : decode cL_law 428 = .ok (.iconst 0, 1) := by decide +kernel
theorem dL_law_429 : decode cL_law 429 = .ok (.ireturn, 1) := by decide +kernel
theorem dL_law_430 : decode cL_law 430 = .ok (.aload_n 1, 1) := by decide +kernel
theorem dL_law_431 : decode cL_law 431 = .ok (.aload_n 0, 1) := by decide +kernel
theorem dL_law_432 : decode cL_law 432 = .ok (.iload_n 3, 1) := by decide +kernel
theorem dL_law_433 : decode cL_law 433 = .ok (.iconst 1, 1) := by decide +kernel
theorem dL_law_434 : decode cL_law 434 = .ok (.iadd, 1) := by decide +kernel
theorem dL_law_435 : decode cL_law 435 = .ok (.iaload, 1) := by decide +kernel
theorem dL_law_436 : decode cL_law 436 = .ok (.invokevirtual 39, 3) := by decide +kernel
theorem dL_law_439 : decode cL_law 439 = .ok (.aload_n 2, 1) := by decide +kernel
theorem dL_law_440 : decode cL_law 440 = .ok (.aload_n 0, 1) := by decide +kernel
theorem dL_law_441 : decode cL_law 441 = .ok (.iload_n 3, 1) := by decide +kernel
theorem dL_law_442 : decode cL_law 442 = .ok (.iconst 1, 1) := by decide +kernel
theorem dL_law_443 : decode cL_law 443 = .ok (.iadd, 1) := by decide +kernel
theorem dL_law_444 : decode cL_law 444 = .ok (.iaload, 1) := by decide +kernel
theorem dL_law_445 : decode cL_law 445 = .ok (.invokevirtual 43, 3) := by decide +kernel
theorem dL_law_448 : decode cL_law 448 = .ok (.if_icmp .eq 947, 3) := by decide +kernel
theorem dL_law_451 : decode cL_law 451 = .ok (.iconst 0, 1) := by decide +kernel
theorem dL_law_452 : decode cL_law 452 = .ok (.ireturn, 1) := by decide +kernel
theorem dL_law_453 : decode cL_law 453 = .ok (.aload_n 1, 1) := by decide +kernel
theorem dL_law_454 : decode cL_law 454 = .ok (.invokevirtual 44, 3) := by decide +kernel
theorem dL_law_457 : decode cL_law 457 = .ok (.aload_n 2, 1) := by decide +kernel
theorem dL_law_458 : decode cL_law 458 = .ok (.invokevirtual 48, 3) := by decide +kernel
theorem dL_law_461 : decode cL_law 461 = .ok (.if_icmp .eq 934, 3) := by decide +kernel
theorem dL_law_464 : decode cL_law 464 = .ok (.iconst 0, 1) := by decide +kernel
theorem dL_law_465 : decode cL_law 465 = .ok (.ireturn, 1) := by decide +kernel
theorem dL_law_466 : decode cL_law 466 = .ok (.aload_n 1, 1) := by decide +kernel
theorem dL_law_467 : decode cL_law 467 = .ok (.aload_n 0, 1) := by decide +kernel
theorem dL_law_468 : decode cL_law 468 = .ok (.iload_n 3, 1) := by decide +kernel
theorem dL_law_469 : decode cL_law 469 = .ok (.iconst 1, 1) := by decide +kernel
theorem dL_law_470 : decode cL_law 470 = .ok (.iadd, 1) := by decide +kernel
theorem dL_law_471 : decode cL_law 471 = .ok (.iaload, 1) := by decide +kernel
theorem dL_law_472 : decode cL_law 472 = .ok (.invokevirtual 49, 3) := by decide +kernel
theorem dL_law_475 : decode cL_law 475 = .ok (.aload_n 2, 1) := by decide +kernel
theorem dL_law_476 : decode cL_law 476 = .ok (.aload_n 0, 1) := by decide +kernel
theorem dL_law_477 : decode cL_law 477 = .ok (.iload_n 3, 1) := by decide +kernel
theorem dL_law_478 : decode cL_law 478 = .ok (.iconst 1, 1) := by decide +kernel
theorem dL_law_479 : decode cL_law 479 = .ok (.iadd, 1) := by decide +kernel
theorem dL_law_480 : decode cL_law 480 = .ok (.iaload, 1) := by decide +kernel
theorem dL_law_481 : decode cL_law 481 = .ok (.invokevirtual 52, 3) := by decide +kernel
theorem dL_law_484 : decode cL_law 484 = .ok (.if_icmp .eq 911, 3) := by decide +kernel
theorem dL_law_487 : decode cL_law 487 = .ok (.iconst 0, 1) := by decide +kernel
theorem dL_law_488 : decode cL_law 488 = .ok (.ireturn, 1) := by decide +kernel
theorem dL_law_489 : decode cL_law 489 = .ok (.aload_n 1, 1) := by decide +kernel
theorem dL_law_490 : decode cL_law 490 = .ok (.aload_n 0, 1) := by decide +kernel
theorem dL_law_491 : decode cL_law 491 = .ok (.iload_n 3, 1) := by decide +kernel
theorem dL_law_492 : decode cL_law 492 = .ok (.iconst 1, 1) := by decide +kernel
theorem dL_law_493 : decode cL_law 493 = .ok (.iadd, 1) := by decide +kernel
theorem dL_law_494 : decode cL_law 494 = .ok (.iaload, 1) := by decide +kernel
theorem dL_law_495 : decode cL_law 495 = .ok (.invokevirtual 53, 3) := by decide +kernel
theorem dL_law_498 : decode cL_law 498 = .ok (.aload_n 2, 1) := by decide +kernel
theorem dL_law_499 : decode cL_law 499 = .ok (.aload_n 0, 1) := by decide +kernel
theorem dL_law_500 : decode cL_law 500 = .ok (.iload_n 3, 1) := by decide +kernel
theorem dL_law_501 : decode cL_law 501 = .ok (.iconst 1, 1) := by decide +kernel
theorem dL_law_502 : decode cL_law 502 = .ok (.iadd, 1) := by decide +kernel
theorem dL_law_503 : decode cL_law 503 = .ok (.iaload, 1) := by decide +kernel
theorem dL_law_504 : decode cL_law 504 = .ok (.invokevirtual 56, 3) := by decide +kernel
theorem dL_law_507 : decode cL_law 507 = .ok (.if_icmp .eq 888, 3) := by decide +kernel
theorem dL_law_510 : decode cL_law 510 = .ok (.iconst 0, 1) := by decide +kernel
theorem dL_law_511 : decode cL_law 511 = .ok (.ireturn, 1) := by decide +kernel
theorem dL_law_512 : decode cL_law 512 = .ok (.aload_n 1, 1) := by decide +kernel
theorem dL_law_513 : decode cL_law 513 = .ok (.aload_n 0, 1) := by decide +kernel
theorem dL_law_514 : decode cL_law 514 = .ok (.iload_n 3, 1) := by decide +kernel
theorem dL_law_515 : decode cL_law 515 = .ok (.iconst 1, 1) := by decide +kernel
theorem dL_law_516 : decode cL_law 516 = .ok (.iadd, 1) := by decide +kernel
theorem dL_law_517 : decode cL_law 517 = .ok (.iaload, 1) := by decide +kernel
