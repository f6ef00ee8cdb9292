theorem dX12_bodyAnew_0 : decode cX12_bodyAnew 0 = .ok (.aload_n 0, 1) := by decide +kernel
theorem dX12_bodyAnew_1 : decode cX12_bodyAnew 1 = .ok (.getfield 58, 3) := by decide +kernel
theorem dX12_bodyAnew_4 : decode cX12_bodyAnew 4 = .ok (.iload_n 1, 1) := by decide +kernel
theorem dX12_bodyAnew_5 : decode cX12_bodyAnew 5 = .ok (.iaload, 1) := by decide +kernel
theorem dX12_bodyAnew_6 : decode cX12_bodyAnew 6 = .ok (.iconst 1, 1) := by decide +kernel
theorem dX12_bodyAnew_7 : decode cX12_bodyAnew 7 = .ok (.isub, 1) := by decide +kernel
theorem dX12_bodyAnew_8 : decode cX12_bodyAnew 8 = .ok (.istore_n 2, 1) := by decide +kernel
theorem dX12_bodyAnew_9 : decode cX12_bodyAnew 9 = .ok (.iconst 1, 1) := by decide +kernel
theorem dX12_bodyAnew_10 : decode cX12_bodyAnew 10 = .ok (.istore_n 3, 1) := by decide +kernel
theorem dX12_bodyAnew_11 : decode cX12_bodyAnew 11 = .ok (.iconst 0, 1) := by decide +kernel
theorem dX12_bodyAnew_12 : decode cX12_bodyAnew 12 = .ok (.istore 4, 2) := by decide +kernel
theorem dX12_bodyAnew_14 : decode cX12_bodyAnew 14 = .ok (.sipush 20000, 3) := by decide +kernel
theorem dX12_bodyAnew_17 : decode cX12_bodyAnew 17 = .ok (.istore 5, 2) := by decide +kernel
theorem dX12_bodyAnew_19 : decode cX12_bodyAnew 19 = .ok (.iconst 0, 1) := by decide +kernel
theorem dX12_bodyAnew_20 : decode cX12_bodyAnew 20 = .ok (.istore 6, 2) := by decide +kernel
theorem dX12_bodyAnew_22 : decode cX12_bodyAnew 22 = .ok (.iconst 0, 1) := by decide +kernel
theorem dX12_bodyAnew_23 : decode cX12_bodyAnew 23 = .ok (.istore 7, 2) := by decide +kernel
theorem dX12_bodyAnew_25 : decode cX12_bodyAnew 25 = .ok (.aload_n 0, 1) := by decide +kernel
theorem dX12_bodyAnew_26 : decode cX12_bodyAnew 26 = .ok (.iconst (-1), 1) := by decide +kernel
theorem dX12_bodyAnew_27 : decode cX12_bodyAnew 27 = .ok (.putfield 209, 3) := by decide +kernel
theorem dX12_bodyAnew_30 : decode cX12_bodyAnew 30 = .ok (.aload_n 0, 1) := by decide +kernel
theorem dX12_bodyAnew_31 : decode cX12_bodyAnew 31 = .ok (.iconst 0, 1) := by decide +kernel
theorem dX12_bodyAnew_32 : decode cX12_bodyAnew 32 = .ok (.putfield 212, 3) := by decide +kernel
theorem dX12_bodyAnew_35 : decode cX12_bodyAnew 35 = .ok (.aload_n 0, 1) := by decide +kernel
theorem dX12_bodyAnew_36 : decode cX12_bodyAnew 36 = .ok (.iconst 0, 1) := by decide +kernel
theorem dX12_bodyAnew_37 : decode cX12_bodyAnew 37 = .ok (.putfield 150, 3) := by decide +kernel
theorem dX12_bodyAnew_40 : decode cX12_bodyAnew 40 = .ok (.aload_n 0, 1) := by decide +kernel
theorem dX12_bodyAnew_41 : decode cX12_bodyAnew 41 = .ok (.iconst 0, 1) := by decide +kernel
theorem dX12_bodyAnew_42 : decode cX12_bodyAnew 42 = .ok (.putfield 160, 3) := by decide +kernel
theorem dX12_bodyAnew_45 : decode cX12_bodyAnew 45 = .ok (.iconst 0, 1) := by decide +kernel
theorem dX12_bodyAnew_46 : decode cX12_bodyAnew 46 = .ok (.istore 8, 2) := by decide +kernel
theorem dX12_bodyAnew_48 : decode cX12_bodyAnew 48 = .ok (.iload 8, 2) := by decide +kernel
theorem dX12_bodyAnew_50 : decode cX12_bodyAnew 50 = .ok (.iload_n 2, 1) := by decide +kernel
theorem dX12_bodyAnew_51 : decode cX12_bodyAnew 51 = .ok (.if_icmp .gt 345, 3) := by decide +kernel
theorem dX12_bodyAnew_54 : decode cX12_bodyAnew 54 = .ok (.aload_n 0, 1) := by decide +kernel
theorem dX12_bodyAnew_55 : decode cX12_bodyAnew 55 = .ok (.iload_n 1, 1) := by decide +kernel
theorem dX12_bodyAnew_56 : decode cX12_bodyAnew 56 = .ok (.iload 8, 2) := by decide +kernel
theorem dX12_bodyAnew_58 : decode cX12_bodyAnew 58 = .ok (.invokevirtual 215, 3) := by decide +kernel
theorem dX12_bodyAnew_61 : decode cX12_bodyAnew 61 = .ok (.istore 9, 2) := by decide +kernel
theorem dX12_bodyAnew_63 : decode cX12_bodyAnew 63 = .ok (.aload_n 0, 1) := by decide +kernel
theorem dX12_bodyAnew_64 : decode cX12_bodyAnew 64 = .ok (.iload 9, 2) := by decide +kernel
theorem dX12_bodyAnew_66 : decode cX12_bodyAnew 66 = .ok (.invokevirtual 177, 3) := by decide +kernel
theorem dX12_bodyAnew_69 : decode cX12_bodyAnew 69 = .ok (.iload 4, 2) := by decide +kernel
theorem dX12_bodyAnew_71 : decode cX12_bodyAnew 71 = .ok (.iconst 5, 1) := by decide +kernel
theorem dX12_bodyAnew_72 : decode cX12_bodyAnew 72 = .ok (.if_icmp .ne 49, 3) := by decide +kernel
theorem dX12_bodyAnew_75 : decode cX12_bodyAnew 75 = .ok (.iload 9, 2) := by decide +kernel
theorem dX12_bodyAnew_77 : decode cX12_bodyAnew 77 = .ok (.iload_n 3, 1) := by decide +kernel
theorem dX12_bodyAnew_78 : decode cX12_bodyAnew 78 = .ok (.if_icmp .ne 5, 3) := by decide +kernel
theorem dX12_bodyAnew_81 : decode cX12_bodyAnew 81 = .ok (.iconst 1, 1) := by decide +kernel
theorem dX12_bodyAnew_82 : decode cX12_bodyAnew 82 = .ok (.ireturn, 1) := by decide +kernel
theorem dX12_bodyAnew_83 : decode cX12_bodyAnew 83 = .ok (.iconst 1, 1) := by decide +kernel
theorem dX12_bodyAnew_84 : decode cX12_bodyAnew 84 = .ok (.istore 4, 2) := by decide +kernel
theorem dX12_bodyAnew_86 : decode cX12_bodyAnew 86 = .ok (.iload 9, 2) := by decide +kernel
theorem dX12_bodyAnew_88 : decode cX12_bodyAnew 88 = .ok (.istore_n 3, 1) := by decide +kernel
theorem dX12_bodyAnew_89 : decode cX12_bodyAnew 89 = .ok (.aload_n 0, 1) := by decide +kernel
theorem dX12_bodyAnew_90 : decode cX12_bodyAnew 90 = .ok (.dup, 1) := by decide +kernel
theorem dX12_bodyAnew_91 : decode cX12_bodyAnew 91 = .ok (.getfield 212, 3) := by decide +kernel
theorem dX12_bodyAnew_94 : decode cX12_bodyAnew 94 = .ok (.iconst 1, 1) := by decide +kernel
theorem dX12_bodyAnew_95 : decode cX12_bodyAnew 95 = .ok (.iadd, 1) := by decide +kernel
theorem dX12_bodyAnew_96 : decode cX12_bodyAnew 96 = .ok (.putfield 212, 3) := by decide +kernel
theorem dX12_bodyAnew_99 : decode cX12_bodyAnew 99 = .ok (.aload_n 0, 1) := by decide +kernel
theorem dX12_bodyAnew_100 : decode cX12_bodyAnew 100 = .ok (.getfield 150, 3) := by decide +kernel
theorem dX12_bodyAnew_103 : decode cX12_bodyAnew 103 = .ok (.iload 5, 2) := by decide +kernel
theorem dX12_bodyAnew_105 : decode cX12_bodyAnew 105 = .ok (.bipush 15, 2) := by decide +kernel
theorem dX12_bodyAnew_107 : decode cX12_bodyAnew 107 = .ok (.iadd, 1) := by decide +kernel
theorem dX12_bodyAnew_108 : decode cX12_bodyAnew 108 = .ok (.if_icmp .ne 282, 3) := by decide +kernel
theorem dX12_bodyAnew_111 : decode cX12_bodyAnew 111 = .ok (.aload_n 0, 1) := by decide +kernel
theorem dX12_bodyAnew_112 : decode cX12_bodyAnew 112 = .ok (.iload 8, 2) := by decide +kernel
theorem dX12_bodyAnew_114 : decode cX12_bodyAnew 114 = .ok (.iconst 1, 1) := by decide +kernel
theorem dX12_bodyAnew_115 : decode cX12_bodyAnew 115 = .ok (.iadd, 1) := by decide +kernel
theorem dX12_bodyAnew_116 : decode cX12_bodyAnew 116 = .ok (.putfield 209, 3) := by decide +kernel
theorem dX12_bodyAnew_119 : decode cX12_bodyAnew 119 = .ok (.iconst (-1), 1) := by decide +kernel
theorem dX12_bodyAnew_120 : decode cX12_bodyAnew 120 = .ok (.ireturn, 1) := by decide +kernel
theorem dX12_bodyAnew_121 : decode cX12_bodyAnew 121 = .ok (.iload 9, 2) := by decide +kernel
theorem dX12_bodyAnew_123 : decode cX12_bodyAnew 123 = .ok (.iload_n 3, 1) := by decide +kernel
theorem dX12_bodyAnew_124 : decode cX12_bodyAnew 124 = .ok (.if_icmp .ne 10, 3) := by decide +kernel
theorem dX12_bodyAnew_127 : decode cX12_bodyAnew 127 = .ok (.iload 4, 2) := by decide +kernel
theorem dX12_bodyAnew_129 : decode cX12_bodyAnew 129 = .ok (.iconst 1, 1) := by decide +kernel
theorem dX12_bodyAnew_130 : decode cX12_bodyAnew 130 = .ok (.iadd, 1) := by decide +kernel
theorem dX12_bodyAnew_131 : decode cX12_bodyAnew 131 = .ok (.goto 4, 3) := by decide +kernel
theorem dX12_bodyAnew_134 : decode cX12_bodyAnew 134 = .ok (.iconst 1, 1) := by decide +kernel
theorem dX12_bodyAnew_135 : decode cX12_bodyAnew 135 = .ok (.istore 4, 2) := by decide +kernel
theorem dX12_bodyAnew_137 : decode cX12_bodyAnew 137 = .ok (.iload 9, 2) := by decide +kernel
theorem dX12_bodyAnew_139 : decode cX12_bodyAnew 139 = .ok (.istore_n 3, 1) := by decide +kernel
theorem dX12_bodyAnew_140 : decode cX12_bodyAnew 140 = .ok (.aload_n 0, 1) := by decide +kernel
theorem dX12_bodyAnew_141 : decode cX12_bodyAnew 141 = .ok (.getfield 96, 3) := by decide +kernel
theorem dX12_bodyAnew_144 : decode cX12_bodyAnew 144 = .ok (.aload_n 0, 1) := by decide +kernel
theorem dX12_bodyAnew_145 : decode cX12_bodyAnew 145 = .ok (.getfield 150, 3) := by decide +kernel
theorem dX12_bodyAnew_148 : decode cX12_bodyAnew 148 = .ok (.iload 9, 2) := by decide +kernel
theorem dX12_bodyAnew_150 : decode cX12_bodyAnew 150 = .ok (.i2b, 1) := by decide +kernel
theorem dX12_bodyAnew_151 : decode cX12_bodyAnew 151 = .ok (.bastore, 1) := by decide +kernel
theorem dX12_bodyAnew_152 : decode cX12_bodyAnew 152 = .ok (.aload_n 0, 1) := by decide +kernel
theorem dX12_bodyAnew_153 : decode cX12_bodyAnew 153 = .ok (.dup, 1) := by decide +kernel
theorem dX12_bodyAnew_154 : decode cX12_bodyAnew 154 = .ok (.getfield 150, 3) := by decide +kernel
theorem dX12_bodyAnew_157 : decode cX12_bodyAnew 157 = .ok (.iconst 1, 1) := by decide +kernel
theorem dX12_bodyAnew_158 : decode cX12_bodyAnew 158 = .ok (.iadd, 1) := by decide +kernel
theorem dX12_bodyAnew_159 : decode cX12_bodyAnew 159 = .ok (.putfield 150, 3) := by decide +kernel
theorem dX12_bodyAnew_162 : decode cX12_bodyAnew 162 = .ok (.aload_n 0, 1) := by decide +kernel
theorem dX12_bodyAnew_163 : decode cX12_bodyAnew 163 = .ok (.getfield 150, 3) := by decide +kernel
theorem dX12_bodyAnew_166 : decode cX12_bodyAnew 166 = .ok (.bipush 14, 2) := by decide +kernel
theorem dX12_bodyAnew_168 : decode cX12_bodyAnew 168 = .ok (.if_icmp .ne 16, 3) := by decide +kernel
theorem dX12_bodyAnew_171 : decode cX12_bodyAnew 171 = .ok (.iload 9, 2) := by decide +kernel
theorem dX12_bodyAnew_173 : decode cX12_bodyAnew 173 = .ok (.iconst 1, 1) := by decide +kernel
theorem dX12_bodyAnew_174 : decode cX12_bodyAnew 174 = .ok (.if_icmp .ne 7, 3) := by decide +kernel
theorem dX12_bodyAnew_177 : decode cX12_bodyAnew 177 = .ok (.iconst 1, 1) := by decide +kernel
theorem dX12_bodyAnew_178 : decode cX12_bodyAnew 178 = .ok (.goto 4, 3) := by decide +kernel
theorem dX12_bodyAnew_181 : decode cX12_bodyAnew 181 = .ok (.iconst 0, 1) := by decide +kernel
theorem dX12_bodyAnew_182 : decode cX12_bodyAnew 182 = .ok (.istore 6, 2) := by decide +kernel
theorem dX12_bodyAnew_184 : decode cX12_bodyAnew 184 = .ok (.iload 6, 2) := by decide +kernel
theorem dX12_bodyAnew_186 : decode cX12_bodyAnew 186 = .ok (.ifCond .eq 8, 3) := by decide +kernel
theorem dX12_bodyAnew_189 : decode cX12_bodyAnew 189 = .ok (.bipush 33, 2) := by decide +kernel
theorem dX12_bodyAnew_191 : decode cX12_bodyAnew 191 = .ok (.goto 5, 3) := by decide +kernel
theorem dX12_bodyAnew_194 : decode cX12_bodyAnew 194 = .ok (.bipush 14, 2) := by decide +kernel
theorem dX12_bodyAnew_196 : decode cX12_bodyAnew 196 = .ok (.istore 10, 2) := by decide +kernel
theorem dX12_bodyAnew_198 : decode cX12_bodyAnew 198 = .ok (.aload_n 0, 1) := by decide +kernel
theorem dX12_bodyAnew_199 : decode cX12_bodyAnew 199 = .ok (.getfield 150, 3) := by decide +kernel
theorem dX12_bodyAnew_202 : decode cX12_bodyAnew 202 = .ok (.bipush 13, 2) := by decide +kernel
theorem dX12_bodyAnew_204 : decode cX12_bodyAnew 204 = .ok (.if_icmp .le 27, 3) := by decide +kernel
theorem dX12_bodyAnew_207 : decode cX12_bodyAnew 207 = .ok (.aload_n 0, 1) := by decide +kernel
theorem dX12_bodyAnew_208 : decode cX12_bodyAnew 208 = .ok (.getfield 150, 3) := by decide +kernel
theorem dX12_bodyAnew_211 : decode cX12_bodyAnew 211 = .ok (.iload 10, 2) := by decide +kernel
theorem dX12_bodyAnew_213 : decode cX12_bodyAnew 213 = .ok (.iconst 1, 1) := by decide +kernel
theorem dX12_bodyAnew_214 : decode cX12_bodyAnew 214 = .ok (.iadd, 1) := by decide +kernel
theorem dX12_bodyAnew_215 : decode cX12_bodyAnew 215 = .ok (.if_icmp .ne 16, 3) := by decide +kernel
theorem dX12_bodyAnew_218 : decode cX12_bodyAnew 218 = .ok (.iload 9, 2) := by decide +kernel
theorem dX12_bodyAnew_220 : decode cX12_bodyAnew 220 = .ok (.iconst 1, 1) := by decide +kernel
theorem dX12_bodyAnew_221 : decode cX12_bodyAnew 221 = .ok (.if_icmp .ne 7, 3) := by decide +kernel
theorem dX12_bodyAnew_224 : decode cX12_bodyAnew 224 = .ok (.iconst 1, 1) := by decide +kernel
theorem dX12_bodyAnew_225 : decode cX12_bodyAnew 225 = .ok (.goto 4, 3) := by decide +kernel
theorem dX12_bodyAnew_228 : decode cX12_bodyAnew 228 = .ok (.iconst 0, 1) := by decide +kernel
theorem dX12_bodyAnew_229 : decode cX12_bodyAnew 229 = .ok (.istore 7, 2) := by decide +kernel
theorem dX12_bodyAnew_231 : decode cX12_bodyAnew 231 = .ok (.aload_n 0, 1) := by decide +kernel
theorem dX12_bodyAnew_232 : decode cX12_bodyAnew 232 = .ok (.getfield 150, 3) := by decide +kernel
theorem dX12_bodyAnew_235 : decode cX12_bodyAnew 235 = .ok (.iload 10, 2) := by decide +kernel
theorem dX12_bodyAnew_237 : decode cX12_bodyAnew 237 = .ok (.iconst 2, 1) := by decide +kernel
theorem dX12_bodyAnew_238 : decode cX12_bodyAnew 238 = .ok (.iadd, 1) := by decide +kernel
theorem dX12_bodyAnew_239 : decode cX12_bodyAnew 239 = .ok (.if_icmp .ne 16, 3) := by decide +kernel
theorem dX12_bodyAnew_242 : decode cX12_bodyAnew 242 = .ok (.iload 7, 2) := by decide +kernel
theorem dX12_bodyAnew_244 : decode cX12_bodyAnew 244 = .ok (.ifCond .eq 11, 3) := by decide +kernel
theorem dX12_bodyAnew_247 : decode cX12_bodyAnew 247 = .ok (.iload 9, 2) := by decide +kernel
theorem dX12_bodyAnew_249 : decode cX12_bodyAnew 249 = .ok (.iconst 1, 1) := by decide +kernel
theorem dX12_bodyAnew_250 : decode cX12_bodyAnew 250 = .ok (.if_icmp .ne 5, 3) := by decide +kernel
theorem dX12_bodyAnew_253 : decode cX12_bodyAnew 253 = .ok (.iconst 2, 1) := by decide +kernel
theorem dX12_bodyAnew_254 : decode cX12_bodyAnew 254 = .ok (.ireturn, 1) := by decide +kernel
theorem dX12_bodyAnew_255 : decode cX12_bodyAnew 255 = .ok (.iload 10, 2) := by decide +kernel
theorem dX12_bodyAnew_257 : decode cX12_bodyAnew 257 = .ok (.iload 7, 2) := by decide +kernel
theorem dX12_bodyAnew_259 : decode cX12_bodyAnew 259 = .ok (.ifCond .eq 8, 3) := by decide +kernel
theorem dX12_bodyAnew_262 : decode cX12_bodyAnew 262 = .ok (.bipush 8, 2) := by decide +kernel
theorem dX12_bodyAnew_264 : decode cX12_bodyAnew 264 = .ok (.goto 14, 3) := by decide +kernel
theorem dX12_bodyAnew_267 : decode cX12_bodyAnew 267 = .ok (.iload 6, 2) := by decide +kernel
theorem dX12_bodyAnew_269 : decode cX12_bodyAnew 269 = .ok (.ifCond .eq 8, 3) := by decide +kernel
theorem dX12_bodyAnew_272 : decode cX12_bodyAnew 272 = .ok (.bipush 6, 2) := by decide +kernel
theorem dX12_bodyAnew_274 : decode cX12_bodyAnew 274 = .ok (.goto 4, 3) := by decide +kernel
theorem dX12_bodyAnew_277 : decode cX12_bodyAnew 277 = .ok (.iconst 5, 1) := by decide +kernel
theorem dX12_bodyAnew_278 : decode cX12_bodyAnew 278 = .ok (.iadd, 1) := by decide +kernel
theorem dX12_bodyAnew_279 : decode cX12_bodyAnew 279 = .ok (.istore 11, 2) := by decide +kernel
theorem dX12_bodyAnew_281 : decode cX12_bodyAnew 281 = .ok (.aload_n 0, 1) := by decide +kernel
theorem dX12_bodyAnew_282 : decode cX12_bodyAnew 282 = .ok (.getfield 150, 3) := by decide +kernel
theorem dX12_bodyAnew_285 : decode cX12_bodyAnew 285 = .ok (.iload 10, 2) := by decide +kernel
theorem dX12_bodyAnew_287 : decode cX12_bodyAnew 287 = .ok (.if_icmp .le 41, 3) := by decide +kernel
theorem dX12_bodyAnew_290 : decode cX12_bodyAnew 290 = .ok (.aload_n 0, 1) := by decide +kernel
theorem dX12_bodyAnew_291 : decode cX12_bodyAnew 291 = .ok (.getfield 150, 3) := by decide +kernel
theorem dX12_bodyAnew_294 : decode cX12_bodyAnew 294 = .ok (.iload 11, 2) := by decide +kernel
theorem dX12_bodyAnew_296 : decode cX12_bodyAnew 296 = .ok (.if_icmp .ne 32, 3) := by decide +kernel
theorem dX12_bodyAnew_299 : decode cX12_bodyAnew 299 = .ok (.aload_n 0, 1) := by decide +kernel
theorem dX12_bodyAnew_300 : decode cX12_bodyAnew 300 = .ok (.iload 6, 2) := by decide +kernel
theorem dX12_bodyAnew_302 : decode cX12_bodyAnew 302 = .ok (.iload 7, 2) := by decide +kernel
theorem dX12_bodyAnew_304 : decode cX12_bodyAnew 304 = .ok (.iload 11, 2) := by decide +kernel
theorem dX12_bodyAnew_306 : decode cX12_bodyAnew 306 = .ok (.invokevirtual 218, 3) := by decide +kernel
theorem dX12_bodyAnew_309 : decode cX12_bodyAnew 309 = .ok (.iload 11, 2) := by decide +kernel
theorem dX12_bodyAnew_311 : decode cX12_bodyAnew 311 = .ok (.bipush 8, 2) := by decide +kernel
theorem dX12_bodyAnew_313 : decode cX12_bodyAnew 313 = .ok (.aload_n 0, 1) := by decide +kernel
theorem dX12_bodyAnew_314 : decode cX12_bodyAnew 314 = .ok (.getfield 222, 3) := by decide +kernel
theorem dX12_bodyAnew_317 : decode cX12_bodyAnew 317 = .ok (.aload_n 0, 1) := by decide +kernel
theorem dX12_bodyAnew_318 : decode cX12_bodyAnew 318 = .ok (.getfield 225, 3) := by decide +kernel
theorem dX12_bodyAnew_321 : decode cX12_bodyAnew 321 = .ok (.invokestatic 146, 3) := by decide +kernel
theorem dX12_bodyAnew_324 : decode cX12_bodyAnew 324 = .ok (.imul, 1) := by decide +kernel
theorem dX12_bodyAnew_325 : decode cX12_bodyAnew 325 = .ok (.iadd, 1) := by decide +kernel
theorem dX12_bodyAnew_326 : decode cX12_bodyAnew 326 = .ok (.istore 5, 2) := by decide +kernel
theorem dX12_bodyAnew_328 : decode cX12_bodyAnew 328 = .ok (.iload 7, 2) := by decide +kernel
theorem dX12_bodyAnew_330 : decode cX12_bodyAnew 330 = .ok (.ifCond .eq 20, 3) := by decide +kernel
theorem dX12_bodyAnew_333 : decode cX12_bodyAnew 333 = .ok (.aload_n 0, 1) := by decide +kernel
theorem dX12_bodyAnew_334 : decode cX12_bodyAnew 334 = .ok (.getfield 150, 3) := by decide +kernel
theorem dX12_bodyAnew_337 : decode cX12_bodyAnew 337 = .ok (.iload 5, 2) := by decide +kernel
theorem dX12_bodyAnew_339 : decode cX12_bodyAnew 339 = .ok (.if_icmp .ne 7, 3) := by decide +kernel
theorem dX12_bodyAnew_342 : decode cX12_bodyAnew 342 = .ok (.iconst 1, 1) := by decide +kernel
theorem dX12_bodyAnew_343 : decode cX12_bodyAnew 343 = .ok (.goto 30, 3) := by decide +kernel
theorem dX12_bodyAnew_346 : decode cX12_bodyAnew 346 = .ok (.iconst 0, 1) := by decide +kernel
theorem dX12_bodyAnew_347 : decode cX12_bodyAnew 347 = .ok (.goto 26, 3) := by decide +kernel
theorem dX12_bodyAnew_350 : decode cX12_bodyAnew 350 = .ok (.aload_n 0, 1) := by decide +kernel
theorem dX12_bodyAnew_351 : decode cX12_bodyAnew 351 = .ok (.getfield 150, 3) := by decide +kernel
theorem dX12_bodyAnew_354 : decode cX12_bodyAnew 354 = .ok (.iload 5, 2) := by decide +kernel
theorem dX12_bodyAnew_356 : decode cX12_bodyAnew 356 = .ok (.bipush 15, 2) := by decide +kernel
theorem dX12_bodyAnew_358 : decode cX12_bodyAnew 358 = .ok (.iadd, 1) := by decide +kernel
theorem dX12_bodyAnew_359 : decode cX12_bodyAnew 359 = .ok (.if_icmp .ne 13, 3) := by decide +kernel
theorem dX12_bodyAnew_362 : decode cX12_bodyAnew 362 = .ok (.iload 4, 2) := by decide +kernel
theorem dX12_bodyAnew_364 : decode cX12_bodyAnew 364 = .ok (.iconst 5, 1) := by decide +kernel
theorem dX12_bodyAnew_365 : decode cX12_bodyAnew 365 = .ok (.if_icmp .ge 7, 3) := by decide +kernel
theorem dX12_bodyAnew_368 : decode cX12_bodyAnew 368 = .ok (.iconst 1, 1) := by decide +kernel
theorem dX12_bodyAnew_369 : decode cX12_bodyAnew 369 = .ok (.goto 4, 3) := by decide +kernel
theorem dX12_bodyAnew_372 : decode cX12_bodyAnew 372 = .ok (.iconst 0, 1) := by decide +kernel
theorem dX12_bodyAnew_373 : decode cX12_bodyAnew 373 = .ok (.istore 12, 2) := by decide +kernel
theorem dX12_bodyAnew_375 : decode cX12_bodyAnew 375 = .ok (.iload 12, 2) := by decide +kernel
theorem dX12_bodyAnew_377 : decode cX12_bodyAnew 377 = .ok (.ifCond .eq 13, 3) := by decide +kernel
theorem dX12_bodyAnew_380 : decode cX12_bodyAnew 380 = .ok (.aload_n 0, 1) := by decide +kernel
theorem dX12_bodyAnew_381 : decode cX12_bodyAnew 381 = .ok (.iload 8, 2) := by decide +kernel
theorem dX12_bodyAnew_383 : decode cX12_bodyAnew 383 = .ok (.iconst 1, 1) := by decide +kernel
theorem dX12_bodyAnew_384 : decode cX12_bodyAnew 384 = .ok (.iadd, 1) := by decide +kernel
theorem dX12_bodyAnew_385 : decode cX12_bodyAnew 385 = .ok (.putfield 209, 3) := by decide +kernel
theorem dX12_bodyAnew_388 : decode cX12_bodyAnew 388 = .ok (.iconst (-1), 1) := by decide +kernel
theorem dX12_bodyAnew_389 : decode cX12_bodyAnew 389 = .ok (.ireturn, 1) := by decide +kernel
theorem dX12_bodyAnew_390 : decode cX12_bodyAnew 390 = .ok (.iinc 8 1, 3) := by decide +kernel
theorem dX12_bodyAnew_393 : decode cX12_bodyAnew 393 = .ok (.goto (-345), 3) := by decide +kernel
theorem dX12_bodyAnew_396 : decode cX12_bodyAnew 396 = .ok (.iconst (-1), 1) := by decide +kernel
theorem dX12_bodyAnew_397 : decode cX12_bodyAnew 397 = .ok (.ireturn, 1) := by decide +kernel
theorem cwX12_bodyAnew : mw_cwV yX12_bodyAnew cX12_bodyAnew 13 ((some .int)) 1 := ⟨⟨wd_15, wd_3710, by decide +kernel⟩, wd_3709, sl_243⟩
noncomputable def fX12_bodyAnew_b390 (fu : Nat) (a1 : Int32) (r48 : (Int32 × Int32 × Int32 × Int32 × Int32 × Int32 × Int32 × mwM × mwL) → Option (Int32 × mwM × mwL)) (v2 : Int32) (v3 : Int32) (v4 : Int32) (v5 : Int32) (v6 : Int32) (v7 : Int32) (v8 : Int32) (M : mwM) (L : mwL) : Option (Int32 × mwM × mwL) :=
  mlet (v8 + 1) (fun x42 => r48 (v2, v3, v4, v5, v6, v7, x42, M, L))
noncomputable def fX12_bodyAnew_b373 (fu : Nat) (a1 : Int32) (r48 : (Int32 × Int32 × Int32 × Int32 × Int32 × Int32 × Int32 × mwM × mwL) → Option (Int32 × mwM × mwL)) (v2 : Int32) (v3 : Int32) (v4 : Int32) (v5 : Int32) (v6 : Int32) (v7 : Int32) (v8 : Int32) (s0 : Int32) (M : mwM) (L : mwL) : Option (Int32 × mwM × mwL) :=
  (if s0 = 0 then fX12_bodyAnew_b390 fu a1 r48 v2 v3 v4 v5 v6 v7 v8 M L else mlet (mset M 821 45 (v8 + 1)) (fun M41 => some ((-1), M41, L)))
noncomputable def fX12_bodyAnew_b372 (fu : Nat) (a1 : Int32) (r48 : (Int32 × Int32 × Int32 × Int32 × Int32 × Int32 × Int32 × mwM × mwL) → Option (Int32 × mwM × mwL)) (v2 : Int32) (v3 : Int32) (v4 : Int32) (v5 : Int32) (v6 : Int32) (v7 : Int32) (v8 : Int32) (M : mwM) (L : mwL) : Option (Int32 × mwM × mwL) :=
  fX12_bodyAnew_b373 fu a1 r48 v2 v3 v4 v5 v6 v7 v8 0 M L
noncomputable def fX12_bodyAnew_b328 (fu : Nat) (a1 : Int32) (r48 : (Int32 × Int32 × Int32 × Int32 × Int32 × Int32 × Int32 × mwM × mwL) → Option (Int32 × mwM × mwL)) (v2 : Int32) (v3 : Int32) (v4 : Int32) (v5 : Int32) (v6 : Int32) (v7 : Int32) (v8 : Int32) (M : mwM) (L : mwL) : Option (Int32 × mwM × mwL) :=
  (if v7 = 0 then (if (M 821 34) = (v5 + 15) then (if 5 ≤ v4 then fX12_bodyAnew_b372 fu a1 r48 v2 v3 v4 v5 v6 v7 v8 M L else fX12_bodyAnew_b373 fu a1 r48 v2 v3 v4 v5 v6 v7 v8 1 M L) else fX12_bodyAnew_b372 fu a1 r48 v2 v3 v4 v5 v6 v7 v8 M L) else (if (M 821 34) = v5 then fX12_bodyAnew_b373 fu a1 r48 v2 v3 v4 v5 v6 v7 v8 1 M L else fX12_bodyAnew_b373 fu a1 r48 v2 v3 v4 v5 v6 v7 v8 0 M L))
noncomputable def fX12_bodyAnew_b278 (fu : Nat) (a1 : Int32) (r48 : (Int32 × Int32 × Int32 × Int32 × Int32 × Int32 × Int32 × mwM × mwL) → Option (Int32 × mwM × mwL)) (v2 : Int32) (v3 : Int32) (v4 : Int32) (v5 : Int32) (v6 : Int32) (v7 : Int32) (v8 : Int32) (v10 : Int32) (s0 : Int32) (s1 : Int32) (M : mwM) (L : mwL) : Option (Int32 × mwM × mwL) :=
  mlet (s0 + s1) (fun x27 => (if (M 821 34) ≤ v10 then fX12_bodyAnew_b328 fu a1 r48 v2 v3 v4 v5 v6 v7 v8 M L else (if (M 821 34) = x27 then mb2 (DX12_find fu v6 v7 x27 M L) (fun M30 L31 => mb3 (DX12_octetsOf fu (M30 821 42) (M30 821 43) M30 L31) (fun r34 M32 L33 => mlet (x27 + (8 * r34)) (fun x35 => fX12_bodyAnew_b328 fu a1 r48 v2 v3 v4 x35 v6 v7 v8 M32 L33))) else fX12_bodyAnew_b328 fu a1 r48 v2 v3 v4 v5 v6 v7 v8 M L)))
noncomputable def fX12_bodyAnew_b255 (fu : Nat) (a1 : Int32) (r48 : (Int32 × Int32 × Int32 × Int32 × Int32 × Int32 × Int32 × mwM × mwL) → Option (Int32 × mwM × mwL)) (v2 : Int32) (v3 : Int32) (v4 : Int32) (v5 : Int32) (v6 : Int32) (v7 : Int32) (v8 : Int32) (v10 : Int32) (M : mwM) (L : mwL) : Option (Int32 × mwM × mwL) :=
  (if v7 = 0 then (if v6 = 0 then fX12_bodyAnew_b278 fu a1 r48 v2 v3 v4 v5 v6 v7 v8 v10 v10 5 M L else fX12_bodyAnew_b278 fu a1 r48 v2 v3 v4 v5 v6 v7 v8 v10 v10 6 M L) else fX12_bodyAnew_b278 fu a1 r48 v2 v3 v4 v5 v6 v7 v8 v10 v10 8 M L)
noncomputable def fX12_bodyAnew_b231 (fu : Nat) (a1 : Int32) (r48 : (Int32 × Int32 × Int32 × Int32 × Int32 × Int32 × Int32 × mwM × mwL) → Option (Int32 × mwM × mwL)) (v2 : Int32) (v3 : Int32) (v4 : Int32) (v5 : Int32) (v6 : Int32) (v7 : Int32) (v8 : Int32) (v9 : Int32) (v10 : Int32) (M : mwM) (L : mwL) : Option (Int32 × mwM × mwL) :=
  (if (M 821 34) = (v10 + 2) then (if v7 = 0 then fX12_bodyAnew_b255 fu a1 r48 v2 v3 v4 v5 v6 v7 v8 v10 M L else (if v9 = 1 then some (2, M, L) else fX12_bodyAnew_b255 fu a1 r48 v2 v3 v4 v5 v6 v7 v8 v10 M L)) else fX12_bodyAnew_b255 fu a1 r48 v2 v3 v4 v5 v6 v7 v8 v10 M L)
noncomputable def fX12_bodyAnew_b229 (fu : Nat) (a1 : Int32) (r48 : (Int32 × Int32 × Int32 × Int32 × Int32 × Int32 × Int32 × mwM × mwL) → Option (Int32 × mwM × mwL)) (v2 : Int32) (v3 : Int32) (v4 : Int32) (v5 : Int32) (v6 : Int32) (v8 : Int32) (v9 : Int32) (v10 : Int32) (s0 : Int32) (M : mwM) (L : mwL) : Option (Int32 × mwM × mwL) :=
  fX12_bodyAnew_b231 fu a1 r48 v2 v3 v4 v5 v6 s0 v8 v9 v10 M L
noncomputable def fX12_bodyAnew_b196 (fu : Nat) (a1 : Int32) (r48 : (Int32 × Int32 × Int32 × Int32 × Int32 × Int32 × Int32 × mwM × mwL) → Option (Int32 × mwM × mwL)) (v2 : Int32) (v3 : Int32) (v4 : Int32) (v5 : Int32) (v6 : Int32) (v7 : Int32) (v8 : Int32) (v9 : Int32) (s0 : Int32) (M : mwM) (L : mwL) : Option (Int32 × mwM × mwL) :=
  (if (M 821 34) ≤ 13 then fX12_bodyAnew_b231 fu a1 r48 v2 v3 v4 v5 v6 v7 v8 v9 s0 M L else (if (M 821 34) = (s0 + 1) then (if v9 = 1 then fX12_bodyAnew_b229 fu a1 r48 v2 v3 v4 v5 v6 v8 v9 s0 1 M L else fX12_bodyAnew_b229 fu a1 r48 v2 v3 v4 v5 v6 v8 v9 s0 0 M L) else fX12_bodyAnew_b231 fu a1 r48 v2 v3 v4 v5 v6 v7 v8 v9 s0 M L))
noncomputable def fX12_bodyAnew_b184 (fu : Nat) (a1 : Int32) (r48 : (Int32 × Int32 × Int32 × Int32 × Int32 × Int32 × Int32 × mwM × mwL) → Option (Int32 × mwM × mwL)) (v2 : Int32) (v3 : Int32) (v4 : Int32) (v5 : Int32) (v6 : Int32) (v7 : Int32) (v8 : Int32) (v9 : Int32) (M : mwM) (L : mwL) : Option (Int32 × mwM × mwL) :=
  (if v6 = 0 then fX12_bodyAnew_b196 fu a1 r48 v2 v3 v4 v5 v6 v7 v8 v9 14 M L else fX12_bodyAnew_b196 fu a1 r48 v2 v3 v4 v5 v6 v7 v8 v9 33 M L)
noncomputable def fX12_bodyAnew_b182 (fu : Nat) (a1 : Int32) (r48 : (Int32 × Int32 × Int32 × Int32 × Int32 × Int32 × Int32 × mwM × mwL) → Option (Int32 × mwM × mwL)) (v2 : Int32) (v3 : Int32) (v4 : Int32) (v5 : Int32) (v7 : Int32) (v8 : Int32) (v9 : Int32) (s0 : Int32) (M : mwM) (L : mwL) : Option (Int32 × mwM × mwL) :=
  fX12_bodyAnew_b184 fu a1 r48 v2 v3 v4 v5 s0 v7 v8 v9 M L
noncomputable def fX12_bodyAnew_b135 (fu : Nat) (a1 : Int32) (r48 : (Int32 × Int32 × Int32 × Int32 × Int32 × Int32 × Int32 × mwM × mwL) → Option (Int32 × mwM × mwL)) (v2 : Int32) (v5 : Int32) (v6 : Int32) (v7 : Int32) (v8 : Int32) (v9 : Int32) (s0 : Int32) (M : mwM) (L : mwL) : Option (Int32 × mwM × mwL) :=
  mck (M 821 34) 700 (mlet (mset M 848 ((M 821 34).toNatClampNeg) (vp_nar .byte v9.toInt8.toInt32)) (fun M14 => mlet (mset M14 821 34 ((M14 821 34) + 1)) (fun M15 => (if (M15 821 34) = 14 then (if v9 = 1 then fX12_bodyAnew_b182 fu a1 r48 v2 v9 s0 v5 v7 v8 v9 1 M15 L else fX12_bodyAnew_b182 fu a1 r48 v2 v9 s0 v5 v7 v8 v9 0 M15 L) else fX12_bodyAnew_b184 fu a1 r48 v2 v9 s0 v5 v6 v7 v8 v9 M15 L))))
noncomputable def fX12_bodyAnew_i48 (fu : Nat) (a1 : Int32) (r48 : (Int32 × Int32 × Int32 × Int32 × Int32 × Int32 × Int32 × mwM × mwL) → Option (Int32 × mwM × mwL)) (v2 : Int32) (v3 : Int32) (v4 : Int32) (v5 : Int32) (v6 : Int32) (v7 : Int32) (v8 : Int32) (M : mwM) (L : mwL) : Option (Int32 × mwM × mwL) :=
  (if v2 < v8 then some ((-1), M, L) else mb3 (DX12_bitAt fu a1 v8 M L) (fun r4 M2 L3 => mb2 (DX12_check fu r4 M2 L3) (fun M5 L6 => (if v4 = 5 then (if r4 = v3 then some (1, M5, L6) else mlet (mset M5 821 46 ((M5 821 46) + 1)) (fun M10 => (if (M10 821 34) = (v5 + 15) then mlet (mset M10 821 45 (v8 + 1)) (fun M12 => some ((-1), M12, L6)) else fX12_bodyAnew_b390 fu a1 r48 v2 r4 1 v5 v6 v7 v8 M10 L6))) else (if r4 = v3 then fX12_bodyAnew_b135 fu a1 r48 v2 v5 v6 v7 v8 r4 (v4 + 1) M5 L6 else fX12_bodyAnew_b135 fu a1 r48 v2 v5 v6 v7 v8 r4 1 M5 L6)))))
noncomputable def fX12_bodyAnew_h48 (fu : Nat) (a1 : Int32) : Nat → (Int32 × Int32 × Int32 × Int32 × Int32 × Int32 × Int32 × mwM × mwL) → Option (Int32 × mwM × mwL) := mloop (fun r48 s => fX12_bodyAnew_i48 fu a1 r48 s.1 s.2.1 s.2.2.1 s.2.2.2.1 s.2.2.2.2.1 s.2.2.2.2.2.1 s.2.2.2.2.2.2.1 s.2.2.2.2.2.2.2.1 s.2.2.2.2.2.2.2.2)
noncomputable def DX12_bodyAnew (fu : Nat) (a1 : Int32) (M : mwM) (L : mwL) : Option (Int32 × mwM × mwL) :=
  mck a1 32 (mlet ((M 836 a1.toNatClampNeg) - 1) (fun x44 => mlet (mset M 821 45 ((-1))) (fun M45 => mlet (mset M45 821 46 0) (fun M46 => mlet (mset M46 821 34 0) (fun M47 => mlet (mset M47 821 41 0) (fun M48 => fX12_bodyAnew_h48 fu a1 fu (x44, 1, 0, 20000, 0, 0, 0, M48, L)))))))
set_option maxHeartbeats 4000000 in
set_option maxRecDepth 100000 in
theorem tX12_bodyAnew (l : Launch) (G : mwG) (ad : Nat → Nat) (fu : Nat) (a1 : Int32) (M : mwM) (L : mwL) {r0 : Int32} {M0 : mwM} {L0 : mwL} (hD : DX12_bodyAnew fu a1 M L = some (r0, M0, L0)) : Met l yX12_bodyAnew (Cond.code yX12_bodyAnew cX12_bodyAnew 13 ((some .int)) :: GT) ({ frames := 2, cells := 0, slots := 0, locals := 48 }) (mw_Pre G ad NF TF FF M L [.ref (ad 821), .int a1]) (mw_Qi G ad NF TF FF (mw_eqI r0 M0 L0)) 0 0 (mw_fr G) := by
  refine mw_enter (by decide) (Nat.le_of_ble_eq_true rfl) ?_
  intro p e s m below meth c ls C hr hlocks hnm hw hl
  have hl : lv_has ls 13 [(0, .ref (ad 821)), (1, .int a1)] := hl
  have hh48 : ∀ (f : Nat) (v2 : Int32) (v3 : Int32) (v4 : Int32) (v5 : Int32) (v6 : Int32) (v7 : Int32) (v8 : Int32) (M : mwM) (L : mwL) (H : Heap) (locs : List Loc) (ls : Array Slot), fX12_bodyAnew_h48 fu a1 f (v2, v3, v4, v5, v6, v7, v8, M, L) = some (r0, M0, L0) → mw_W G ad NF TF FF M L H locs → lv_has ls 13 [(0, .ref (ad 821)), (1, .int a1), (2, .int v2), (3, .int v3), (4, .int v4), (5, .int v5), (6, .int v6), (7, .int v7), (8, .int v8)] → W p l e ({ frames := 2, cells := 0, slots := 0, locals := 48 }) s m [.ref (ad 821), .int a1].toArray below meth c H locs 0 0 (MQ below (mw_Qi G ad NF TF FF (mw_eqI r0 M0 L0)) [.ref (ad 821), .int a1].toArray s 0 0 (mw_fr G)) (F0 m 48 ls []) := by
    intro f
    induction f with
    | zero => intro v2 v3 v4 v5 v6 v7 v8 M L H locs ls hD; cases hD
    | succ f48 ih48 =>
      intro v2 v3 v4 v5 v6 v7 v8 M L H locs ls hD hw hl
      replace hD : fX12_bodyAnew_i48 fu a1 (fX12_bodyAnew_h48 fu a1 f48) v2 v3 v4 v5 v6 v7 v8 M L = some (r0, M0, L0) := hD
      have hb390 : ∀ (v2 : Int32) (v3 : Int32) (v4 : Int32) (v5 : Int32) (v6 : Int32) (v7 : Int32) (v8 : Int32) (M : mwM) (L : mwL) (H : Heap) (locs : List Loc) (ls : Array Slot), fX12_bodyAnew_b390 fu a1 (fX12_bodyAnew_h48 fu a1 f48) v2 v3 v4 v5 v6 v7 v8 M L = some (r0, M0, L0) → mw_W G ad NF TF FF M L H locs → lv_has ls 13 [(0, .ref (ad 821)), (1, .int a1), (2, .int v2), (3, .int v3), (4, .int v4), (5, .int v5), (6, .int v6), (7, .int v7), (8, .int v8)] → W p l e ({ frames := 2, cells := 0, slots := 0, locals := 48 }) s m [.ref (ad 821), .int a1].toArray below meth c H locs 0 0 (MQ below (mw_Qi G ad NF TF FF (mw_eqI r0 M0 L0)) [.ref (ad 821), .int a1].toArray s 0 0 (mw_fr G)) (F0 m 390 ls []) := by
        intro v2 v3 v4 v5 v6 v7 v8 M L H locs ls hD hw hl
        unfold fX12_bodyAnew_b390 at hD
        obtain ⟨x42, ex42, hD⟩ := g_let hD
        refine lv_iinc (v := x42) (lv' := [(8, .int x42), (0, .ref (ad 821)), (1, .int a1), (2, .int v2), (3, .int v3), (4, .int v4), (5, .int v5), (6, .int v6), (7, .int v7)]) C.1.1 C.1.2.1 dX12_bodyAnew_390 hl (k := 8) rfl (by rw [ex42]; rfl) (by decide) rfl (fun ls hl => ?_)
        refine lv_goto (tgt := 48) C.1.1 C.1.2.1 dX12_bodyAnew_393 (by decide) ?_
        exact ih48 v2 v3 v4 v5 v6 v7 x42 M L _ _ ls hD hw (lv_sub hl [1, 2, 3, 4, 5, 6, 7, 8, 0] rfl)
      have hb373 : ∀ (v2 : Int32) (v3 : Int32) (v4 : Int32) (v5 : Int32) (v6 : Int32) (v7 : Int32) (v8 : Int32) (s0 : Int32) (M : mwM) (L : mwL) (H : Heap) (locs : List Loc) (ls : Array Slot), fX12_bodyAnew_b373 fu a1 (fX12_bodyAnew_h48 fu a1 f48) v2 v3 v4 v5 v6 v7 v8 s0 M L = some (r0, M0, L0) → mw_W G ad NF TF FF M L H locs → lv_has ls 13 [(0, .ref (ad 821)), (1, .int a1), (2, .int v2), (3, .int v3), (4, .int v4), (5, .int v5), (6, .int v6), (7, .int v7), (8, .int v8)] → W p l e ({ frames := 2, cells := 0, slots := 0, locals := 48 }) s m [.ref (ad 821), .int a1].toArray below meth c H locs 0 0 (MQ below (mw_Qi G ad NF TF FF (mw_eqI r0 M0 L0)) [.ref (ad 821), .int a1].toArray s 0 0 (mw_fr G)) (F0 m 373 ls [.int s0]) := by
        intro v2 v3 v4 v5 v6 v7 v8 s0 M L H locs ls hD hw hl
        unfold fX12_bodyAnew_b373 at hD
        refine lv_istore (lv' := [(12, .int s0), (0, .ref (ad 821)), (1, .int a1), (2, .int v2), (3, .int v3), (4, .int v4), (5, .int v5), (6, .int v6), (7, .int v7), (8, .int v8)]) C.1.1 C.1.2.1 dX12_bodyAnew_373 hl (by decide) rfl (fun ls hl => ?_)
        refine lv_iload C.1.1 C.1.2.1 dX12_bodyAnew_375 (lv_at hl 0 rfl) ?_
        refine lv_if_eq (tgt := 390) C.1.1 C.1.2.1 dX12_bodyAnew_377 (by decide) (fun c40 => ?_) (fun c40 => ?_)
        · replace hD := g_pos c40 hD
          exact hb390 v2 v3 v4 v5 v6 v7 v8 M L _ _ ls hD hw (lv_sub hl [1, 2, 3, 4, 5, 6, 7, 8, 9] rfl)
        · replace hD := g_neg c40 hD
          refine lv_aload_n C.1.1 C.1.2.1 dX12_bodyAnew_380 rfl (lv_at hl 1 rfl) ?_
          refine lv_iload C.1.1 C.1.2.1 dX12_bodyAnew_381 (lv_at hl 9 rfl) ?_
          refine lv_iconst (v := 1) C.1.1 C.1.2.1 dX12_bodyAnew_383 (by decide) ?_
          refine lv_iadd C.1.1 C.1.2.1 dX12_bodyAnew_384 ?_
          obtain ⟨M41, eM41, hD⟩ := g_let hD
          refine mr_putI C hw kc_12 45 (by decide) tf_821 wd_2145 dX12_bodyAnew_385 (by decide) rfl rfl rfl rfl (fun H locs hw => ?_)
          replace hw : mw_W G ad NF TF FF M41 L H locs := by rw [eM41]; exact hw
          refine lv_iconst (v := (-1)) C.1.1 C.1.2.1 dX12_bodyAnew_388 (by decide) ?_
          exact mr_iret C hr hlocks hw rfl (Option.some.inj hD) dX12_bodyAnew_389
      have hb372 : ∀ (v2 : Int32) (v3 : Int32) (v4 : Int32) (v5 : Int32) (v6 : Int32) (v7 : Int32) (v8 : Int32) (M : mwM) (L : mwL) (H : Heap) (locs : List Loc) (ls : Array Slot), fX12_bodyAnew_b372 fu a1 (fX12_bodyAnew_h48 fu a1 f48) v2 v3 v4 v5 v6 v7 v8 M L = some (r0, M0, L0) → mw_W G ad NF TF FF M L H locs → lv_has ls 13 [(0, .ref (ad 821)), (1, .int a1), (2, .int v2), (3, .int v3), (4, .int v4), (5, .int v5), (6, .int v6), (7, .int v7), (8, .int v8)] → W p l e ({ frames := 2, cells := 0, slots := 0, locals := 48 }) s m [.ref (ad 821), .int a1].toArray below meth c H locs 0 0 (MQ below (mw_Qi G ad NF TF FF (mw_eqI r0 M0 L0)) [.ref (ad 821), .int a1].toArray s 0 0 (mw_fr G)) (F0 m 372 ls []) := by
        intro v2 v3 v4 v5 v6 v7 v8 M L H locs ls hD hw hl
        unfold fX12_bodyAnew_b372 at hD
        refine lv_iconst (v := 0) C.1.1 C.1.2.1 dX12_bodyAnew_372 (by decide) ?_
        exact hb373 v2 v3 v4 v5 v6 v7 v8 0 M L _ _ ls hD hw (lv_sub hl [0, 1, 2, 3, 4, 5, 6, 7, 8] rfl)
      have hb328 : ∀ (v2 : Int32) (v3 : Int32) (v4 : Int32) (v5 : Int32) (v6 : Int32) (v7 : Int32) (v8 : Int32) (M : mwM) (L : mwL) (H : Heap) (locs : List Loc) (ls : Array Slot), fX12_bodyAnew_b328 fu a1 (fX12_bodyAnew_h48 fu a1 f48) v2 v3 v4 v5 v6 v7 v8 M L = some (r0, M0, L0) → mw_W G ad NF TF FF M L H locs → lv_has ls 13 [(0, .ref (ad 821)), (1, .int a1), (2, .int v2), (3, .int v3), (4, .int v4), (5, .int v5), (6, .int v6), (7, .int v7), (8, .int v8)] → W p l e ({ frames := 2, cells := 0, slots := 0, locals := 48 }) s m [.ref (ad 821), .int a1].toArray below meth c H locs 0 0 (MQ below (mw_Qi G ad NF TF FF (mw_eqI r0 M0 L0)) [.ref (ad 821), .int a1].toArray s 0 0 (mw_fr G)) (F0 m 328 ls []) := by
        intro v2 v3 v4 v5 v6 v7 v8 M L H locs ls hD hw hl
        unfold fX12_bodyAnew_b328 at hD
        refine lv_iload C.1.1 C.1.2.1 dX12_bodyAnew_328 (lv_at hl 7 rfl) ?_
        refine lv_if_eq (tgt := 350) C.1.1 C.1.2.1 dX12_bodyAnew_330 (by decide) (fun c36 => ?_) (fun c36 => ?_)
        · replace hD := g_pos c36 hD
          refine lv_aload_n C.1.1 C.1.2.1 dX12_bodyAnew_350 rfl (lv_at hl 0 rfl) ?_
          refine mr_getI C hw kc_12 34 (by decide) tf_821 wd_2134 dX12_bodyAnew_351 (by decide) rfl ?_
          refine lv_iload C.1.1 C.1.2.1 dX12_bodyAnew_354 (lv_at hl 5 rfl) ?_
          refine lv_bipush (v := 15) C.1.1 C.1.2.1 dX12_bodyAnew_356 (by decide) ?_
          refine lv_iadd C.1.1 C.1.2.1 dX12_bodyAnew_358 ?_
          refine lv_icmp_ne (tgt := 372) C.1.1 C.1.2.1 dX12_bodyAnew_359 (by decide) (fun c37 => ?_) (fun c37 => ?_)
          · replace hD := g_neg c37 hD
            exact hb372 v2 v3 v4 v5 v6 v7 v8 M L _ _ ls hD hw (lv_sub hl [0, 1, 2, 3, 4, 5, 6, 7, 8] rfl)
          · replace hD := g_pos c37 hD
            refine lv_iload C.1.1 C.1.2.1 dX12_bodyAnew_362 (lv_at hl 4 rfl) ?_
            refine lv_iconst (v := 5) C.1.1 C.1.2.1 dX12_bodyAnew_364 (by decide) ?_
            refine lv_icmp_ge (tgt := 372) C.1.1 C.1.2.1 dX12_bodyAnew_365 (by decide) (fun c38 => ?_) (fun c38 => ?_)
            · replace hD := g_pos c38 hD
              exact hb372 v2 v3 v4 v5 v6 v7 v8 M L _ _ ls hD hw (lv_sub hl [0, 1, 2, 3, 4, 5, 6, 7, 8] rfl)
            · replace hD := g_neg c38 hD
              refine lv_iconst (v := 1) C.1.1 C.1.2.1 dX12_bodyAnew_368 (by decide) ?_
              refine lv_goto (tgt := 373) C.1.1 C.1.2.1 dX12_bodyAnew_369 (by decide) ?_
              exact hb373 v2 v3 v4 v5 v6 v7 v8 1 M L _ _ ls hD hw (lv_sub hl [0, 1, 2, 3, 4, 5, 6, 7, 8] rfl)
        · replace hD := g_neg c36 hD
          refine lv_aload_n C.1.1 C.1.2.1 dX12_bodyAnew_333 rfl (lv_at hl 0 rfl) ?_
          refine mr_getI C hw kc_12 34 (by decide) tf_821 wd_2134 dX12_bodyAnew_334 (by decide) rfl ?_
          refine lv_iload C.1.1 C.1.2.1 dX12_bodyAnew_337 (lv_at hl 5 rfl) ?_
          refine lv_icmp_ne (tgt := 346) C.1.1 C.1.2.1 dX12_bodyAnew_339 (by decide) (fun c39 => ?_) (fun c39 => ?_)
          · replace hD := g_neg c39 hD
            refine lv_iconst (v := 0) C.1.1 C.1.2.1 dX12_bodyAnew_346 (by decide) ?_
            refine lv_goto (tgt := 373) C.1.1 C.1.2.1 dX12_bodyAnew_347 (by decide) ?_
            exact hb373 v2 v3 v4 v5 v6 v7 v8 0 M L _ _ ls hD hw (lv_sub hl [0, 1, 2, 3, 4, 5, 6, 7, 8] rfl)
          · replace hD := g_pos c39 hD
            refine lv_iconst (v := 1) C.1.1 C.1.2.1 dX12_bodyAnew_342 (by decide) ?_
            refine lv_goto (tgt := 373) C.1.1 C.1.2.1 dX12_bodyAnew_343 (by decide) ?_
            exact hb373 v2 v3 v4 v5 v6 v7 v8 1 M L _ _ ls hD hw (lv_sub hl [0, 1, 2, 3, 4, 5, 6, 7, 8] rfl)
      have hb278 : ∀ (v2 : Int32) (v3 : Int32) (v4 : Int32) (v5 : Int32) (v6 : Int32) (v7 : Int32) (v8 : Int32) (v10 : Int32) (s0 : Int32) (s1 : Int32) (M : mwM) (L : mwL) (H : Heap) (locs : List Loc) (ls : Array Slot), fX12_bodyAnew_b278 fu a1 (fX12_bodyAnew_h48 fu a1 f48) v2 v3 v4 v5 v6 v7 v8 v10 s0 s1 M L = some (r0, M0, L0) → mw_W G ad NF TF FF M L H locs → lv_has ls 13 [(0, .ref (ad 821)), (1, .int a1), (2, .int v2), (3, .int v3), (4, .int v4), (5, .int v5), (6, .int v6), (7, .int v7), (8, .int v8), (10, .int v10)] → W p l e ({ frames := 2, cells := 0, slots := 0, locals := 48 }) s m [.ref (ad 821), .int a1].toArray below meth c H locs 0 0 (MQ below (mw_Qi G ad NF TF FF (mw_eqI r0 M0 L0)) [.ref (ad 821), .int a1].toArray s 0 0 (mw_fr G)) (F0 m 278 ls [.int s1, .int s0]) := by
        intro v2 v3 v4 v5 v6 v7 v8 v10 s0 s1 M L H locs ls hD hw hl
        unfold fX12_bodyAnew_b278 at hD
        refine lv_iadd C.1.1 C.1.2.1 dX12_bodyAnew_278 ?_
        obtain ⟨x27, ex27, hD⟩ := g_let hD
        refine W.eq (g2 := F0 m 279 ls (.int x27 :: [])) (by rw [ex27]) ?_
        refine lv_istore (lv' := [(11, .int x27), (0, .ref (ad 821)), (1, .int a1), (2, .int v2), (3, .int v3), (4, .int v4), (5, .int v5), (6, .int v6), (7, .int v7), (8, .int v8), (10, .int v10)]) C.1.1 C.1.2.1 dX12_bodyAnew_279 hl (by decide) rfl (fun ls hl => ?_)
        refine lv_aload_n C.1.1 C.1.2.1 dX12_bodyAnew_281 rfl (lv_at hl 1 rfl) ?_
        refine mr_getI C hw kc_12 34 (by decide) tf_821 wd_2134 dX12_bodyAnew_282 (by decide) rfl ?_
        refine lv_iload C.1.1 C.1.2.1 dX12_bodyAnew_285 (lv_at hl 10 rfl) ?_
        refine lv_icmp_le (tgt := 328) C.1.1 C.1.2.1 dX12_bodyAnew_287 (by decide) (fun c28 => ?_) (fun c28 => ?_)
        · replace hD := g_pos c28 hD
          exact hb328 v2 v3 v4 v5 v6 v7 v8 M L _ _ ls hD hw (lv_sub hl [1, 2, 3, 4, 5, 6, 7, 8, 9] rfl)
        · replace hD := g_neg c28 hD
          refine lv_aload_n C.1.1 C.1.2.1 dX12_bodyAnew_290 rfl (lv_at hl 1 rfl) ?_
          refine mr_getI C hw kc_12 34 (by decide) tf_821 wd_2134 dX12_bodyAnew_291 (by decide) rfl ?_
          refine lv_iload C.1.1 C.1.2.1 dX12_bodyAnew_294 (lv_at hl 0 rfl) ?_
          refine lv_icmp_ne (tgt := 328) C.1.1 C.1.2.1 dX12_bodyAnew_296 (by decide) (fun c29 => ?_) (fun c29 => ?_)
          · replace hD := g_neg c29 hD
            exact hb328 v2 v3 v4 v5 v6 v7 v8 M L _ _ ls hD hw (lv_sub hl [1, 2, 3, 4, 5, 6, 7, 8, 9] rfl)
          · replace hD := g_pos c29 hD
            refine lv_aload_n C.1.1 C.1.2.1 dX12_bodyAnew_299 rfl (lv_at hl 1 rfl) ?_
            refine lv_iload C.1.1 C.1.2.1 dX12_bodyAnew_300 (lv_at hl 7 rfl) ?_
            refine lv_iload C.1.1 C.1.2.1 dX12_bodyAnew_302 (lv_at hl 8 rfl) ?_
            refine lv_iload C.1.1 C.1.2.1 dX12_bodyAnew_304 (lv_at hl 0 rfl) ?_
            obtain ⟨M30, L31, h1, hD⟩ := g_b2 hD
            refine md_cvV (As := [.int v6, .int v7, .int x27]) (rest := []) C hw (tX12_find l G ad fu v6 v7 x27 M L h1) kc_12 (by decide) tf_821 wd_3715 cwX12_find ⟨Nat.le_of_ble_eq_true rfl, Nat.le_of_ble_eq_true rfl⟩ rfl hl.1 (Nat.le_of_ble_eq_true rfl) dX12_bodyAnew_306 rfl rfl ⟨Nat.zero_le _, Nat.zero_le _⟩ rfl (fun H locs hw => ?_)
            refine lv_iload C.1.1 C.1.2.1 dX12_bodyAnew_309 (lv_at hl 0 rfl) ?_
            refine lv_bipush (v := 8) C.1.1 C.1.2.1 dX12_bodyAnew_311 (by decide) ?_
            refine lv_aload_n C.1.1 C.1.2.1 dX12_bodyAnew_313 rfl (lv_at hl 1 rfl) ?_
            refine mr_getI C hw kc_12 42 (by decide) tf_821 wd_2142 dX12_bodyAnew_314 (by decide) rfl ?_
            refine lv_aload_n C.1.1 C.1.2.1 dX12_bodyAnew_317 rfl (lv_at hl 1 rfl) ?_
            refine mr_getI C hw kc_12 43 (by decide) tf_821 wd_2143 dX12_bodyAnew_318 (by decide) rfl ?_
            obtain ⟨r34, M32, L33, h1, hD⟩ := g_b3 hD
            refine md_csI (As := [.int (M30 821 42), .int (M30 821 43)]) (rest := [.int 8, .int x27]) C hw (tX12_octetsOf l G ad fu (M30 821 42) (M30 821 43) M30 L31 h1) wd_3639 cwX12_octetsOf ⟨Nat.le_of_ble_eq_true rfl, Nat.le_of_ble_eq_true rfl⟩ rfl hl.1 (Nat.le_of_ble_eq_true rfl) dX12_bodyAnew_321 rfl rfl ⟨Nat.zero_le _, Nat.zero_le _⟩ rfl (fun H locs hw => ?_)
            refine lv_imul C.1.1 C.1.2.1 dX12_bodyAnew_324 ?_
            refine lv_iadd C.1.1 C.1.2.1 dX12_bodyAnew_325 ?_
            obtain ⟨x35, ex35, hD⟩ := g_let hD
            refine W.eq (g2 := F0 m 326 ls (.int x35 :: [])) (by rw [ex35]) ?_
            refine lv_istore (lv' := [(5, .int x35), (11, .int x27), (0, .ref (ad 821)), (1, .int a1), (2, .int v2), (3, .int v3), (4, .int v4), (6, .int v6), (7, .int v7), (8, .int v8), (10, .int v10)]) C.1.1 C.1.2.1 dX12_bodyAnew_326 hl (by decide) rfl (fun ls hl => ?_)
            exact hb328 v2 v3 v4 x35 v6 v7 v8 M32 L33 _ _ ls hD hw (lv_sub hl [2, 3, 4, 5, 6, 0, 7, 8, 9] rfl)
      have hb255 : ∀ (v2 : Int32) (v3 : Int32) (v4 : Int32) (v5 : Int32) (v6 : Int32) (v7 : Int32) (v8 : Int32) (v10 : Int32) (M : mwM) (L : mwL) (H : Heap) (locs : List Loc) (ls : Array Slot), fX12_bodyAnew_b255 fu a1 (fX12_bodyAnew_h48 fu a1 f48) v2 v3 v4 v5 v6 v7 v8 v10 M L = some (r0, M0, L0) → mw_W G ad NF TF FF M L H locs → lv_has ls 13 [(0, .ref (ad 821)), (1, .int a1), (2, .int v2), (3, .int v3), (4, .int v4), (5, .int v5), (6, .int v6), (7, .int v7), (8, .int v8), (10, .int v10)] → W p l e ({ frames := 2, cells := 0, slots := 0, locals := 48 }) s m [.ref (ad 821), .int a1].toArray below meth c H locs 0 0 (MQ below (mw_Qi G ad NF TF FF (mw_eqI r0 M0 L0)) [.ref (ad 821), .int a1].toArray s 0 0 (mw_fr G)) (F0 m 255 ls []) := by
        intro v2 v3 v4 v5 v6 v7 v8 v10 M L H locs ls hD hw hl
        unfold fX12_bodyAnew_b255 at hD
        refine lv_iload C.1.1 C.1.2.1 dX12_bodyAnew_255 (lv_at hl 9 rfl) ?_
        refine lv_iload C.1.1 C.1.2.1 dX12_bodyAnew_257 (lv_at hl 7 rfl) ?_
        refine lv_if_eq (tgt := 267) C.1.1 C.1.2.1 dX12_bodyAnew_259 (by decide) (fun c25 => ?_) (fun c25 => ?_)
        · replace hD := g_pos c25 hD
          refine lv_iload C.1.1 C.1.2.1 dX12_bodyAnew_267 (lv_at hl 6 rfl) ?_
          refine lv_if_eq (tgt := 277) C.1.1 C.1.2.1 dX12_bodyAnew_269 (by decide) (fun c26 => ?_) (fun c26 => ?_)
          · replace hD := g_pos c26 hD
            refine lv_iconst (v := 5) C.1.1 C.1.2.1 dX12_bodyAnew_277 (by decide) ?_
            exact hb278 v2 v3 v4 v5 v6 v7 v8 v10 v10 5 M L _ _ ls hD hw (lv_sub hl [0, 1, 2, 3, 4, 5, 6, 7, 8, 9] rfl)
          · replace hD := g_neg c26 hD
            refine lv_bipush (v := 6) C.1.1 C.1.2.1 dX12_bodyAnew_272 (by decide) ?_
            refine lv_goto (tgt := 278) C.1.1 C.1.2.1 dX12_bodyAnew_274 (by decide) ?_
            exact hb278 v2 v3 v4 v5 v6 v7 v8 v10 v10 6 M L _ _ ls hD hw (lv_sub hl [0, 1, 2, 3, 4, 5, 6, 7, 8, 9] rfl)
        · replace hD := g_neg c25 hD
          refine lv_bipush (v := 8) C.1.1 C.1.2.1 dX12_bodyAnew_262 (by decide) ?_
          refine lv_goto (tgt := 278) C.1.1 C.1.2.1 dX12_bodyAnew_264 (by decide) ?_
          exact hb278 v2 v3 v4 v5 v6 v7 v8 v10 v10 8 M L _ _ ls hD hw (lv_sub hl [0, 1, 2, 3, 4, 5, 6, 7, 8, 9] rfl)
      have hb231 : ∀ (v2 : Int32) (v3 : Int32) (v4 : Int32) (v5 : Int32) (v6 : Int32) (v7 : Int32) (v8 : Int32) (v9 : Int32) (v10 : Int32) (M : mwM) (L : mwL) (H : Heap) (locs : List Loc) (ls : Array Slot), fX12_bodyAnew_b231 fu a1 (fX12_bodyAnew_h48 fu a1 f48) v2 v3 v4 v5 v6 v7 v8 v9 v10 M L = some (r0, M0, L0) → mw_W G ad NF TF FF M L H locs → lv_has ls 13 [(0, .ref (ad 821)), (1, .int a1), (2, .int v2), (3, .int v3), (4, .int v4), (5, .int v5), (6, .int v6), (7, .int v7), (8, .int v8), (9, .int v9), (10, .int v10)] → W p l e ({ frames := 2, cells := 0, slots := 0, locals := 48 }) s m [.ref (ad 821), .int a1].toArray below meth c H locs 0 0 (MQ below (mw_Qi G ad NF TF FF (mw_eqI r0 M0 L0)) [.ref (ad 821), .int a1].toArray s 0 0 (mw_fr G)) (F0 m 231 ls []) := by
        intro v2 v3 v4 v5 v6 v7 v8 v9 v10 M L H locs ls hD hw hl
        unfold fX12_bodyAnew_b231 at hD
        refine lv_aload_n C.1.1 C.1.2.1 dX12_bodyAnew_231 rfl (lv_at hl 0 rfl) ?_
        refine mr_getI C hw kc_12 34 (by decide) tf_821 wd_2134 dX12_bodyAnew_232 (by decide) rfl ?_
        refine lv_iload C.1.1 C.1.2.1 dX12_bodyAnew_235 (lv_at hl 10 rfl) ?_
        refine lv_iconst (v := 2) C.1.1 C.1.2.1 dX12_bodyAnew_237 (by decide) ?_
        refine lv_iadd C.1.1 C.1.2.1 dX12_bodyAnew_238 ?_
        refine lv_icmp_ne (tgt := 255) C.1.1 C.1.2.1 dX12_bodyAnew_239 (by decide) (fun c22 => ?_) (fun c22 => ?_)
        · replace hD := g_neg c22 hD
          exact hb255 v2 v3 v4 v5 v6 v7 v8 v10 M L _ _ ls hD hw (lv_sub hl [0, 1, 2, 3, 4, 5, 6, 7, 8, 10] rfl)
        · replace hD := g_pos c22 hD
          refine lv_iload C.1.1 C.1.2.1 dX12_bodyAnew_242 (lv_at hl 7 rfl) ?_
          refine lv_if_eq (tgt := 255) C.1.1 C.1.2.1 dX12_bodyAnew_244 (by decide) (fun c23 => ?_) (fun c23 => ?_)
          · replace hD := g_pos c23 hD
            exact hb255 v2 v3 v4 v5 v6 v7 v8 v10 M L _ _ ls hD hw (lv_sub hl [0, 1, 2, 3, 4, 5, 6, 7, 8, 10] rfl)
          · replace hD := g_neg c23 hD
            refine lv_iload C.1.1 C.1.2.1 dX12_bodyAnew_247 (lv_at hl 9 rfl) ?_
            refine lv_iconst (v := 1) C.1.1 C.1.2.1 dX12_bodyAnew_249 (by decide) ?_
            refine lv_icmp_ne (tgt := 255) C.1.1 C.1.2.1 dX12_bodyAnew_250 (by decide) (fun c24 => ?_) (fun c24 => ?_)
            · replace hD := g_neg c24 hD
              exact hb255 v2 v3 v4 v5 v6 v7 v8 v10 M L _ _ ls hD hw (lv_sub hl [0, 1, 2, 3, 4, 5, 6, 7, 8, 10] rfl)
            · replace hD := g_pos c24 hD
              refine lv_iconst (v := 2) C.1.1 C.1.2.1 dX12_bodyAnew_253 (by decide) ?_
              exact mr_iret C hr hlocks hw rfl (Option.some.inj hD) dX12_bodyAnew_254
      have hb229 : ∀ (v2 : Int32) (v3 : Int32) (v4 : Int32) (v5 : Int32) (v6 : Int32) (v8 : Int32) (v9 : Int32) (v10 : Int32) (s0 : Int32) (M : mwM) (L : mwL) (H : Heap) (locs : List Loc) (ls : Array Slot), fX12_bodyAnew_b229 fu a1 (fX12_bodyAnew_h48 fu a1 f48) v2 v3 v4 v5 v6 v8 v9 v10 s0 M L = some (r0, M0, L0) → mw_W G ad NF TF FF M L H locs → lv_has ls 13 [(0, .ref (ad 821)), (1, .int a1), (2, .int v2), (3, .int v3), (4, .int v4), (5, .int v5), (6, .int v6), (8, .int v8), (9, .int v9), (10, .int v10)] → W p l e ({ frames := 2, cells := 0, slots := 0, locals := 48 }) s m [.ref (ad 821), .int a1].toArray below meth c H locs 0 0 (MQ below (mw_Qi G ad NF TF FF (mw_eqI r0 M0 L0)) [.ref (ad 821), .int a1].toArray s 0 0 (mw_fr G)) (F0 m 229 ls [.int s0]) := by
        intro v2 v3 v4 v5 v6 v8 v9 v10 s0 M L H locs ls hD hw hl
        unfold fX12_bodyAnew_b229 at hD
        refine lv_istore (lv' := [(7, .int s0), (0, .ref (ad 821)), (1, .int a1), (2, .int v2), (3, .int v3), (4, .int v4), (5, .int v5), (6, .int v6), (8, .int v8), (9, .int v9), (10, .int v10)]) C.1.1 C.1.2.1 dX12_bodyAnew_229 hl (by decide) rfl (fun ls hl => ?_)
        exact hb231 v2 v3 v4 v5 v6 s0 v8 v9 v10 M L _ _ ls hD hw (lv_sub hl [1, 2, 3, 4, 5, 6, 7, 0, 8, 9, 10] rfl)
      have hb196 : ∀ (v2 : Int32) (v3 : Int32) (v4 : Int32) (v5 : Int32) (v6 : Int32) (v7 : Int32) (v8 : Int32) (v9 : Int32) (s0 : Int32) (M : mwM) (L : mwL) (H : Heap) (locs : List Loc) (ls : Array Slot), fX12_bodyAnew_b196 fu a1 (fX12_bodyAnew_h48 fu a1 f48) v2 v3 v4 v5 v6 v7 v8 v9 s0 M L = some (r0, M0, L0) → mw_W G ad NF TF FF M L H locs → lv_has ls 13 [(0, .ref (ad 821)), (1, .int a1), (2, .int v2), (3, .int v3), (4, .int v4), (5, .int v5), (6, .int v6), (7, .int v7), (8, .int v8), (9, .int v9)] → W p l e ({ frames := 2, cells := 0, slots := 0, locals := 48 }) s m [.ref (ad 821), .int a1].toArray below meth c H locs 0 0 (MQ below (mw_Qi G ad NF TF FF (mw_eqI r0 M0 L0)) [.ref (ad 821), .int a1].toArray s 0 0 (mw_fr G)) (F0 m 196 ls [.int s0]) := by
        intro v2 v3 v4 v5 v6 v7 v8 v9 s0 M L H locs ls hD hw hl
        unfold fX12_bodyAnew_b196 at hD
        refine lv_istore (lv' := [(10, .int s0), (0, .ref (ad 821)), (1, .int a1), (2, .int v2), (3, .int v3), (4, .int v4), (5, .int v5), (6, .int v6), (7, .int v7), (8, .int v8), (9, .int v9)]) C.1.1 C.1.2.1 dX12_bodyAnew_196 hl (by decide) rfl (fun ls hl => ?_)
        refine lv_aload_n C.1.1 C.1.2.1 dX12_bodyAnew_198 rfl (lv_at hl 1 rfl) ?_
        refine mr_getI C hw kc_12 34 (by decide) tf_821 wd_2134 dX12_bodyAnew_199 (by decide) rfl ?_
        refine lv_bipush (v := 13) C.1.1 C.1.2.1 dX12_bodyAnew_202 (by decide) ?_
        refine lv_icmp_le (tgt := 231) C.1.1 C.1.2.1 dX12_bodyAnew_204 (by decide) (fun c19 => ?_) (fun c19 => ?_)
        · replace hD := g_pos c19 hD
          exact hb231 v2 v3 v4 v5 v6 v7 v8 v9 s0 M L _ _ ls hD hw (lv_sub hl [1, 2, 3, 4, 5, 6, 7, 8, 9, 10, 0] rfl)
        · replace hD := g_neg c19 hD
          refine lv_aload_n C.1.1 C.1.2.1 dX12_bodyAnew_207 rfl (lv_at hl 1 rfl) ?_
          refine mr_getI C hw kc_12 34 (by decide) tf_821 wd_2134 dX12_bodyAnew_208 (by decide) rfl ?_
          refine lv_iload C.1.1 C.1.2.1 dX12_bodyAnew_211 (lv_at hl 0 rfl) ?_
          refine lv_iconst (v := 1) C.1.1 C.1.2.1 dX12_bodyAnew_213 (by decide) ?_
          refine lv_iadd C.1.1 C.1.2.1 dX12_bodyAnew_214 ?_
          refine lv_icmp_ne (tgt := 231) C.1.1 C.1.2.1 dX12_bodyAnew_215 (by decide) (fun c20 => ?_) (fun c20 => ?_)
          · replace hD := g_neg c20 hD
            exact hb231 v2 v3 v4 v5 v6 v7 v8 v9 s0 M L _ _ ls hD hw (lv_sub hl [1, 2, 3, 4, 5, 6, 7, 8, 9, 10, 0] rfl)
          · replace hD := g_pos c20 hD
            refine lv_iload C.1.1 C.1.2.1 dX12_bodyAnew_218 (lv_at hl 10 rfl) ?_
            refine lv_iconst (v := 1) C.1.1 C.1.2.1 dX12_bodyAnew_220 (by decide) ?_
            refine lv_icmp_ne (tgt := 228) C.1.1 C.1.2.1 dX12_bodyAnew_221 (by decide) (fun c21 => ?_) (fun c21 => ?_)
            · replace hD := g_neg c21 hD
              refine lv_iconst (v := 0) C.1.1 C.1.2.1 dX12_bodyAnew_228 (by decide) ?_
              exact hb229 v2 v3 v4 v5 v6 v8 v9 s0 0 M L _ _ ls hD hw (lv_sub hl [1, 2, 3, 4, 5, 6, 7, 9, 10, 0] rfl)
            · replace hD := g_pos c21 hD
              refine lv_iconst (v := 1) C.1.1 C.1.2.1 dX12_bodyAnew_224 (by decide) ?_
              refine lv_goto (tgt := 229) C.1.1 C.1.2.1 dX12_bodyAnew_225 (by decide) ?_
              exact hb229 v2 v3 v4 v5 v6 v8 v9 s0 1 M L _ _ ls hD hw (lv_sub hl [1, 2, 3, 4, 5, 6, 7, 9, 10, 0] rfl)
      have hb184 : ∀ (v2 : Int32) (v3 : Int32) (v4 : Int32) (v5 : Int32) (v6 : Int32) (v7 : Int32) (v8 : Int32) (v9 : Int32) (M : mwM) (L : mwL) (H : Heap) (locs : List Loc) (ls : Array Slot), fX12_bodyAnew_b184 fu a1 (fX12_bodyAnew_h48 fu a1 f48) v2 v3 v4 v5 v6 v7 v8 v9 M L = some (r0, M0, L0) → mw_W G ad NF TF FF M L H locs → lv_has ls 13 [(0, .ref (ad 821)), (1, .int a1), (2, .int v2), (3, .int v3), (4, .int v4), (5, .int v5), (6, .int v6), (7, .int v7), (8, .int v8), (9, .int v9)] → W p l e ({ frames := 2, cells := 0, slots := 0, locals := 48 }) s m [.ref (ad 821), .int a1].toArray below meth c H locs 0 0 (MQ below (mw_Qi G ad NF TF FF (mw_eqI r0 M0 L0)) [.ref (ad 821), .int a1].toArray s 0 0 (mw_fr G)) (F0 m 184 ls []) := by
        intro v2 v3 v4 v5 v6 v7 v8 v9 M L H locs ls hD hw hl
        unfold fX12_bodyAnew_b184 at hD
        refine lv_iload C.1.1 C.1.2.1 dX12_bodyAnew_184 (lv_at hl 6 rfl) ?_
        refine lv_if_eq (tgt := 194) C.1.1 C.1.2.1 dX12_bodyAnew_186 (by decide) (fun c18 => ?_) (fun c18 => ?_)
        · replace hD := g_pos c18 hD
          refine lv_bipush (v := 14) C.1.1 C.1.2.1 dX12_bodyAnew_194 (by decide) ?_
          exact hb196 v2 v3 v4 v5 v6 v7 v8 v9 14 M L _ _ ls hD hw (lv_sub hl [0, 1, 2, 3, 4, 5, 6, 7, 8, 9] rfl)
        · replace hD := g_neg c18 hD
          refine lv_bipush (v := 33) C.1.1 C.1.2.1 dX12_bodyAnew_189 (by decide) ?_
          refine lv_goto (tgt := 196) C.1.1 C.1.2.1 dX12_bodyAnew_191 (by decide) ?_
          exact hb196 v2 v3 v4 v5 v6 v7 v8 v9 33 M L _ _ ls hD hw (lv_sub hl [0, 1, 2, 3, 4, 5, 6, 7, 8, 9] rfl)
      have hb182 : ∀ (v2 : Int32) (v3 : Int32) (v4 : Int32) (v5 : Int32) (v7 : Int32) (v8 : Int32) (v9 : Int32) (s0 : Int32) (M : mwM) (L : mwL) (H : Heap) (locs : List Loc) (ls : Array Slot), fX12_bodyAnew_b182 fu a1 (fX12_bodyAnew_h48 fu a1 f48) v2 v3 v4 v5 v7 v8 v9 s0 M L = some (r0, M0, L0) → mw_W G ad NF TF FF M L H locs → lv_has ls 13 [(0, .ref (ad 821)), (1, .int a1), (2, .int v2), (3, .int v3), (4, .int v4), (5, .int v5), (7, .int v7), (8, .int v8), (9, .int v9)] → W p l e ({ frames := 2, cells := 0, slots := 0, locals := 48 }) s m [.ref (ad 821), .int a1].toArray below meth c H locs 0 0 (MQ below (mw_Qi G ad NF TF FF (mw_eqI r0 M0 L0)) [.ref (ad 821), .int a1].toArray s 0 0 (mw_fr G)) (F0 m 182 ls [.int s0]) := by
        intro v2 v3 v4 v5 v7 v8 v9 s0 M L H locs ls hD hw hl
        unfold fX12_bodyAnew_b182 at hD
        refine lv_istore (lv' := [(6, .int s0), (0, .ref (ad 821)), (1, .int a1), (2, .int v2), (3, .int v3), (4, .int v4), (5, .int v5), (7, .int v7), (8, .int v8), (9, .int v9)]) C.1.1 C.1.2.1 dX12_bodyAnew_182 hl (by decide) rfl (fun ls hl => ?_)
        exact hb184 v2 v3 v4 v5 s0 v7 v8 v9 M L _ _ ls hD hw (lv_sub hl [1, 2, 3, 4, 5, 6, 0, 7, 8, 9] rfl)
      have hb135 : ∀ (v2 : Int32) (v5 : Int32) (v6 : Int32) (v7 : Int32) (v8 : Int32) (v9 : Int32) (s0 : Int32) (M : mwM) (L : mwL) (H : Heap) (locs : List Loc) (ls : Array Slot), fX12_bodyAnew_b135 fu a1 (fX12_bodyAnew_h48 fu a1 f48) v2 v5 v6 v7 v8 v9 s0 M L = some (r0, M0, L0) → mw_W G ad NF TF FF M L H locs → lv_has ls 13 [(0, .ref (ad 821)), (1, .int a1), (2, .int v2), (5, .int v5), (6, .int v6), (7, .int v7), (8, .int v8), (9, .int v9)] → W p l e ({ frames := 2, cells := 0, slots := 0, locals := 48 }) s m [.ref (ad 821), .int a1].toArray below meth c H locs 0 0 (MQ below (mw_Qi G ad NF TF FF (mw_eqI r0 M0 L0)) [.ref (ad 821), .int a1].toArray s 0 0 (mw_fr G)) (F0 m 135 ls [.int s0]) := by
        intro v2 v5 v6 v7 v8 v9 s0 M L H locs ls hD hw hl
        unfold fX12_bodyAnew_b135 at hD
        refine lv_istore (lv' := [(4, .int s0), (0, .ref (ad 821)), (1, .int a1), (2, .int v2), (5, .int v5), (6, .int v6), (7, .int v7), (8, .int v8), (9, .int v9)]) C.1.1 C.1.2.1 dX12_bodyAnew_135 hl (by decide) rfl (fun ls hl => ?_)
        refine lv_iload C.1.1 C.1.2.1 dX12_bodyAnew_137 (lv_at hl 8 rfl) ?_
        refine lv_istore_n (lv' := [(3, .int v9), (4, .int s0), (0, .ref (ad 821)), (1, .int a1), (2, .int v2), (5, .int v5), (6, .int v6), (7, .int v7), (8, .int v8), (9, .int v9)]) C.1.1 C.1.2.1 dX12_bodyAnew_139 rfl hl (by decide) rfl (fun ls hl => ?_)
        refine lv_aload_n C.1.1 C.1.2.1 dX12_bodyAnew_140 rfl (lv_at hl 2 rfl) ?_
        refine mr_getR C hw kc_12 33 (by decide) tf_821 ff_821_33 wd_2133 dX12_bodyAnew_141 (by decide) rfl ?_
        refine lv_aload_n C.1.1 C.1.2.1 dX12_bodyAnew_144 rfl (lv_at hl 2 rfl) ?_
        refine mr_getI C hw kc_12 34 (by decide) tf_821 wd_2134 dX12_bodyAnew_145 (by decide) rfl ?_
        refine lv_iload C.1.1 C.1.2.1 dX12_bodyAnew_148 (lv_at hl 9 rfl) ?_
        refine lv_i2b C.1.1 C.1.2.1 dX12_bodyAnew_150 rfl ?_
        obtain ⟨q13, hD⟩ := g_ck hD
        obtain ⟨M14, eM14, hD⟩ := g_let hD
        refine mr_bast C hw (by decide) tf_848 q13 dX12_bodyAnew_151 (fun H locs hw => ?_)
        replace hw : mw_W G ad NF TF FF M14 L H locs := by rw [eM14]; exact hw
        refine lv_aload_n C.1.1 C.1.2.1 dX12_bodyAnew_152 rfl (lv_at hl 2 rfl) ?_
        refine lv_dup C.1.1 C.1.2.1 dX12_bodyAnew_153 rfl ?_
        refine mr_getI C hw kc_12 34 (by decide) tf_821 wd_2134 dX12_bodyAnew_154 (by decide) rfl ?_
        refine lv_iconst (v := 1) C.1.1 C.1.2.1 dX12_bodyAnew_157 (by decide) ?_
        refine lv_iadd C.1.1 C.1.2.1 dX12_bodyAnew_158 ?_
        obtain ⟨M15, eM15, hD⟩ := g_let hD
        refine mr_putI C hw kc_12 34 (by decide) tf_821 wd_2134 dX12_bodyAnew_159 (by decide) rfl rfl rfl rfl (fun H locs hw => ?_)
        replace hw : mw_W G ad NF TF FF M15 L H locs := by rw [eM15]; exact hw
        refine lv_aload_n C.1.1 C.1.2.1 dX12_bodyAnew_162 rfl (lv_at hl 2 rfl) ?_
        refine mr_getI C hw kc_12 34 (by decide) tf_821 wd_2134 dX12_bodyAnew_163 (by decide) rfl ?_
        refine lv_bipush (v := 14) C.1.1 C.1.2.1 dX12_bodyAnew_166 (by decide) ?_
        refine lv_icmp_ne (tgt := 184) C.1.1 C.1.2.1 dX12_bodyAnew_168 (by decide) (fun c16 => ?_) (fun c16 => ?_)
        · replace hD := g_neg c16 hD
          exact hb184 v2 v9 s0 v5 v6 v7 v8 v9 M15 L _ _ ls hD hw (lv_sub hl [2, 3, 4, 0, 1, 5, 6, 7, 8, 9] rfl)
        · replace hD := g_pos c16 hD
          refine lv_iload C.1.1 C.1.2.1 dX12_bodyAnew_171 (lv_at hl 9 rfl) ?_
          refine lv_iconst (v := 1) C.1.1 C.1.2.1 dX12_bodyAnew_173 (by decide) ?_
          refine lv_icmp_ne (tgt := 181) C.1.1 C.1.2.1 dX12_bodyAnew_174 (by decide) (fun c17 => ?_) (fun c17 => ?_)
          · replace hD := g_neg c17 hD
            refine lv_iconst (v := 0) C.1.1 C.1.2.1 dX12_bodyAnew_181 (by decide) ?_
            exact hb182 v2 v9 s0 v5 v7 v8 v9 0 M15 L _ _ ls hD hw (lv_sub hl [2, 3, 4, 0, 1, 5, 7, 8, 9] rfl)
          · replace hD := g_pos c17 hD
            refine lv_iconst (v := 1) C.1.1 C.1.2.1 dX12_bodyAnew_177 (by decide) ?_
            refine lv_goto (tgt := 182) C.1.1 C.1.2.1 dX12_bodyAnew_178 (by decide) ?_
            exact hb182 v2 v9 s0 v5 v7 v8 v9 1 M15 L _ _ ls hD hw (lv_sub hl [2, 3, 4, 0, 1, 5, 7, 8, 9] rfl)
      unfold fX12_bodyAnew_i48 at hD
      refine lv_iload C.1.1 C.1.2.1 dX12_bodyAnew_48 (lv_at hl 8 rfl) ?_
      refine lv_iload_n C.1.1 C.1.2.1 dX12_bodyAnew_50 rfl (lv_at hl 2 rfl) ?_
      refine lv_icmp_gt (tgt := 396) C.1.1 C.1.2.1 dX12_bodyAnew_51 (by decide) (fun c1 => ?_) (fun c1 => ?_)
      · replace hD := g_pos c1 hD
        refine lv_iconst (v := (-1)) C.1.1 C.1.2.1 dX12_bodyAnew_396 (by decide) ?_
        exact mr_iret C hr hlocks hw rfl (Option.some.inj hD) dX12_bodyAnew_397
      · replace hD := g_neg c1 hD
        refine lv_aload_n C.1.1 C.1.2.1 dX12_bodyAnew_54 rfl (lv_at hl 0 rfl) ?_
        refine lv_iload_n C.1.1 C.1.2.1 dX12_bodyAnew_55 rfl (lv_at hl 1 rfl) ?_
        refine lv_iload C.1.1 C.1.2.1 dX12_bodyAnew_56 (lv_at hl 8 rfl) ?_
        obtain ⟨r4, M2, L3, h1, hD⟩ := g_b3 hD
        refine md_cvI (As := [.int a1, .int v8]) (rest := []) C hw (tX12_bitAt l G ad fu a1 v8 M L h1) kc_12 (by decide) tf_821 wd_3711 cwX12_bitAt ⟨Nat.le_of_ble_eq_true rfl, Nat.le_of_ble_eq_true rfl⟩ rfl hl.1 (Nat.le_of_ble_eq_true rfl) dX12_bodyAnew_58 rfl rfl ⟨Nat.zero_le _, Nat.zero_le _⟩ rfl (fun H locs hw => ?_)
        refine lv_istore (lv' := [(9, .int r4), (0, .ref (ad 821)), (1, .int a1), (2, .int v2), (3, .int v3), (4, .int v4), (5, .int v5), (6, .int v6), (7, .int v7), (8, .int v8)]) C.1.1 C.1.2.1 dX12_bodyAnew_61 hl (by decide) rfl (fun ls hl => ?_)
        refine lv_aload_n C.1.1 C.1.2.1 dX12_bodyAnew_63 rfl (lv_at hl 1 rfl) ?_
        refine lv_iload C.1.1 C.1.2.1 dX12_bodyAnew_64 (lv_at hl 0 rfl) ?_
        obtain ⟨M5, L6, h1, hD⟩ := g_b2 hD
        refine md_cvV (As := [.int r4]) (rest := []) C hw (tX12_check l G ad fu r4 M2 L3 h1) kc_12 (by decide) tf_821 wd_3671 cwX12_check ⟨Nat.le_of_ble_eq_true rfl, Nat.le_of_ble_eq_true rfl⟩ rfl hl.1 (Nat.le_of_ble_eq_true rfl) dX12_bodyAnew_66 rfl rfl ⟨Nat.zero_le _, Nat.zero_le _⟩ rfl (fun H locs hw => ?_)
        refine lv_iload C.1.1 C.1.2.1 dX12_bodyAnew_69 (lv_at hl 5 rfl) ?_
        refine lv_iconst (v := 5) C.1.1 C.1.2.1 dX12_bodyAnew_71 (by decide) ?_
        refine lv_icmp_ne (tgt := 121) C.1.1 C.1.2.1 dX12_bodyAnew_72 (by decide) (fun c7 => ?_) (fun c7 => ?_)
        · replace hD := g_neg c7 hD
          refine lv_iload C.1.1 C.1.2.1 dX12_bodyAnew_121 (lv_at hl 0 rfl) ?_
          refine lv_iload_n C.1.1 C.1.2.1 dX12_bodyAnew_123 rfl (lv_at hl 4 rfl) ?_
          refine lv_icmp_ne (tgt := 134) C.1.1 C.1.2.1 dX12_bodyAnew_124 (by decide) (fun c8 => ?_) (fun c8 => ?_)
          · replace hD := g_neg c8 hD
            refine lv_iconst (v := 1) C.1.1 C.1.2.1 dX12_bodyAnew_134 (by decide) ?_
            exact hb135 v2 v5 v6 v7 v8 r4 1 M5 L6 _ _ ls hD hw (lv_sub hl [1, 2, 3, 6, 7, 8, 9, 0] rfl)
          · replace hD := g_pos c8 hD
            refine lv_iload C.1.1 C.1.2.1 dX12_bodyAnew_127 (lv_at hl 5 rfl) ?_
            refine lv_iconst (v := 1) C.1.1 C.1.2.1 dX12_bodyAnew_129 (by decide) ?_
            refine lv_iadd C.1.1 C.1.2.1 dX12_bodyAnew_130 ?_
            refine lv_goto (tgt := 135) C.1.1 C.1.2.1 dX12_bodyAnew_131 (by decide) ?_
            exact hb135 v2 v5 v6 v7 v8 r4 (v4 + 1) M5 L6 _ _ ls hD hw (lv_sub hl [1, 2, 3, 6, 7, 8, 9, 0] rfl)
        · replace hD := g_pos c7 hD
          refine lv_iload C.1.1 C.1.2.1 dX12_bodyAnew_75 (lv_at hl 0 rfl) ?_
          refine lv_iload_n C.1.1 C.1.2.1 dX12_bodyAnew_77 rfl (lv_at hl 4 rfl) ?_
          refine lv_icmp_ne (tgt := 83) C.1.1 C.1.2.1 dX12_bodyAnew_78 (by decide) (fun c9 => ?_) (fun c9 => ?_)
          · replace hD := g_neg c9 hD
            refine lv_iconst (v := 1) C.1.1 C.1.2.1 dX12_bodyAnew_83 (by decide) ?_
            refine lv_istore (lv' := [(4, .int 1), (9, .int r4), (0, .ref (ad 821)), (1, .int a1), (2, .int v2), (3, .int v3), (5, .int v5), (6, .int v6), (7, .int v7), (8, .int v8)]) C.1.1 C.1.2.1 dX12_bodyAnew_84 hl (by decide) rfl (fun ls hl => ?_)
            refine lv_iload C.1.1 C.1.2.1 dX12_bodyAnew_86 (lv_at hl 1 rfl) ?_
            refine lv_istore_n (lv' := [(3, .int r4), (4, .int 1), (9, .int r4), (0, .ref (ad 821)), (1, .int a1), (2, .int v2), (5, .int v5), (6, .int v6), (7, .int v7), (8, .int v8)]) C.1.1 C.1.2.1 dX12_bodyAnew_88 rfl hl (by decide) rfl (fun ls hl => ?_)
            refine lv_aload_n C.1.1 C.1.2.1 dX12_bodyAnew_89 rfl (lv_at hl 3 rfl) ?_
            refine lv_dup C.1.1 C.1.2.1 dX12_bodyAnew_90 rfl ?_
            refine mr_getI C hw kc_12 46 (by decide) tf_821 wd_2146 dX12_bodyAnew_91 (by decide) rfl ?_
            refine lv_iconst (v := 1) C.1.1 C.1.2.1 dX12_bodyAnew_94 (by decide) ?_
            refine lv_iadd C.1.1 C.1.2.1 dX12_bodyAnew_95 ?_
            obtain ⟨M10, eM10, hD⟩ := g_let hD
            refine mr_putI C hw kc_12 46 (by decide) tf_821 wd_2146 dX12_bodyAnew_96 (by decide) rfl rfl rfl rfl (fun H locs hw => ?_)
            replace hw : mw_W G ad NF TF FF M10 L6 H locs := by rw [eM10]; exact hw
            refine lv_aload_n C.1.1 C.1.2.1 dX12_bodyAnew_99 rfl (lv_at hl 3 rfl) ?_
            refine mr_getI C hw kc_12 34 (by decide) tf_821 wd_2134 dX12_bodyAnew_100 (by decide) rfl ?_
            refine lv_iload C.1.1 C.1.2.1 dX12_bodyAnew_103 (lv_at hl 6 rfl) ?_
            refine lv_bipush (v := 15) C.1.1 C.1.2.1 dX12_bodyAnew_105 (by decide) ?_
            refine lv_iadd C.1.1 C.1.2.1 dX12_bodyAnew_107 ?_
            refine lv_icmp_ne (tgt := 390) C.1.1 C.1.2.1 dX12_bodyAnew_108 (by decide) (fun c11 => ?_) (fun c11 => ?_)
            · replace hD := g_neg c11 hD
              exact hb390 v2 r4 1 v5 v6 v7 v8 M10 L6 _ _ ls hD hw (lv_sub hl [3, 4, 5, 0, 1, 6, 7, 8, 9] rfl)
            · replace hD := g_pos c11 hD
              refine lv_aload_n C.1.1 C.1.2.1 dX12_bodyAnew_111 rfl (lv_at hl 3 rfl) ?_
              refine lv_iload C.1.1 C.1.2.1 dX12_bodyAnew_112 (lv_at hl 9 rfl) ?_
              refine lv_iconst (v := 1) C.1.1 C.1.2.1 dX12_bodyAnew_114 (by decide) ?_
              refine lv_iadd C.1.1 C.1.2.1 dX12_bodyAnew_115 ?_
              obtain ⟨M12, eM12, hD⟩ := g_let hD
              refine mr_putI C hw kc_12 45 (by decide) tf_821 wd_2145 dX12_bodyAnew_116 (by decide) rfl rfl rfl rfl (fun H locs hw => ?_)
              replace hw : mw_W G ad NF TF FF M12 L6 H locs := by rw [eM12]; exact hw
              refine lv_iconst (v := (-1)) C.1.1 C.1.2.1 dX12_bodyAnew_119 (by decide) ?_
              exact mr_iret C hr hlocks hw rfl (Option.some.inj hD) dX12_bodyAnew_120
          · replace hD := g_pos c9 hD
            refine lv_iconst (v := 1) C.1.1 C.1.2.1 dX12_bodyAnew_81 (by decide) ?_
            exact mr_iret C hr hlocks hw rfl (Option.some.inj hD) dX12_bodyAnew_82
  unfold DX12_bodyAnew at hD
  refine lv_aload_n C.1.1 C.1.2.1 dX12_bodyAnew_0 rfl (lv_at hl 0 rfl) ?_
  refine mr_getR C hw kc_12 19 (by decide) tf_821 ff_821_19 wd_2119 dX12_bodyAnew_1 (by decide) rfl ?_
  refine lv_iload_n C.1.1 C.1.2.1 dX12_bodyAnew_4 rfl (lv_at hl 1 rfl) ?_
  obtain ⟨q43, hD⟩ := g_ck hD
  refine mr_iald C hw (by decide) tf_836 q43 dX12_bodyAnew_5 ?_
  refine lv_iconst (v := 1) C.1.1 C.1.2.1 dX12_bodyAnew_6 (by decide) ?_
  refine lv_isub C.1.1 C.1.2.1 dX12_bodyAnew_7 ?_
  obtain ⟨x44, ex44, hD⟩ := g_let hD
  refine W.eq (g2 := F0 m 8 ls (.int x44 :: [])) (by rw [ex44]) ?_
  refine lv_istore_n (lv' := [(2, .int x44), (0, .ref (ad 821)), (1, .int a1)]) C.1.1 C.1.2.1 dX12_bodyAnew_8 rfl hl (by decide) rfl (fun ls hl => ?_)
  refine lv_iconst (v := 1) C.1.1 C.1.2.1 dX12_bodyAnew_9 (by decide) ?_
  refine lv_istore_n (lv' := [(3, .int 1), (2, .int x44), (0, .ref (ad 821)), (1, .int a1)]) C.1.1 C.1.2.1 dX12_bodyAnew_10 rfl hl (by decide) rfl (fun ls hl => ?_)
  refine lv_iconst (v := 0) C.1.1 C.1.2.1 dX12_bodyAnew_11 (by decide) ?_
  refine lv_istore (lv' := [(4, .int 0), (3, .int 1), (2, .int x44), (0, .ref (ad 821)), (1, .int a1)]) C.1.1 C.1.2.1 dX12_bodyAnew_12 hl (by decide) rfl (fun ls hl => ?_)
  refine lv_sipush (v := 20000) C.1.1 C.1.2.1 dX12_bodyAnew_14 (by decide) ?_
  refine lv_istore (lv' := [(5, .int 20000), (4, .int 0), (3, .int 1), (2, .int x44), (0, .ref (ad 821)), (1, .int a1)]) C.1.1 C.1.2.1 dX12_bodyAnew_17 hl (by decide) rfl (fun ls hl => ?_)
  refine lv_iconst (v := 0) C.1.1 C.1.2.1 dX12_bodyAnew_19 (by decide) ?_
  refine lv_istore (lv' := [(6, .int 0), (5, .int 20000), (4, .int 0), (3, .int 1), (2, .int x44), (0, .ref (ad 821)), (1, .int a1)]) C.1.1 C.1.2.1 dX12_bodyAnew_20 hl (by decide) rfl (fun ls hl => ?_)
  refine lv_iconst (v := 0) C.1.1 C.1.2.1 dX12_bodyAnew_22 (by decide) ?_
  refine lv_istore (lv' := [(7, .int 0), (6, .int 0), (5, .int 20000), (4, .int 0), (3, .int 1), (2, .int x44), (0, .ref (ad 821)), (1, .int a1)]) C.1.1 C.1.2.1 dX12_bodyAnew_23 hl (by decide) rfl (fun ls hl => ?_)
  refine lv_aload_n C.1.1 C.1.2.1 dX12_bodyAnew_25 rfl (lv_at hl 6 rfl) ?_
  refine lv_iconst (v := (-1)) C.1.1 C.1.2.1 dX12_bodyAnew_26 (by decide) ?_
  obtain ⟨M45, eM45, hD⟩ := g_let hD
  refine mr_putI C hw kc_12 45 (by decide) tf_821 wd_2145 dX12_bodyAnew_27 (by decide) rfl rfl rfl rfl (fun H locs hw => ?_)
  replace hw : mw_W G ad NF TF FF M45 L H locs := by rw [eM45]; exact hw
  refine lv_aload_n C.1.1 C.1.2.1 dX12_bodyAnew_30 rfl (lv_at hl 6 rfl) ?_
  refine lv_iconst (v := 0) C.1.1 C.1.2.1 dX12_bodyAnew_31 (by decide) ?_
  obtain ⟨M46, eM46, hD⟩ := g_let hD
  refine mr_putI C hw kc_12 46 (by decide) tf_821 wd_2146 dX12_bodyAnew_32 (by decide) rfl rfl rfl rfl (fun H locs hw => ?_)
  replace hw : mw_W G ad NF TF FF M46 L H locs := by rw [eM46]; exact hw
  refine lv_aload_n C.1.1 C.1.2.1 dX12_bodyAnew_35 rfl (lv_at hl 6 rfl) ?_
  refine lv_iconst (v := 0) C.1.1 C.1.2.1 dX12_bodyAnew_36 (by decide) ?_
  obtain ⟨M47, eM47, hD⟩ := g_let hD
  refine mr_putI C hw kc_12 34 (by decide) tf_821 wd_2134 dX12_bodyAnew_37 (by decide) rfl rfl rfl rfl (fun H locs hw => ?_)
  replace hw : mw_W G ad NF TF FF M47 L H locs := by rw [eM47]; exact hw
  refine lv_aload_n C.1.1 C.1.2.1 dX12_bodyAnew_40 rfl (lv_at hl 6 rfl) ?_
  refine lv_iconst (v := 0) C.1.1 C.1.2.1 dX12_bodyAnew_41 (by decide) ?_
  obtain ⟨M48, eM48, hD⟩ := g_let hD
  refine mr_putI C hw kc_12 41 (by decide) tf_821 wd_2141 dX12_bodyAnew_42 (by decide) rfl rfl rfl rfl (fun H locs hw => ?_)
  replace hw : mw_W G ad NF TF FF M48 L H locs := by rw [eM48]; exact hw
  refine lv_iconst (v := 0) C.1.1 C.1.2.1 dX12_bodyAnew_45 (by decide) ?_
  refine lv_istore (lv' := [(8, .int 0), (7, .int 0), (6, .int 0), (5, .int 20000), (4, .int 0), (3, .int 1), (2, .int x44), (0, .ref (ad 821)), (1, .int a1)]) C.1.1 C.1.2.1 dX12_bodyAnew_46 hl (by decide) rfl (fun ls hl => ?_)
  exact hh48 fu x44 1 0 20000 0 0 0 M48 L _ _ ls hD hw (lv_sub hl [7, 8, 6, 5, 4, 3, 2, 1, 0] rfl)

theorem dX12_body_0 : decode cX12_body 0 = .ok (.aload_n 0, 1) := by decide +kernel
theorem dX12_body_1 : decode cX12_body 1 = .ok (.getfield 114, 3) := by decide +kernel
theorem dX12_body_4 : decode cX12_body 4 = .ok (.aload_n 0, 1) := by decide +kernel
theorem dX12_body_5 : decode cX12_body 5 = .ok (.getfield 58, 3) := by decide +kernel
theorem dX12_body_8 : decode cX12_body 8 = .ok (.iload_n 1, 1) := by decide +kernel
theorem dX12_body_9 : decode cX12_body 9 = .ok (.iaload, 1) := by decide +kernel
theorem dX12_body_10 : decode cX12_body 10 = .ok (.if_icmp .ne 7, 3) := by decide +kernel
theorem dX12_body_13 : decode cX12_body 13 = .ok (.iconst 1, 1) := by decide +kernel
theorem dX12_body_14 : decode cX12_body 14 = .ok (.goto 4, 3) := by decide +kernel
theorem dX12_body_17 : decode cX12_body 17 = .ok (.iconst 0, 1) := by decide +kernel
theorem dX12_body_18 : decode cX12_body 18 = .ok (.istore_n 2, 1) := by decide +kernel
theorem dX12_body_19 : decode cX12_body 19 = .ok (.iconst 0, 1) := by decide +kernel
theorem dX12_body_20 : decode cX12_body 20 = .ok (.istore_n 3, 1) := by decide +kernel
theorem dX12_body_21 : decode cX12_body 21 = .ok (.iload_n 3, 1) := by decide +kernel
theorem dX12_body_22 : decode cX12_body 22 = .ok (.aload_n 0, 1) := by decide +kernel
theorem dX12_body_23 : decode cX12_body 23 = .ok (.getfield 114, 3) := by decide +kernel
theorem dX12_body_26 : decode cX12_body 26 = .ok (.if_icmp .ge 40, 3) := by decide +kernel
theorem dX12_body_29 : decode cX12_body 29 = .ok (.iload_n 2, 1) := by decide +kernel
theorem dX12_body_30 : decode cX12_body 30 = .ok (.ifCond .eq 36, 3) := by decide +kernel
theorem dX12_body_33 : decode cX12_body 33 = .ok (.aload_n 0, 1) := by decide +kernel
theorem dX12_body_34 : decode cX12_body 34 = .ok (.getfield 111, 3) := by decide +kernel
theorem dX12_body_37 : decode cX12_body 37 = .ok (.iload_n 3, 1) := by decide +kernel
theorem dX12_body_38 : decode cX12_body 38 = .ok (.baload, 1) := by decide +kernel
theorem dX12_body_39 : decode cX12_body 39 = .ok (.aload_n 0, 1) := by decide +kernel
theorem dX12_body_40 : decode cX12_body 40 = .ok (.getfield 61, 3) := by decide +kernel
theorem dX12_body_43 : decode cX12_body 43 = .ok (.sipush 1200, 3) := by decide +kernel
theorem dX12_body_46 : decode cX12_body 46 = .ok (.iload_n 1, 1) := by decide +kernel
theorem dX12_body_47 : decode cX12_body 47 = .ok (.imul, 1) := by decide +kernel
theorem dX12_body_48 : decode cX12_body 48 = .ok (.iload_n 3, 1) := by decide +kernel
theorem dX12_body_49 : decode cX12_body 49 = .ok (.iadd, 1) := by decide +kernel
theorem dX12_body_50 : decode cX12_body 50 = .ok (.baload, 1) := by decide +kernel
theorem dX12_body_51 : decode cX12_body 51 = .ok (.if_icmp .ne 7, 3) := by decide +kernel
theorem dX12_body_54 : decode cX12_body 54 = .ok (.iconst 1, 1) := by decide +kernel
theorem dX12_body_55 : decode cX12_body 55 = .ok (.goto 4, 3) := by decide +kernel
theorem dX12_body_58 : decode cX12_body 58 = .ok (.iconst 0, 1) := by decide +kernel
theorem dX12_body_59 : decode cX12_body 59 = .ok (.istore_n 2, 1) := by decide +kernel
theorem dX12_body_60 : decode cX12_body 60 = .ok (.iinc 3 1, 3) := by decide +kernel
theorem dX12_body_63 : decode cX12_body 63 = .ok (.goto (-42), 3) := by decide +kernel
theorem dX12_body_66 : decode cX12_body 66 = .ok (.iload_n 2, 1) := by decide +kernel
theorem dX12_body_67 : decode cX12_body 67 = .ok (.ifCond .eq 8, 3) := by decide +kernel
theorem dX12_body_70 : decode cX12_body 70 = .ok (.aload_n 0, 1) := by decide +kernel
theorem dX12_body_71 : decode cX12_body 71 = .ok (.getfield 203, 3) := by decide +kernel
theorem dX12_body_74 : decode cX12_body 74 = .ok (.ireturn, 1) := by decide +kernel
theorem dX12_body_75 : decode cX12_body 75 = .ok (.aload_n 0, 1) := by decide +kernel
theorem dX12_body_76 : decode cX12_body 76 = .ok (.aload_n 0, 1) := by decide +kernel
theorem dX12_body_77 : decode cX12_body 77 = .ok (.iload_n 1, 1) := by decide +kernel
theorem dX12_body_78 : decode cX12_body 78 = .ok (.invokevirtual 206, 3) := by decide +kernel
theorem dX12_body_81 : decode cX12_body 81 = .ok (.putfield 203, 3) := by decide +kernel
theorem dX12_body_84 : decode cX12_body 84 = .ok (.aload_n 0, 1) := by decide +kernel
theorem dX12_body_85 : decode cX12_body 85 = .ok (.aload_n 0, 1) := by decide +kernel
theorem dX12_body_86 : decode cX12_body 86 = .ok (.getfield 58, 3) := by decide +kernel
theorem dX12_body_89 : decode cX12_body 89 = .ok (.iload_n 1, 1) := by decide +kernel
theorem dX12_body_90 : decode cX12_body 90 = .ok (.iaload, 1) := by decide +kernel
theorem dX12_body_91 : decode cX12_body 91 = .ok (.putfield 114, 3) := by decide +kernel
theorem dX12_body_94 : decode cX12_body 94 = .ok (.iconst 0, 1) := by decide +kernel
theorem dX12_body_95 : decode cX12_body 95 = .ok (.istore_n 3, 1) := by decide +kernel
theorem dX12_body_96 : decode cX12_body 96 = .ok (.iload_n 3, 1) := by decide +kernel
theorem dX12_body_97 : decode cX12_body 97 = .ok (.aload_n 0, 1) := by decide +kernel
theorem dX12_body_98 : decode cX12_body 98 = .ok (.getfield 114, 3) := by decide +kernel
theorem dX12_body_101 : decode cX12_body 101 = .ok (.if_icmp .ge 27, 3) := by decide +kernel
theorem dX12_body_104 : decode cX12_body 104 = .ok (.aload_n 0, 1) := by decide +kernel
theorem dX12_body_105 : decode cX12_body 105 = .ok (.getfield 111, 3) := by decide +kernel
theorem dX12_body_108 : decode cX12_body 108 = .ok (.iload_n 3, 1) := by decide +kernel
theorem dX12_body_109 : decode cX12_body 109 = .ok (.aload_n 0, 1) := by decide +kernel
theorem dX12_body_110 : decode cX12_body 110 = .ok (.getfield 61, 3) := by decide +kernel
theorem dX12_body_113 : decode cX12_body 113 = .ok (.sipush 1200, 3) := by decide +kernel
theorem dX12_body_116 : decode cX12_body 116 = .ok (.iload_n 1, 1) := by decide +kernel
theorem dX12_body_117 : decode cX12_body 117 = .ok (.imul, 1) := by decide +kernel
theorem dX12_body_118 : decode cX12_body 118 = .ok (.iload_n 3, 1) := by decide +kernel
theorem dX12_body_119 : decode cX12_body 119 = .ok (.iadd, 1) := by decide +kernel
theorem dX12_body_120 : decode cX12_body 120 = .ok (.baload, 1) := by decide +kernel
theorem dX12_body_121 : decode cX12_body 121 = .ok (.bastore, 1) := by decide +kernel
theorem dX12_body_122 : decode cX12_body 122 = .ok (.iinc 3 1, 3) := by decide +kernel
theorem dX12_body_125 : decode cX12_body 125 = .ok (.goto (-29), 3) := by decide +kernel
theorem dX12_body_128 : decode cX12_body 128 = .ok (.aload_n 0, 1) := by decide +kernel
theorem dX12_body_129 : decode cX12_body 129 = .ok (.getfield 203, 3) := by decide +kernel
theorem dX12_body_132 : decode cX12_body 132 = .ok (.ireturn, 1) := by decide +kernel
theorem cwX12_body : mw_cwV yX12_body cX12_body 4 ((some .int)) 1 := ⟨⟨wd_15, wd_3706, by decide +kernel⟩, wd_3705, sl_242⟩
noncomputable def fX12_body_i96 (fu : Nat) (a1 : Int32) (r96 : (Int32 × mwM × mwL) → Option (Int32 × mwM × mwL)) (v3 : Int32) (M : mwM) (L : mwL) : Option (Int32 × mwM × mwL) :=
  (if (M 821 48) ≤ v3 then some (M 821 49, M, L) else mck ((1200 * a1) + v3) 8400 (mck v3 1200 (mlet (mset M 853 (v3.toNatClampNeg) (vp_nar .byte (M 837 ((1200 * a1) + v3).toNatClampNeg))) (fun M17 => mlet (v3 + 1) (fun x18 => r96 (x18, M17, L))))))
noncomputable def fX12_body_h96 (fu : Nat) (a1 : Int32) : Nat → (Int32 × mwM × mwL) → Option (Int32 × mwM × mwL) := mloop (fun r96 s => fX12_body_i96 fu a1 r96 s.1 s.2.1 s.2.2)
noncomputable def fX12_body_b66 (fu : Nat) (a1 : Int32) (v2 : Int32) (M : mwM) (L : mwL) : Option (Int32 × mwM × mwL) :=
  (if v2 = 0 then mb3 (DX12_bodyAnew fu a1 M L) (fun r10 M8 L9 => mlet (mset M8 821 49 r10) (fun M11 => mck a1 32 (mlet (mset M11 821 48 (M11 836 a1.toNatClampNeg)) (fun M13 => fX12_body_h96 fu a1 fu (0, M13, L9))))) else some (M 821 49, M, L))
noncomputable def fX12_body_b59 (fu : Nat) (a1 : Int32) (r21 : (Int32 × Int32 × mwM × mwL) → Option (Int32 × mwM × mwL)) (v3 : Int32) (s0 : Int32) (M : mwM) (L : mwL) : Option (Int32 × mwM × mwL) :=
  mlet (v3 + 1) (fun x6 => r21 (s0, x6, M, L))
noncomputable def fX12_body_i21 (fu : Nat) (a1 : Int32) (r21 : (Int32 × Int32 × mwM × mwL) → Option (Int32 × mwM × mwL)) (v2 : Int32) (v3 : Int32) (M : mwM) (L : mwL) : Option (Int32 × mwM × mwL) :=
  (if (M 821 48) ≤ v3 then fX12_body_b66 fu a1 v2 M L else (if v2 = 0 then fX12_body_b66 fu a1 v2 M L else mck v3 1200 (mck ((1200 * a1) + v3) 8400 ((if (M 853 v3.toNatClampNeg) = (M 837 ((1200 * a1) + v3).toNatClampNeg) then fX12_body_b59 fu a1 r21 v3 1 M L else fX12_body_b59 fu a1 r21 v3 0 M L)))))
noncomputable def fX12_body_h21 (fu : Nat) (a1 : Int32) : Nat → (Int32 × Int32 × mwM × mwL) → Option (Int32 × mwM × mwL) := mloop (fun r21 s => fX12_body_i21 fu a1 r21 s.1 s.2.1 s.2.2.1 s.2.2.2)
noncomputable def fX12_body_b18 (fu : Nat) (a1 : Int32) (s0 : Int32) (M : mwM) (L : mwL) : Option (Int32 × mwM × mwL) :=
  fX12_body_h21 fu a1 fu (s0, 0, M, L)
noncomputable def DX12_body (fu : Nat) (a1 : Int32) (M : mwM) (L : mwL) : Option (Int32 × mwM × mwL) :=
  mck a1 32 ((if (M 821 48) = (M 836 a1.toNatClampNeg) then fX12_body_b18 fu a1 1 M L else fX12_body_b18 fu a1 0 M L))
set_option maxHeartbeats 4000000 in
set_option maxRecDepth 100000 in
theorem tX12_body (l : Launch) (G : mwG) (ad : Nat → Nat) (fu : Nat) (a1 : Int32) (M : mwM) (L : mwL) {r0 : Int32} {M0 : mwM} {L0 : mwL} (hD : DX12_body fu a1 M L = some (r0, M0, L0)) : Met l yX12_body (Cond.code yX12_body cX12_body 4 ((some .int)) :: GT) ({ frames := 3, cells := 0, slots := 0, locals := 80 }) (mw_Pre G ad NF TF FF M L [.ref (ad 821), .int a1]) (mw_Qi G ad NF TF FF (mw_eqI r0 M0 L0)) 0 0 (mw_fr G) := by
  refine mw_enter (by decide) (Nat.le_of_ble_eq_true rfl) ?_
  intro p e s m below meth c ls C hr hlocks hnm hw hl
  have hl : lv_has ls 4 [(0, .ref (ad 821)), (1, .int a1)] := hl
  have hh96 : ∀ (f : Nat) (v3 : Int32) (M : mwM) (L : mwL) (H : Heap) (locs : List Loc) (ls : Array Slot), fX12_body_h96 fu a1 f (v3, M, L) = some (r0, M0, L0) → mw_W G ad NF TF FF M L H locs → lv_has ls 4 [(0, .ref (ad 821)), (1, .int a1), (3, .int v3)] → W p l e ({ frames := 3, cells := 0, slots := 0, locals := 80 }) s m [.ref (ad 821), .int a1].toArray below meth c H locs 0 0 (MQ below (mw_Qi G ad NF TF FF (mw_eqI r0 M0 L0)) [.ref (ad 821), .int a1].toArray s 0 0 (mw_fr G)) (F0 m 96 ls []) := by
    intro f
    induction f with
    | zero => intro v3 M L H locs ls hD; cases hD
    | succ f96 ih96 =>
      intro v3 M L H locs ls hD hw hl
      replace hD : fX12_body_i96 fu a1 (fX12_body_h96 fu a1 f96) v3 M L = some (r0, M0, L0) := hD
      unfold fX12_body_i96 at hD
      refine lv_iload_n C.1.1 C.1.2.1 dX12_body_96 rfl (lv_at hl 2 rfl) ?_
      refine lv_aload_n C.1.1 C.1.2.1 dX12_body_97 rfl (lv_at hl 0 rfl) ?_
      refine mr_getI C hw kc_12 48 (by decide) tf_821 wd_2148 dX12_body_98 (by decide) rfl ?_
      refine lv_icmp_ge (tgt := 128) C.1.1 C.1.2.1 dX12_body_101 (by decide) (fun c14 => ?_) (fun c14 => ?_)
      · replace hD := g_pos c14 hD
        refine lv_aload_n C.1.1 C.1.2.1 dX12_body_128 rfl (lv_at hl 0 rfl) ?_
        refine mr_getI C hw kc_12 49 (by decide) tf_821 wd_2149 dX12_body_129 (by decide) rfl ?_
        exact mr_iret C hr hlocks hw rfl (Option.some.inj hD) dX12_body_132
      · replace hD := g_neg c14 hD
        refine lv_aload_n C.1.1 C.1.2.1 dX12_body_104 rfl (lv_at hl 0 rfl) ?_
        refine mr_getR C hw kc_12 47 (by decide) tf_821 ff_821_47 wd_2147 dX12_body_105 (by decide) rfl ?_
        refine lv_iload_n C.1.1 C.1.2.1 dX12_body_108 rfl (lv_at hl 2 rfl) ?_
        refine lv_aload_n C.1.1 C.1.2.1 dX12_body_109 rfl (lv_at hl 0 rfl) ?_
        refine mr_getR C hw kc_12 20 (by decide) tf_821 ff_821_20 wd_2120 dX12_body_110 (by decide) rfl ?_
        refine lv_sipush (v := 1200) C.1.1 C.1.2.1 dX12_body_113 (by decide) ?_
        refine lv_iload_n C.1.1 C.1.2.1 dX12_body_116 rfl (lv_at hl 1 rfl) ?_
        refine lv_imul C.1.1 C.1.2.1 dX12_body_117 ?_
        refine lv_iload_n C.1.1 C.1.2.1 dX12_body_118 rfl (lv_at hl 2 rfl) ?_
        refine lv_iadd C.1.1 C.1.2.1 dX12_body_119 ?_
        obtain ⟨q15, hD⟩ := g_ck hD
        refine mr_bald C hw (by decide) tf_837 q15 dX12_body_120 ?_
        obtain ⟨q16, hD⟩ := g_ck hD
        obtain ⟨M17, eM17, hD⟩ := g_let hD
        refine mr_bast C hw (by decide) tf_853 q16 dX12_body_121 (fun H locs hw => ?_)
        replace hw : mw_W G ad NF TF FF M17 L H locs := by rw [eM17]; exact hw
        obtain ⟨x18, ex18, hD⟩ := g_let hD
        refine lv_iinc (v := x18) (lv' := [(3, .int x18), (0, .ref (ad 821)), (1, .int a1)]) C.1.1 C.1.2.1 dX12_body_122 hl (k := 2) rfl (by rw [ex18]; rfl) (by decide) rfl (fun ls hl => ?_)
        refine lv_goto (tgt := 96) C.1.1 C.1.2.1 dX12_body_125 (by decide) ?_
        exact ih96 x18 M17 L _ _ ls hD hw (lv_sub hl [1, 2, 0] rfl)
  have hb66 : ∀ (v2 : Int32) (M : mwM) (L : mwL) (H : Heap) (locs : List Loc) (ls : Array Slot), fX12_body_b66 fu a1 v2 M L = some (r0, M0, L0) → mw_W G ad NF TF FF M L H locs → lv_has ls 4 [(0, .ref (ad 821)), (1, .int a1), (2, .int v2)] → W p l e ({ frames := 3, cells := 0, slots := 0, locals := 80 }) s m [.ref (ad 821), .int a1].toArray below meth c H locs 0 0 (MQ below (mw_Qi G ad NF TF FF (mw_eqI r0 M0 L0)) [.ref (ad 821), .int a1].toArray s 0 0 (mw_fr G)) (F0 m 66 ls []) := by
    intro v2 M L H locs ls hD hw hl
    unfold fX12_body_b66 at hD
    refine lv_iload_n C.1.1 C.1.2.1 dX12_body_66 rfl (lv_at hl 2 rfl) ?_
    refine lv_if_eq (tgt := 75) C.1.1 C.1.2.1 dX12_body_67 (by decide) (fun c7 => ?_) (fun c7 => ?_)
    · replace hD := g_pos c7 hD
      refine lv_aload_n C.1.1 C.1.2.1 dX12_body_75 rfl (lv_at hl 0 rfl) ?_
      refine lv_aload_n C.1.1 C.1.2.1 dX12_body_76 rfl (lv_at hl 0 rfl) ?_
      refine lv_iload_n C.1.1 C.1.2.1 dX12_body_77 rfl (lv_at hl 1 rfl) ?_
      obtain ⟨r10, M8, L9, h1, hD⟩ := g_b3 hD
      refine md_cvI (As := [.int a1]) (rest := [.ref (ad 821)]) C hw (tX12_bodyAnew l G ad fu a1 M L h1) kc_12 (by decide) tf_821 wd_3707 cwX12_bodyAnew ⟨Nat.le_of_ble_eq_true rfl, Nat.le_of_ble_eq_true rfl⟩ rfl hl.1 (Nat.le_of_ble_eq_true rfl) dX12_body_78 rfl rfl ⟨Nat.zero_le _, Nat.zero_le _⟩ rfl (fun H locs hw => ?_)
      obtain ⟨M11, eM11, hD⟩ := g_let hD
      refine mr_putI C hw kc_12 49 (by decide) tf_821 wd_2149 dX12_body_81 (by decide) rfl rfl rfl rfl (fun H locs hw => ?_)
      replace hw : mw_W G ad NF TF FF M11 L9 H locs := by rw [eM11]; exact hw
      refine lv_aload_n C.1.1 C.1.2.1 dX12_body_84 rfl (lv_at hl 0 rfl) ?_
      refine lv_aload_n C.1.1 C.1.2.1 dX12_body_85 rfl (lv_at hl 0 rfl) ?_
      refine mr_getR C hw kc_12 19 (by decide) tf_821 ff_821_19 wd_2119 dX12_body_86 (by decide) rfl ?_
      refine lv_iload_n C.1.1 C.1.2.1 dX12_body_89 rfl (lv_at hl 1 rfl) ?_
      obtain ⟨q12, hD⟩ := g_ck hD
      refine mr_iald C hw (by decide) tf_836 q12 dX12_body_90 ?_
      obtain ⟨M13, eM13, hD⟩ := g_let hD
      refine mr_putI C hw kc_12 48 (by decide) tf_821 wd_2148 dX12_body_91 (by decide) rfl rfl rfl rfl (fun H locs hw => ?_)
      replace hw : mw_W G ad NF TF FF M13 L9 H locs := by rw [eM13]; exact hw
      refine lv_iconst (v := 0) C.1.1 C.1.2.1 dX12_body_94 (by decide) ?_
      refine lv_istore_n (lv' := [(3, .int 0), (0, .ref (ad 821)), (1, .int a1), (2, .int v2)]) C.1.1 C.1.2.1 dX12_body_95 rfl hl (by decide) rfl (fun ls hl => ?_)
      exact hh96 fu 0 M13 L9 _ _ ls hD hw (lv_sub hl [1, 2, 0] rfl)
    · replace hD := g_neg c7 hD
      refine lv_aload_n C.1.1 C.1.2.1 dX12_body_70 rfl (lv_at hl 0 rfl) ?_
      refine mr_getI C hw kc_12 49 (by decide) tf_821 wd_2149 dX12_body_71 (by decide) rfl ?_
      exact mr_iret C hr hlocks hw rfl (Option.some.inj hD) dX12_body_74
  have hh21 : ∀ (f : Nat) (v2 : Int32) (v3 : Int32) (M : mwM) (L : mwL) (H : Heap) (locs : List Loc) (ls : Array Slot), fX12_body_h21 fu a1 f (v2, v3, M, L) = some (r0, M0, L0) → mw_W G ad NF TF FF M L H locs → lv_has ls 4 [(0, .ref (ad 821)), (1, .int a1), (2, .int v2), (3, .int v3)] → W p l e ({ frames := 3, cells := 0, slots := 0, locals := 80 }) s m [.ref (ad 821), .int a1].toArray below meth c H locs 0 0 (MQ below (mw_Qi G ad NF TF FF (mw_eqI r0 M0 L0)) [.ref (ad 821), .int a1].toArray s 0 0 (mw_fr G)) (F0 m 21 ls []) := by
    intro f
    induction f with
    | zero => intro v2 v3 M L H locs ls hD; cases hD
    | succ f21 ih21 =>
      intro v2 v3 M L H locs ls hD hw hl
      replace hD : fX12_body_i21 fu a1 (fX12_body_h21 fu a1 f21) v2 v3 M L = some (r0, M0, L0) := hD
      have hb59 : ∀ (v3 : Int32) (s0 : Int32) (M : mwM) (L : mwL) (H : Heap) (locs : List Loc) (ls : Array Slot), fX12_body_b59 fu a1 (fX12_body_h21 fu a1 f21) v3 s0 M L = some (r0, M0, L0) → mw_W G ad NF TF FF M L H locs → lv_has ls 4 [(0, .ref (ad 821)), (1, .int a1), (3, .int v3)] → W p l e ({ frames := 3, cells := 0, slots := 0, locals := 80 }) s m [.ref (ad 821), .int a1].toArray below meth c H locs 0 0 (MQ below (mw_Qi G ad NF TF FF (mw_eqI r0 M0 L0)) [.ref (ad 821), .int a1].toArray s 0 0 (mw_fr G)) (F0 m 59 ls [.int s0]) := by
        intro v3 s0 M L H locs ls hD hw hl
        unfold fX12_body_b59 at hD
        refine lv_istore_n (lv' := [(2, .int s0), (0, .ref (ad 821)), (1, .int a1), (3, .int v3)]) C.1.1 C.1.2.1 dX12_body_59 rfl hl (by decide) rfl (fun ls hl => ?_)
        obtain ⟨x6, ex6, hD⟩ := g_let hD
        refine lv_iinc (v := x6) (lv' := [(3, .int x6), (2, .int s0), (0, .ref (ad 821)), (1, .int a1)]) C.1.1 C.1.2.1 dX12_body_60 hl (k := 3) rfl (by rw [ex6]; rfl) (by decide) rfl (fun ls hl => ?_)
        refine lv_goto (tgt := 21) C.1.1 C.1.2.1 dX12_body_63 (by decide) ?_
        exact ih21 s0 x6 M L _ _ ls hD hw (lv_sub hl [2, 3, 1, 0] rfl)
      unfold fX12_body_i21 at hD
      refine lv_iload_n C.1.1 C.1.2.1 dX12_body_21 rfl (lv_at hl 3 rfl) ?_
      refine lv_aload_n C.1.1 C.1.2.1 dX12_body_22 rfl (lv_at hl 0 rfl) ?_
      refine mr_getI C hw kc_12 48 (by decide) tf_821 wd_2148 dX12_body_23 (by decide) rfl ?_
      refine lv_icmp_ge (tgt := 66) C.1.1 C.1.2.1 dX12_body_26 (by decide) (fun c1 => ?_) (fun c1 => ?_)
      · replace hD := g_pos c1 hD
        exact hb66 v2 M L _ _ ls hD hw (lv_sub hl [0, 1, 2] rfl)
      · replace hD := g_neg c1 hD
        refine lv_iload_n C.1.1 C.1.2.1 dX12_body_29 rfl (lv_at hl 2 rfl) ?_
        refine lv_if_eq (tgt := 66) C.1.1 C.1.2.1 dX12_body_30 (by decide) (fun c2 => ?_) (fun c2 => ?_)
        · replace hD := g_pos c2 hD
          exact hb66 v2 M L _ _ ls hD hw (lv_sub hl [0, 1, 2] rfl)
        · replace hD := g_neg c2 hD
          refine lv_aload_n C.1.1 C.1.2.1 dX12_body_33 rfl (lv_at hl 0 rfl) ?_
          refine mr_getR C hw kc_12 47 (by decide) tf_821 ff_821_47 wd_2147 dX12_body_34 (by decide) rfl ?_
          refine lv_iload_n C.1.1 C.1.2.1 dX12_body_37 rfl (lv_at hl 3 rfl) ?_
          obtain ⟨q3, hD⟩ := g_ck hD
          refine mr_bald C hw (by decide) tf_853 q3 dX12_body_38 ?_
          refine lv_aload_n C.1.1 C.1.2.1 dX12_body_39 rfl (lv_at hl 0 rfl) ?_
          refine mr_getR C hw kc_12 20 (by decide) tf_821 ff_821_20 wd_2120 dX12_body_40 (by decide) rfl ?_
          refine lv_sipush (v := 1200) C.1.1 C.1.2.1 dX12_body_43 (by decide) ?_
          refine lv_iload_n C.1.1 C.1.2.1 dX12_body_46 rfl (lv_at hl 1 rfl) ?_
          refine lv_imul C.1.1 C.1.2.1 dX12_body_47 ?_
          refine lv_iload_n C.1.1 C.1.2.1 dX12_body_48 rfl (lv_at hl 3 rfl) ?_
          refine lv_iadd C.1.1 C.1.2.1 dX12_body_49 ?_
          obtain ⟨q4, hD⟩ := g_ck hD
          refine mr_bald C hw (by decide) tf_837 q4 dX12_body_50 ?_
          refine lv_icmp_ne (tgt := 58) C.1.1 C.1.2.1 dX12_body_51 (by decide) (fun c5 => ?_) (fun c5 => ?_)
          · replace hD := g_neg c5 hD
            refine lv_iconst (v := 0) C.1.1 C.1.2.1 dX12_body_58 (by decide) ?_
            exact hb59 v3 0 M L _ _ ls hD hw (lv_sub hl [0, 1, 3] rfl)
          · replace hD := g_pos c5 hD
            refine lv_iconst (v := 1) C.1.1 C.1.2.1 dX12_body_54 (by decide) ?_
            refine lv_goto (tgt := 59) C.1.1 C.1.2.1 dX12_body_55 (by decide) ?_
            exact hb59 v3 1 M L _ _ ls hD hw (lv_sub hl [0, 1, 3] rfl)
  have hb18 : ∀ (s0 : Int32) (M : mwM) (L : mwL) (H : Heap) (locs : List Loc) (ls : Array Slot), fX12_body_b18 fu a1 s0 M L = some (r0, M0, L0) → mw_W G ad NF TF FF M L H locs → lv_has ls 4 [(0, .ref (ad 821)), (1, .int a1)] → W p l e ({ frames := 3, cells := 0, slots := 0, locals := 80 }) s m [.ref (ad 821), .int a1].toArray below meth c H locs 0 0 (MQ below (mw_Qi G ad NF TF FF (mw_eqI r0 M0 L0)) [.ref (ad 821), .int a1].toArray s 0 0 (mw_fr G)) (F0 m 18 ls [.int s0]) := by
    intro s0 M L H locs ls hD hw hl
    unfold fX12_body_b18 at hD
    refine lv_istore_n (lv' := [(2, .int s0), (0, .ref (ad 821)), (1, .int a1)]) C.1.1 C.1.2.1 dX12_body_18 rfl hl (by decide) rfl (fun ls hl => ?_)
    refine lv_iconst (v := 0) C.1.1 C.1.2.1 dX12_body_19 (by decide) ?_
    refine lv_istore_n (lv' := [(3, .int 0), (2, .int s0), (0, .ref (ad 821)), (1, .int a1)]) C.1.1 C.1.2.1 dX12_body_20 rfl hl (by decide) rfl (fun ls hl => ?_)
    exact hh21 fu s0 0 M L _ _ ls hD hw (lv_sub hl [2, 3, 1, 0] rfl)
  unfold DX12_body at hD
  refine lv_aload_n C.1.1 C.1.2.1 dX12_body_0 rfl (lv_at hl 0 rfl) ?_
  refine mr_getI C hw kc_12 48 (by decide) tf_821 wd_2148 dX12_body_1 (by decide) rfl ?_
  refine lv_aload_n C.1.1 C.1.2.1 dX12_body_4 rfl (lv_at hl 0 rfl) ?_
  refine mr_getR C hw kc_12 19 (by decide) tf_821 ff_821_19 wd_2119 dX12_body_5 (by decide) rfl ?_
  refine lv_iload_n C.1.1 C.1.2.1 dX12_body_8 rfl (lv_at hl 1 rfl) ?_
  obtain ⟨q19, hD⟩ := g_ck hD
  refine mr_iald C hw (by decide) tf_836 q19 dX12_body_9 ?_
  refine lv_icmp_ne (tgt := 17) C.1.1 C.1.2.1 dX12_body_10 (by decide) (fun c20 => ?_) (fun c20 => ?_)
  · replace hD := g_neg c20 hD
    refine lv_iconst (v := 0) C.1.1 C.1.2.1 dX12_body_17 (by decide) ?_
    exact hb18 0 M L _ _ ls hD hw (lv_sub hl [0, 1] rfl)
  · replace hD := g_pos c20 hD
    refine lv_iconst (v := 1) C.1.1 C.1.2.1 dX12_body_13 (by decide) ?_
    refine lv_goto (tgt := 18) C.1.1 C.1.2.1 dX12_body_14 (by decide) ?_
    exact hb18 1 M L _ _ ls hD hw (lv_sub hl [0, 1] rfl)

theorem dX12_width_0 : decode cX12_width 0 = .ok (.aload_n 0, 1) := by decide +kernel
theorem dX12_width_1 : decode cX12_width 1 = .ok (.getfield 222, 3) := by decide +kernel
theorem dX12_width_4 : decode cX12_width 4 = .ok (.iconst 2, 1) := by decide +kernel
theorem dX12_width_5 : decode cX12_width 5 = .ok (.if_icmp .eq 16, 3) := by decide +kernel
theorem dX12_width_8 : decode cX12_width 8 = .ok (.aload_n 0, 1) := by decide +kernel
theorem dX12_width_9 : decode cX12_width 9 = .ok (.getfield 222, 3) := by decide +kernel
theorem dX12_width_12 : decode cX12_width 12 = .ok (.iconst 3, 1) := by decide +kernel
theorem dX12_width_13 : decode cX12_width 13 = .ok (.if_icmp .eq 8, 3) := by decide +kernel
theorem dX12_width_16 : decode cX12_width 16 = .ok (.bipush 15, 2) := by decide +kernel
theorem dX12_width_18 : decode cX12_width 18 = .ok (.goto 26, 3) := by decide +kernel
theorem dX12_width_21 : decode cX12_width 21 = .ok (.aload_n 0, 1) := by decide +kernel
theorem dX12_width_22 : decode cX12_width 22 = .ok (.getfield 222, 3) := by decide +kernel
theorem dX12_width_25 : decode cX12_width 25 = .ok (.aload_n 0, 1) := by decide +kernel
theorem dX12_width_26 : decode cX12_width 26 = .ok (.getfield 225, 3) := by decide +kernel
theorem dX12_width_29 : decode cX12_width 29 = .ok (.invokestatic 146, 3) := by decide +kernel
theorem dX12_width_32 : decode cX12_width 32 = .ok (.bipush 16, 2) := by decide +kernel
theorem dX12_width_34 : decode cX12_width 34 = .ok (.if_icmp .le 8, 3) := by decide +kernel
theorem dX12_width_37 : decode cX12_width 37 = .ok (.bipush 21, 2) := by decide +kernel
theorem dX12_width_39 : decode cX12_width 39 = .ok (.goto 5, 3) := by decide +kernel
theorem dX12_width_42 : decode cX12_width 42 = .ok (.bipush 17, 2) := by decide +kernel
theorem dX12_width_44 : decode cX12_width 44 = .ok (.ireturn, 1) := by decide +kernel
theorem cwX12_width : mw_cwV yX12_width cX12_width 1 ((some .int)) 0 := ⟨⟨wd_15, wd_3731, by decide +kernel⟩, wd_3730, sl_248⟩
noncomputable def fX12_width_b44 (fu : Nat) (s0 : Int32) (M : mwM) (L : mwL) : Option (Int32 × mwM × mwL) :=
  some (s0, M, L)
noncomputable def fX12_width_b21 (fu : Nat) (M : mwM) (L : mwL) : Option (Int32 × mwM × mwL) :=
  mb3 (DX12_octetsOf fu (M 821 42) (M 821 43) M L) (fun r3 M1 L2 => (if r3 ≤ 16 then fX12_width_b44 fu 17 M1 L2 else fX12_width_b44 fu 21 M1 L2))
noncomputable def DX12_width (fu : Nat) (M : mwM) (L : mwL) : Option (Int32 × mwM × mwL) :=
  (if (M 821 42) = 2 then fX12_width_b21 fu M L else (if (M 821 42) = 3 then fX12_width_b21 fu M L else fX12_width_b44 fu 15 M L))
set_option maxHeartbeats 4000000 in
set_option maxRecDepth 100000 in
theorem tX12_width (l : Launch) (G : mwG) (ad : Nat → Nat) (fu : Nat) (M : mwM) (L : mwL) {r0 : Int32} {M0 : mwM} {L0 : mwL} (hD : DX12_width fu M L = some (r0, M0, L0)) : Met l yX12_width (Cond.code yX12_width cX12_width 1 ((some .int)) :: GT) ({ frames := 1, cells := 0, slots := 0, locals := 21 }) (mw_Pre G ad NF TF FF M L [.ref (ad 821)]) (mw_Qi G ad NF TF FF (mw_eqI r0 M0 L0)) 0 0 (mw_fr G) := by
  refine mw_enter (by decide) (Nat.le_of_ble_eq_true rfl) ?_
  intro p e s m below meth c ls C hr hlocks hnm hw hl
  have hl : lv_has ls 1 [(0, .ref (ad 821))] := hl
  have hb44 : ∀ (s0 : Int32) (M : mwM) (L : mwL) (H : Heap) (locs : List Loc) (ls : Array Slot), fX12_width_b44 fu s0 M L = some (r0, M0, L0) → mw_W G ad NF TF FF M L H locs → lv_has ls 1 [] → W p l e ({ frames := 1, cells := 0, slots := 0, locals := 21 }) s m [.ref (ad 821)].toArray below meth c H locs 0 0 (MQ below (mw_Qi G ad NF TF FF (mw_eqI r0 M0 L0)) [.ref (ad 821)].toArray s 0 0 (mw_fr G)) (F0 m 44 ls [.int s0]) := by
    intro s0 M L H locs ls hD hw hl
    unfold fX12_width_b44 at hD
    exact mr_iret C hr hlocks hw rfl (Option.some.inj hD) dX12_width_44
  have hb21 : ∀ (M : mwM) (L : mwL) (H : Heap) (locs : List Loc) (ls : Array Slot), fX12_width_b21 fu M L = some (r0, M0, L0) → mw_W G ad NF TF FF M L H locs → lv_has ls 1 [(0, .ref (ad 821))] → W p l e ({ frames := 1, cells := 0, slots := 0, locals := 21 }) s m [.ref (ad 821)].toArray below meth c H locs 0 0 (MQ below (mw_Qi G ad NF TF FF (mw_eqI r0 M0 L0)) [.ref (ad 821)].toArray s 0 0 (mw_fr G)) (F0 m 21 ls []) := by
    intro M L H locs ls hD hw hl
    unfold fX12_width_b21 at hD
    refine lv_aload_n C.1.1 C.1.2.1 dX12_width_21 rfl (lv_at hl 0 rfl) ?_
    refine mr_getI C hw kc_12 42 (by decide) tf_821 wd_2142 dX12_width_22 (by decide) rfl ?_
    refine lv_aload_n C.1.1 C.1.2.1 dX12_width_25 rfl (lv_at hl 0 rfl) ?_
    refine mr_getI C hw kc_12 43 (by decide) tf_821 wd_2143 dX12_width_26 (by decide) rfl ?_
    obtain ⟨r3, M1, L2, h1, hD⟩ := g_b3 hD
    refine md_csI (As := [.int (M 821 42), .int (M 821 43)]) (rest := []) C hw (tX12_octetsOf l G ad fu (M 821 42) (M 821 43) M L h1) wd_3639 cwX12_octetsOf ⟨Nat.le_of_ble_eq_true rfl, Nat.le_of_ble_eq_true rfl⟩ rfl hl.1 (Nat.le_of_ble_eq_true rfl) dX12_width_29 rfl rfl ⟨Nat.zero_le _, Nat.zero_le _⟩ rfl (fun H locs hw => ?_)
    refine lv_bipush (v := 16) C.1.1 C.1.2.1 dX12_width_32 (by decide) ?_
    refine lv_icmp_le (tgt := 42) C.1.1 C.1.2.1 dX12_width_34 (by decide) (fun c4 => ?_) (fun c4 => ?_)
    · replace hD := g_pos c4 hD
      refine lv_bipush (v := 17) C.1.1 C.1.2.1 dX12_width_42 (by decide) ?_
      exact hb44 17 M1 L2 _ _ ls hD hw (lv_sub hl [] rfl)
    · replace hD := g_neg c4 hD
      refine lv_bipush (v := 21) C.1.1 C.1.2.1 dX12_width_37 (by decide) ?_
      refine lv_goto (tgt := 44) C.1.1 C.1.2.1 dX12_width_39 (by decide) ?_
      exact hb44 21 M1 L2 _ _ ls hD hw (lv_sub hl [] rfl)
  unfold DX12_width at hD
  refine lv_aload_n C.1.1 C.1.2.1 dX12_width_0 rfl (lv_at hl 0 rfl) ?_
  refine mr_getI C hw kc_12 42 (by decide) tf_821 wd_2142 dX12_width_1 (by decide) rfl ?_
  refine lv_iconst (v := 2) C.1.1 C.1.2.1 dX12_width_4 (by decide) ?_
  refine lv_icmp_eq (tgt := 21) C.1.1 C.1.2.1 dX12_width_5 (by decide) (fun c5 => ?_) (fun c5 => ?_)
  · replace hD := g_pos c5 hD
    exact hb21 M L _ _ ls hD hw (lv_sub hl [0] rfl)
  · replace hD := g_neg c5 hD
    refine lv_aload_n C.1.1 C.1.2.1 dX12_width_8 rfl (lv_at hl 0 rfl) ?_
    refine mr_getI C hw kc_12 42 (by decide) tf_821 wd_2142 dX12_width_9 (by decide) rfl ?_
    refine lv_iconst (v := 3) C.1.1 C.1.2.1 dX12_width_12 (by decide) ?_
    refine lv_icmp_eq (tgt := 21) C.1.1 C.1.2.1 dX12_width_13 (by decide) (fun c6 => ?_) (fun c6 => ?_)
    · replace hD := g_pos c6 hD
      exact hb21 M L _ _ ls hD hw (lv_sub hl [0] rfl)
    · replace hD := g_neg c6 hD
      refine lv_bipush (v := 15) C.1.1 C.1.2.1 dX12_width_16 (by decide) ?_
      refine lv_goto (tgt := 44) C.1.1 C.1.2.1 dX12_width_18 (by decide) ?_
      exact hb44 15 M L _ _ ls hD hw (lv_sub hl [] rfl)

theorem dX12_tail_0 : decode cX12_tail 0 = .ok (.aload_n 0, 1) := by decide +kernel
theorem dX12_tail_1 : decode cX12_tail 1 = .ok (.getfield 222, 3) := by decide +kernel
theorem dX12_tail_4 : decode cX12_tail 4 = .ok (.iconst 2, 1) := by decide +kernel
theorem dX12_tail_5 : decode cX12_tail 5 = .ok (.if_icmp .eq 13, 3) := by decide +kernel
theorem dX12_tail_8 : decode cX12_tail 8 = .ok (.aload_n 0, 1) := by decide +kernel
theorem dX12_tail_9 : decode cX12_tail 9 = .ok (.getfield 222, 3) := by decide +kernel
theorem dX12_tail_12 : decode cX12_tail 12 = .ok (.iconst 3, 1) := by decide +kernel
theorem dX12_tail_13 : decode cX12_tail 13 = .ok (.if_icmp .eq 5, 3) := by decide +kernel
theorem dX12_tail_16 : decode cX12_tail 16 = .ok (.iconst 0, 1) := by decide +kernel
theorem dX12_tail_17 : decode cX12_tail 17 = .ok (.ireturn, 1) := by decide +kernel
theorem dX12_tail_18 : decode cX12_tail 18 = .ok (.iconst 4, 1) := by decide +kernel
theorem dX12_tail_19 : decode cX12_tail 19 = .ok (.aload_n 0, 1) := by decide +kernel
theorem dX12_tail_20 : decode cX12_tail 20 = .ok (.invokevirtual 235, 3) := by decide +kernel
theorem dX12_tail_23 : decode cX12_tail 23 = .ok (.iadd, 1) := by decide +kernel
theorem dX12_tail_24 : decode cX12_tail 24 = .ok (.istore_n 1, 1) := by decide +kernel
theorem dX12_tail_25 : decode cX12_tail 25 = .ok (.iload_n 1, 1) := by decide +kernel
theorem dX12_tail_26 : decode cX12_tail 26 = .ok (.iload_n 1, 1) := by decide +kernel
theorem dX12_tail_27 : decode cX12_tail 27 = .ok (.iconst 3, 1) := by decide +kernel
theorem dX12_tail_28 : decode cX12_tail 28 = .ok (.iadd, 1) := by decide +kernel
theorem dX12_tail_29 : decode cX12_tail 29 = .ok (.iconst 4, 1) := by decide +kernel
theorem dX12_tail_30 : decode cX12_tail 30 = .ok (.idiv, 1) := by decide +kernel
theorem dX12_tail_31 : decode cX12_tail 31 = .ok (.iadd, 1) := by decide +kernel
theorem dX12_tail_32 : decode cX12_tail 32 = .ok (.ireturn, 1) := by decide +kernel
theorem cwX12_tail : mw_cwV yX12_tail cX12_tail 2 ((some .int)) 0 := ⟨⟨wd_15, wd_3727, by decide +kernel⟩, wd_3726, sl_247⟩
noncomputable def fX12_tail_b18 (fu : Nat) (M : mwM) (L : mwL) : Option (Int32 × mwM × mwL) :=
  mb3 (DX12_width fu M L) (fun r3 M1 L2 => mlet (4 + r3) (fun x4 => some (x4 + ((x4 + 3) / 4), M1, L2)))
noncomputable def DX12_tail (fu : Nat) (M : mwM) (L : mwL) : Option (Int32 × mwM × mwL) :=
  (if (M 821 42) = 2 then fX12_tail_b18 fu M L else (if (M 821 42) = 3 then fX12_tail_b18 fu M L else some (0, M, L)))
set_option maxHeartbeats 4000000 in
set_option maxRecDepth 100000 in
theorem tX12_tail (l : Launch) (G : mwG) (ad : Nat → Nat) (fu : Nat) (M : mwM) (L : mwL) {r0 : Int32} {M0 : mwM} {L0 : mwL} (hD : DX12_tail fu M L = some (r0, M0, L0)) : Met l yX12_tail (Cond.code yX12_tail cX12_tail 2 ((some .int)) :: GT) ({ frames := 2, cells := 0, slots := 0, locals := 41 }) (mw_Pre G ad NF TF FF M L [.ref (ad 821)]) (mw_Qi G ad NF TF FF (mw_eqI r0 M0 L0)) 0 0 (mw_fr G) := by
  refine mw_enter (by decide) (Nat.le_of_ble_eq_true rfl) ?_
  intro p e s m below meth c ls C hr hlocks hnm hw hl
  have hl : lv_has ls 2 [(0, .ref (ad 821))] := hl
  have hb18 : ∀ (M : mwM) (L : mwL) (H : Heap) (locs : List Loc) (ls : Array Slot), fX12_tail_b18 fu M L = some (r0, M0, L0) → mw_W G ad NF TF FF M L H locs → lv_has ls 2 [(0, .ref (ad 821))] → W p l e ({ frames := 2, cells := 0, slots := 0, locals := 41 }) s m [.ref (ad 821)].toArray below meth c H locs 0 0 (MQ below (mw_Qi G ad NF TF FF (mw_eqI r0 M0 L0)) [.ref (ad 821)].toArray s 0 0 (mw_fr G)) (F0 m 18 ls []) := by
    intro M L H locs ls hD hw hl
    unfold fX12_tail_b18 at hD
    refine lv_iconst (v := 4) C.1.1 C.1.2.1 dX12_tail_18 (by decide) ?_
    refine lv_aload_n C.1.1 C.1.2.1 dX12_tail_19 rfl (lv_at hl 0 rfl) ?_
    obtain ⟨r3, M1, L2, h1, hD⟩ := g_b3 hD
    refine md_cvI (As := []) (rest := [.int 4]) C hw (tX12_width l G ad fu M L h1) kc_12 (by decide) tf_821 wd_3728 cwX12_width ⟨Nat.le_of_ble_eq_true rfl, Nat.le_of_ble_eq_true rfl⟩ rfl hl.1 (Nat.le_of_ble_eq_true rfl) dX12_tail_20 rfl rfl ⟨Nat.zero_le _, Nat.zero_le _⟩ rfl (fun H locs hw => ?_)
    refine lv_iadd C.1.1 C.1.2.1 dX12_tail_23 ?_
    obtain ⟨x4, ex4, hD⟩ := g_let hD
    refine W.eq (g2 := F0 m 24 ls (.int x4 :: [])) (by rw [ex4]) ?_
    refine lv_istore_n (lv' := [(1, .int x4), (0, .ref (ad 821))]) C.1.1 C.1.2.1 dX12_tail_24 rfl hl (by decide) rfl (fun ls hl => ?_)
    refine lv_iload_n C.1.1 C.1.2.1 dX12_tail_25 rfl (lv_at hl 0 rfl) ?_
    refine lv_iload_n C.1.1 C.1.2.1 dX12_tail_26 rfl (lv_at hl 0 rfl) ?_
    refine lv_iconst (v := 3) C.1.1 C.1.2.1 dX12_tail_27 (by decide) ?_
    refine lv_iadd C.1.1 C.1.2.1 dX12_tail_28 ?_
    refine lv_iconst (v := 4) C.1.1 C.1.2.1 dX12_tail_29 (by decide) ?_
    refine lv_idiv C.1.1 C.1.2.1 dX12_tail_30 (by decide) ?_
    refine lv_iadd C.1.1 C.1.2.1 dX12_tail_31 ?_
    exact mr_iret C hr hlocks hw rfl (Option.some.inj hD) dX12_tail_32
  unfold DX12_tail at hD
  refine lv_aload_n C.1.1 C.1.2.1 dX12_tail_0 rfl (lv_at hl 0 rfl) ?_
  refine mr_getI C hw kc_12 42 (by decide) tf_821 wd_2142 dX12_tail_1 (by decide) rfl ?_
  refine lv_iconst (v := 2) C.1.1 C.1.2.1 dX12_tail_4 (by decide) ?_
  refine lv_icmp_eq (tgt := 18) C.1.1 C.1.2.1 dX12_tail_5 (by decide) (fun c6 => ?_) (fun c6 => ?_)
  · replace hD := g_pos c6 hD
    exact hb18 M L _ _ ls hD hw (lv_sub hl [0] rfl)
  · replace hD := g_neg c6 hD
    refine lv_aload_n C.1.1 C.1.2.1 dX12_tail_8 rfl (lv_at hl 0 rfl) ?_
    refine mr_getI C hw kc_12 42 (by decide) tf_821 wd_2142 dX12_tail_9 (by decide) rfl ?_
    refine lv_iconst (v := 3) C.1.1 C.1.2.1 dX12_tail_12 (by decide) ?_
    refine lv_icmp_eq (tgt := 18) C.1.1 C.1.2.1 dX12_tail_13 (by decide) (fun c7 => ?_) (fun c7 => ?_)
    · replace hD := g_pos c7 hD
      exact hb18 M L _ _ ls hD hw (lv_sub hl [0] rfl)
    · replace hD := g_neg c7 hD
      refine lv_iconst (v := 0) C.1.1 C.1.2.1 dX12_tail_16 (by decide) ?_
      exact mr_iret C hr hlocks hw rfl (Option.some.inj hD) dX12_tail_17

theorem dX12_right_0 : decode cX12_right 0 = .ok (.aload_n 0, 1) := by decide +kernel
theorem dX12_right_1 : decode cX12_right 1 = .ok (.invokevirtual 235, 3) := by decide +kernel
theorem dX12_right_4 : decode cX12_right 4 = .ok (.istore_n 2, 1) := by decide +kernel
theorem dX12_right_5 : decode cX12_right 5 = .ok (.iconst 0, 1) := by decide +kernel
theorem dX12_right_6 : decode cX12_right 6 = .ok (.istore_n 3, 1) := by decide +kernel
theorem dX12_right_7 : decode cX12_right 7 = .ok (.aload_n 0, 1) := by decide +kernel
theorem dX12_right_8 : decode cX12_right 8 = .ok (.invokevirtual 239, 3) := by decide +kernel
theorem dX12_right_11 : decode cX12_right 11 = .ok (.ifCond .le 8, 3) := by decide +kernel
theorem dX12_right_14 : decode cX12_right 14 = .ok (.aload_n 0, 1) := by decide +kernel
theorem dX12_right_15 : decode cX12_right 15 = .ok (.iconst (-1), 1) := by decide +kernel
theorem dX12_right_16 : decode cX12_right 16 = .ok (.putfield 114, 3) := by decide +kernel
theorem dX12_right_19 : decode cX12_right 19 = .ok (.aload_n 0, 1) := by decide +kernel
theorem dX12_right_20 : decode cX12_right 20 = .ok (.invokevirtual 239, 3) := by decide +kernel
theorem dX12_right_23 : decode cX12_right 23 = .ok (.ifCond .ne 70, 3) := by decide +kernel
theorem dX12_right_26 : decode cX12_right 26 = .ok (.aload_n 0, 1) := by decide +kernel
theorem dX12_right_27 : decode cX12_right 27 = .ok (.aload_n 0, 1) := by decide +kernel
theorem dX12_right_28 : decode cX12_right 28 = .ok (.getfield 150, 3) := by decide +kernel
theorem dX12_right_31 : decode cX12_right 31 = .ok (.bipush 15, 2) := by decide +kernel
theorem dX12_right_33 : decode cX12_right 33 = .ok (.isub, 1) := by decide +kernel
theorem dX12_right_34 : decode cX12_right 34 = .ok (.bipush 15, 2) := by decide +kernel
theorem dX12_right_36 : decode cX12_right 36 = .ok (.invokevirtual 228, 3) := by decide +kernel
theorem dX12_right_39 : decode cX12_right 39 = .ok (.istore_n 3, 1) := by decide +kernel
theorem dX12_right_40 : decode cX12_right 40 = .ok (.aload_n 0, 1) := by decide +kernel
theorem dX12_right_41 : decode cX12_right 41 = .ok (.iconst 0, 1) := by decide +kernel
theorem dX12_right_42 : decode cX12_right 42 = .ok (.putfield 160, 3) := by decide +kernel
theorem dX12_right_45 : decode cX12_right 45 = .ok (.iconst 0, 1) := by decide +kernel
theorem dX12_right_46 : decode cX12_right 46 = .ok (.istore 4, 2) := by decide +kernel
theorem dX12_right_48 : decode cX12_right 48 = .ok (.iload 4, 2) := by decide +kernel
theorem dX12_right_50 : decode cX12_right 50 = .ok (.aload_n 0, 1) := by decide +kernel
theorem dX12_right_51 : decode cX12_right 51 = .ok (.getfield 150, 3) := by decide +kernel
theorem dX12_right_54 : decode cX12_right 54 = .ok (.bipush 15, 2) := by decide +kernel
theorem dX12_right_56 : decode cX12_right 56 = .ok (.isub, 1) := by decide +kernel
theorem dX12_right_57 : decode cX12_right 57 = .ok (.if_icmp .ge 20, 3) := by decide +kernel
theorem dX12_right_60 : decode cX12_right 60 = .ok (.aload_n 0, 1) := by decide +kernel
theorem dX12_right_61 : decode cX12_right 61 = .ok (.aload_n 0, 1) := by decide +kernel
theorem dX12_right_62 : decode cX12_right 62 = .ok (.getfield 96, 3) := by decide +kernel
theorem dX12_right_65 : decode cX12_right 65 = .ok (.iload 4, 2) := by decide +kernel
theorem dX12_right_67 : decode cX12_right 67 = .ok (.baload, 1) := by decide +kernel
theorem dX12_right_68 : decode cX12_right 68 = .ok (.invokevirtual 177, 3) := by decide +kernel
theorem dX12_right_71 : decode cX12_right 71 = .ok (.iinc 4 1, 3) := by decide +kernel
theorem dX12_right_74 : decode cX12_right 74 = .ok (.goto (-26), 3) := by decide +kernel
theorem dX12_right_77 : decode cX12_right 77 = .ok (.iload_n 3, 1) := by decide +kernel
theorem dX12_right_78 : decode cX12_right 78 = .ok (.aload_n 0, 1) := by decide +kernel
theorem dX12_right_79 : decode cX12_right 79 = .ok (.bipush 15, 2) := by decide +kernel
theorem dX12_right_81 : decode cX12_right 81 = .ok (.invokevirtual 180, 3) := by decide +kernel
theorem dX12_right_84 : decode cX12_right 84 = .ok (.if_icmp .ne 7, 3) := by decide +kernel
theorem dX12_right_87 : decode cX12_right 87 = .ok (.iconst 1, 1) := by decide +kernel
theorem dX12_right_88 : decode cX12_right 88 = .ok (.goto 4, 3) := by decide +kernel
theorem dX12_right_91 : decode cX12_right 91 = .ok (.iconst 0, 1) := by decide +kernel
theorem dX12_right_92 : decode cX12_right 92 = .ok (.ireturn, 1) := by decide +kernel
theorem dX12_right_93 : decode cX12_right 93 = .ok (.iconst 0, 1) := by decide +kernel
theorem dX12_right_94 : decode cX12_right 94 = .ok (.istore 4, 2) := by decide +kernel
theorem dX12_right_96 : decode cX12_right 96 = .ok (.iconst 0, 1) := by decide +kernel
theorem dX12_right_97 : decode cX12_right 97 = .ok (.istore 5, 2) := by decide +kernel
theorem dX12_right_99 : decode cX12_right 99 = .ok (.iload 5, 2) := by decide +kernel
theorem dX12_right_101 : decode cX12_right 101 = .ok (.aload_n 0, 1) := by decide +kernel
theorem dX12_right_102 : decode cX12_right 102 = .ok (.invokevirtual 239, 3) := by decide +kernel
theorem dX12_right_105 : decode cX12_right 105 = .ok (.if_icmp .ge 58, 3) := by decide +kernel
theorem dX12_right_108 : decode cX12_right 108 = .ok (.iload 5, 2) := by decide +kernel
theorem dX12_right_110 : decode cX12_right 110 = .ok (.iconst 5, 1) := by decide +kernel
theorem dX12_right_111 : decode cX12_right 111 = .ok (.irem, 1) := by decide +kernel
theorem dX12_right_112 : decode cX12_right 112 = .ok (.ifCond .ne 6, 3) := by decide +kernel
theorem dX12_right_115 : decode cX12_right 115 = .ok (.goto 42, 3) := by decide +kernel
theorem dX12_right_118 : decode cX12_right 118 = .ok (.aload_n 0, 1) := by decide +kernel
theorem dX12_right_119 : decode cX12_right 119 = .ok (.iload_n 1, 1) := by decide +kernel
theorem dX12_right_120 : decode cX12_right 120 = .ok (.aload_n 0, 1) := by decide +kernel
theorem dX12_right_121 : decode cX12_right 121 = .ok (.getfield 209, 3) := by decide +kernel
theorem dX12_right_124 : decode cX12_right 124 = .ok (.iload 5, 2) := by decide +kernel
theorem dX12_right_126 : decode cX12_right 126 = .ok (.iadd, 1) := by decide +kernel
theorem dX12_right_127 : decode cX12_right 127 = .ok (.invokevirtual 215, 3) := by decide +kernel
theorem dX12_right_130 : decode cX12_right 130 = .ok (.istore 6, 2) := by decide +kernel
theorem dX12_right_132 : decode cX12_right 132 = .ok (.iload 4, 2) := by decide +kernel
theorem dX12_right_134 : decode cX12_right 134 = .ok (.iconst 4, 1) := by decide +kernel
theorem dX12_right_135 : decode cX12_right 135 = .ok (.if_icmp .ge 12, 3) := by decide +kernel
theorem dX12_right_138 : decode cX12_right 138 = .ok (.aload_n 0, 1) := by decide +kernel
theorem dX12_right_139 : decode cX12_right 139 = .ok (.iload 6, 2) := by decide +kernel
theorem dX12_right_141 : decode cX12_right 141 = .ok (.invokevirtual 177, 3) := by decide +kernel
theorem dX12_right_144 : decode cX12_right 144 = .ok (.goto 10, 3) := by decide +kernel
theorem dX12_right_147 : decode cX12_right 147 = .ok (.iconst 2, 1) := by decide +kernel
theorem dX12_right_148 : decode cX12_right 148 = .ok (.iload_n 3, 1) := by decide +kernel
theorem dX12_right_149 : decode cX12_right 149 = .ok (.imul, 1) := by decide +kernel
theorem dX12_right_150 : decode cX12_right 150 = .ok (.iload 6, 2) := by decide +kernel
theorem dX12_right_152 : decode cX12_right 152 = .ok (.iadd, 1) := by decide +kernel
theorem dX12_right_153 : decode cX12_right 153 = .ok (.istore_n 3, 1) := by decide +kernel
theorem dX12_right_154 : decode cX12_right 154 = .ok (.iinc 4 1, 3) := by decide +kernel
theorem dX12_right_157 : decode cX12_right 157 = .ok (.iinc 5 1, 3) := by decide +kernel
theorem dX12_right_160 : decode cX12_right 160 = .ok (.goto (-61), 3) := by decide +kernel
theorem dX12_right_163 : decode cX12_right 163 = .ok (.iload_n 3, 1) := by decide +kernel
theorem dX12_right_164 : decode cX12_right 164 = .ok (.aload_n 0, 1) := by decide +kernel
theorem dX12_right_165 : decode cX12_right 165 = .ok (.iload_n 2, 1) := by decide +kernel
theorem dX12_right_166 : decode cX12_right 166 = .ok (.invokevirtual 180, 3) := by decide +kernel
theorem dX12_right_169 : decode cX12_right 169 = .ok (.if_icmp .ne 7, 3) := by decide +kernel
theorem dX12_right_172 : decode cX12_right 172 = .ok (.iconst 1, 1) := by decide +kernel
theorem dX12_right_173 : decode cX12_right 173 = .ok (.goto 4, 3) := by decide +kernel
theorem dX12_right_176 : decode cX12_right 176 = .ok (.iconst 0, 1) := by decide +kernel
theorem dX12_right_177 : decode cX12_right 177 = .ok (.ireturn, 1) := by decide +kernel
theorem cwX12_right : mw_cwV yX12_right cX12_right 7 ((some .boolean)) 1 := ⟨⟨wd_15, wd_3735, by decide +kernel⟩, wd_3734, sl_249⟩
noncomputable def fX12_right_b92 (fu : Nat) (a1 : Int32) (s0 : Int32) (M : mwM) (L : mwL) : Option (Int32 × mwM × mwL) :=
  mzz s0 (some (s0, M, L))
noncomputable def fX12_right_i48 (fu : Nat) (a1 : Int32) (r48 : (Int32 × Int32 × mwM × mwL) → Option (Int32 × mwM × mwL)) (v3 : Int32) (v4 : Int32) (M : mwM) (L : mwL) : Option (Int32 × mwM × mwL) :=
  (if ((M 821 34) - 15) ≤ v4 then mb3 (DX12_checkOf fu 15 M L) (fun r12 M10 L11 => (if v3 = r12 then fX12_right_b92 fu a1 1 M10 L11 else fX12_right_b92 fu a1 0 M10 L11)) else mck v4 700 (mb2 (DX12_check fu (M 848 v4.toNatClampNeg) M L) (fun M15 L16 => mlet (v4 + 1) (fun x17 => r48 (v3, x17, M15, L16)))))
noncomputable def fX12_right_h48 (fu : Nat) (a1 : Int32) : Nat → (Int32 × Int32 × mwM × mwL) → Option (Int32 × mwM × mwL) := mloop (fun r48 s => fX12_right_i48 fu a1 r48 s.1 s.2.1 s.2.2.1 s.2.2.2)
noncomputable def fX12_right_b177 (fu : Nat) (a1 : Int32) (s0 : Int32) (M : mwM) (L : mwL) : Option (Int32 × mwM × mwL) :=
  mzz s0 (some (s0, M, L))
noncomputable def fX12_right_b157 (fu : Nat) (a1 : Int32) (r99 : (Int32 × Int32 × Int32 × Int32 × mwM × mwL) → Option (Int32 × mwM × mwL)) (v2 : Int32) (v3 : Int32) (v4 : Int32) (v5 : Int32) (M : mwM) (L : mwL) : Option (Int32 × mwM × mwL) :=
  mlet (v5 + 1) (fun x37 => r99 (v2, v3, v4, x37, M, L))
noncomputable def fX12_right_b154 (fu : Nat) (a1 : Int32) (r99 : (Int32 × Int32 × Int32 × Int32 × mwM × mwL) → Option (Int32 × mwM × mwL)) (v2 : Int32) (v3 : Int32) (v4 : Int32) (v5 : Int32) (M : mwM) (L : mwL) : Option (Int32 × mwM × mwL) :=
  mlet (v4 + 1) (fun x36 => fX12_right_b157 fu a1 r99 v2 v3 x36 v5 M L)
noncomputable def fX12_right_i99 (fu : Nat) (a1 : Int32) (r99 : (Int32 × Int32 × Int32 × Int32 × mwM × mwL) → Option (Int32 × mwM × mwL)) (v2 : Int32) (v3 : Int32) (v4 : Int32) (v5 : Int32) (M : mwM) (L : mwL) : Option (Int32 × mwM × mwL) :=
  mb3 (DX12_tail fu M L) (fun r21 M19 L20 => (if r21 ≤ v5 then mb3 (DX12_checkOf fu v2 M19 L20) (fun r25 M23 L24 => (if v3 = r25 then fX12_right_b177 fu a1 1 M23 L24 else fX12_right_b177 fu a1 0 M23 L24)) else (if (v5 - v5 / 5 * 5) = 0 then fX12_right_b157 fu a1 r99 v2 v3 v4 v5 M19 L20 else mb3 (DX12_bitAt fu a1 ((M19 821 45) + v5) M19 L20) (fun r31 M29 L30 => (if 4 ≤ v4 then mlet ((2 * v3) + r31) (fun x33 => fX12_right_b154 fu a1 r99 v2 x33 v4 v5 M29 L30) else mb2 (DX12_check fu r31 M29 L30) (fun M34 L35 => fX12_right_b154 fu a1 r99 v2 v3 v4 v5 M34 L35))))))
noncomputable def fX12_right_h99 (fu : Nat) (a1 : Int32) : Nat → (Int32 × Int32 × Int32 × Int32 × mwM × mwL) → Option (Int32 × mwM × mwL) := mloop (fun r99 s => fX12_right_i99 fu a1 r99 s.1 s.2.1 s.2.2.1 s.2.2.2.1 s.2.2.2.2.1 s.2.2.2.2.2)
noncomputable def fX12_right_b19 (fu : Nat) (a1 : Int32) (v2 : Int32) (v3 : Int32) (M : mwM) (L : mwL) : Option (Int32 × mwM × mwL) :=
  mb3 (DX12_tail fu M L) (fun r3 M1 L2 => (if r3 = 0 then mb3 (DX12_number fu ((M1 821 34) - 15) 15 M1 L2) (fun r7 M5 L6 => mlet (mset M5 821 41 0) (fun M8 => fX12_right_h48 fu a1 fu (r7, 0, M8, L6))) else fX12_right_h99 fu a1 fu (v2, v3, 0, 0, M1, L2)))
noncomputable def DX12_right (fu : Nat) (a1 : Int32) (M : mwM) (L : mwL) : Option (Int32 × mwM × mwL) :=
  mb3 (DX12_width fu M L) (fun r41 M39 L40 => mb3 (DX12_tail fu M39 L40) (fun r44 M42 L43 => (if r44 ≤ 0 then fX12_right_b19 fu a1 r41 0 M42 L43 else mlet (mset M42 821 48 ((-1))) (fun M46 => fX12_right_b19 fu a1 r41 0 M46 L43))))
set_option maxHeartbeats 4000000 in
set_option maxRecDepth 100000 in
theorem tX12_right (l : Launch) (G : mwG) (ad : Nat → Nat) (fu : Nat) (a1 : Int32) (M : mwM) (L : mwL) {r0 : Int32} {M0 : mwM} {L0 : mwL} (hD : DX12_right fu a1 M L = some (r0, M0, L0)) : Met l yX12_right (Cond.code yX12_right cX12_right 7 ((some .boolean)) :: GT) ({ frames := 3, cells := 0, slots := 0, locals := 62 }) (mw_Pre G ad NF TF FF M L [.ref (ad 821), .int a1]) (mw_Qi G ad NF TF FF (mw_eqI r0 M0 L0)) 0 0 (mw_fr G) := by
  refine mw_enter (by decide) (Nat.le_of_ble_eq_true rfl) ?_
  intro p e s m below meth c ls C hr hlocks hnm hw hl
  have hl : lv_has ls 7 [(0, .ref (ad 821)), (1, .int a1)] := hl
  have hb92 : ∀ (s0 : Int32) (M : mwM) (L : mwL) (H : Heap) (locs : List Loc) (ls : Array Slot), fX12_right_b92 fu a1 s0 M L = some (r0, M0, L0) → mw_W G ad NF TF FF M L H locs → lv_has ls 7 [] → W p l e ({ frames := 3, cells := 0, slots := 0, locals := 62 }) s m [.ref (ad 821), .int a1].toArray below meth c H locs 0 0 (MQ below (mw_Qi G ad NF TF FF (mw_eqI r0 M0 L0)) [.ref (ad 821), .int a1].toArray s 0 0 (mw_fr G)) (F0 m 92 ls [.int s0]) := by
    intro s0 M L H locs ls hD hw hl
    unfold fX12_right_b92 at hD
    obtain ⟨z18, hD⟩ := g_zz hD
    exact mr_iret C hr hlocks hw (nz_zz z18) (Option.some.inj hD) dX12_right_92
  have hh48 : ∀ (f : Nat) (v3 : Int32) (v4 : Int32) (M : mwM) (L : mwL) (H : Heap) (locs : List Loc) (ls : Array Slot), fX12_right_h48 fu a1 f (v3, v4, M, L) = some (r0, M0, L0) → mw_W G ad NF TF FF M L H locs → lv_has ls 7 [(0, .ref (ad 821)), (3, .int v3), (4, .int v4)] → W p l e ({ frames := 3, cells := 0, slots := 0, locals := 62 }) s m [.ref (ad 821), .int a1].toArray below meth c H locs 0 0 (MQ below (mw_Qi G ad NF TF FF (mw_eqI r0 M0 L0)) [.ref (ad 821), .int a1].toArray s 0 0 (mw_fr G)) (F0 m 48 ls []) := by
    intro f
    induction f with
    | zero => intro v3 v4 M L H locs ls hD; cases hD
    | succ f48 ih48 =>
      intro v3 v4 M L H locs ls hD hw hl
      replace hD : fX12_right_i48 fu a1 (fX12_right_h48 fu a1 f48) v3 v4 M L = some (r0, M0, L0) := hD
      unfold fX12_right_i48 at hD
      refine lv_iload C.1.1 C.1.2.1 dX12_right_48 (lv_at hl 2 rfl) ?_
      refine lv_aload_n C.1.1 C.1.2.1 dX12_right_50 rfl (lv_at hl 0 rfl) ?_
      refine mr_getI C hw kc_12 34 (by decide) tf_821 wd_2134 dX12_right_51 (by decide) rfl ?_
      refine lv_bipush (v := 15) C.1.1 C.1.2.1 dX12_right_54 (by decide) ?_
      refine lv_isub C.1.1 C.1.2.1 dX12_right_56 ?_
      refine lv_icmp_ge (tgt := 77) C.1.1 C.1.2.1 dX12_right_57 (by decide) (fun c9 => ?_) (fun c9 => ?_)
      · replace hD := g_pos c9 hD
        refine lv_iload_n C.1.1 C.1.2.1 dX12_right_77 rfl (lv_at hl 1 rfl) ?_
        refine lv_aload_n C.1.1 C.1.2.1 dX12_right_78 rfl (lv_at hl 0 rfl) ?_
        refine lv_bipush (v := 15) C.1.1 C.1.2.1 dX12_right_79 (by decide) ?_
        obtain ⟨r12, M10, L11, h1, hD⟩ := g_b3 hD
        refine md_cvI (As := [.int 15]) (rest := [.int v3]) C hw (tX12_checkOf l G ad fu 15 M L h1) kc_12 (by decide) tf_821 wd_3675 cwX12_checkOf ⟨Nat.le_of_ble_eq_true rfl, Nat.le_of_ble_eq_true rfl⟩ rfl hl.1 (Nat.le_of_ble_eq_true rfl) dX12_right_81 rfl rfl ⟨Nat.zero_le _, Nat.zero_le _⟩ rfl (fun H locs hw => ?_)
        refine lv_icmp_ne (tgt := 91) C.1.1 C.1.2.1 dX12_right_84 (by decide) (fun c13 => ?_) (fun c13 => ?_)
        · replace hD := g_neg c13 hD
          refine lv_iconst (v := 0) C.1.1 C.1.2.1 dX12_right_91 (by decide) ?_
          exact hb92 0 M10 L11 _ _ ls hD hw (lv_sub hl [] rfl)
        · replace hD := g_pos c13 hD
          refine lv_iconst (v := 1) C.1.1 C.1.2.1 dX12_right_87 (by decide) ?_
          refine lv_goto (tgt := 92) C.1.1 C.1.2.1 dX12_right_88 (by decide) ?_
          exact hb92 1 M10 L11 _ _ ls hD hw (lv_sub hl [] rfl)
      · replace hD := g_neg c9 hD
        refine lv_aload_n C.1.1 C.1.2.1 dX12_right_60 rfl (lv_at hl 0 rfl) ?_
        refine lv_aload_n C.1.1 C.1.2.1 dX12_right_61 rfl (lv_at hl 0 rfl) ?_
        refine mr_getR C hw kc_12 33 (by decide) tf_821 ff_821_33 wd_2133 dX12_right_62 (by decide) rfl ?_
        refine lv_iload C.1.1 C.1.2.1 dX12_right_65 (lv_at hl 2 rfl) ?_
        obtain ⟨q14, hD⟩ := g_ck hD
        refine mr_bald C hw (by decide) tf_848 q14 dX12_right_67 ?_
        obtain ⟨M15, L16, h1, hD⟩ := g_b2 hD
        refine md_cvV (As := [.int (M 848 v4.toNatClampNeg)]) (rest := []) C hw (tX12_check l G ad fu (M 848 v4.toNatClampNeg) M L h1) kc_12 (by decide) tf_821 wd_3671 cwX12_check ⟨Nat.le_of_ble_eq_true rfl, Nat.le_of_ble_eq_true rfl⟩ rfl hl.1 (Nat.le_of_ble_eq_true rfl) dX12_right_68 rfl rfl ⟨Nat.zero_le _, Nat.zero_le _⟩ rfl (fun H locs hw => ?_)
        obtain ⟨x17, ex17, hD⟩ := g_let hD
        refine lv_iinc (v := x17) (lv' := [(4, .int x17), (0, .ref (ad 821)), (3, .int v3)]) C.1.1 C.1.2.1 dX12_right_71 hl (k := 2) rfl (by rw [ex17]; rfl) (by decide) rfl (fun ls hl => ?_)
        refine lv_goto (tgt := 48) C.1.1 C.1.2.1 dX12_right_74 (by decide) ?_
        exact ih48 v3 x17 M15 L16 _ _ ls hD hw (lv_sub hl [1, 2, 0] rfl)
  have hb177 : ∀ (s0 : Int32) (M : mwM) (L : mwL) (H : Heap) (locs : List Loc) (ls : Array Slot), fX12_right_b177 fu a1 s0 M L = some (r0, M0, L0) → mw_W G ad NF TF FF M L H locs → lv_has ls 7 [] → W p l e ({ frames := 3, cells := 0, slots := 0, locals := 62 }) s m [.ref (ad 821), .int a1].toArray below meth c H locs 0 0 (MQ below (mw_Qi G ad NF TF FF (mw_eqI r0 M0 L0)) [.ref (ad 821), .int a1].toArray s 0 0 (mw_fr G)) (F0 m 177 ls [.int s0]) := by
    intro s0 M L H locs ls hD hw hl
    unfold fX12_right_b177 at hD
    obtain ⟨z38, hD⟩ := g_zz hD
    exact mr_iret C hr hlocks hw (nz_zz z38) (Option.some.inj hD) dX12_right_177
  have hh99 : ∀ (f : Nat) (v2 : Int32) (v3 : Int32) (v4 : Int32) (v5 : Int32) (M : mwM) (L : mwL) (H : Heap) (locs : List Loc) (ls : Array Slot), fX12_right_h99 fu a1 f (v2, v3, v4, v5, M, L) = some (r0, M0, L0) → mw_W G ad NF TF FF M L H locs → lv_has ls 7 [(0, .ref (ad 821)), (1, .int a1), (2, .int v2), (3, .int v3), (4, .int v4), (5, .int v5)] → W p l e ({ frames := 3, cells := 0, slots := 0, locals := 62 }) s m [.ref (ad 821), .int a1].toArray below meth c H locs 0 0 (MQ below (mw_Qi G ad NF TF FF (mw_eqI r0 M0 L0)) [.ref (ad 821), .int a1].toArray s 0 0 (mw_fr G)) (F0 m 99 ls []) := by
    intro f
    induction f with
    | zero => intro v2 v3 v4 v5 M L H locs ls hD; cases hD
    | succ f99 ih99 =>
      intro v2 v3 v4 v5 M L H locs ls hD hw hl
      replace hD : fX12_right_i99 fu a1 (fX12_right_h99 fu a1 f99) v2 v3 v4 v5 M L = some (r0, M0, L0) := hD
      have hb157 : ∀ (v2 : Int32) (v3 : Int32) (v4 : Int32) (v5 : Int32) (M : mwM) (L : mwL) (H : Heap) (locs : List Loc) (ls : Array Slot), fX12_right_b157 fu a1 (fX12_right_h99 fu a1 f99) v2 v3 v4 v5 M L = some (r0, M0, L0) → mw_W G ad NF TF FF M L H locs → lv_has ls 7 [(0, .ref (ad 821)), (1, .int a1), (2, .int v2), (3, .int v3), (4, .int v4), (5, .int v5)] → W p l e ({ frames := 3, cells := 0, slots := 0, locals := 62 }) s m [.ref (ad 821), .int a1].toArray below meth c H locs 0 0 (MQ below (mw_Qi G ad NF TF FF (mw_eqI r0 M0 L0)) [.ref (ad 821), .int a1].toArray s 0 0 (mw_fr G)) (F0 m 157 ls []) := by
        intro v2 v3 v4 v5 M L H locs ls hD hw hl
        unfold fX12_right_b157 at hD
        obtain ⟨x37, ex37, hD⟩ := g_let hD
        refine lv_iinc (v := x37) (lv' := [(5, .int x37), (0, .ref (ad 821)), (1, .int a1), (2, .int v2), (3, .int v3), (4, .int v4)]) C.1.1 C.1.2.1 dX12_right_157 hl (k := 5) rfl (by rw [ex37]; rfl) (by decide) rfl (fun ls hl => ?_)
        refine lv_goto (tgt := 99) C.1.1 C.1.2.1 dX12_right_160 (by decide) ?_
        exact ih99 v2 v3 v4 x37 M L _ _ ls hD hw (lv_sub hl [1, 2, 3, 4, 5, 0] rfl)
      have hb154 : ∀ (v2 : Int32) (v3 : Int32) (v4 : Int32) (v5 : Int32) (M : mwM) (L : mwL) (H : Heap) (locs : List Loc) (ls : Array Slot), fX12_right_b154 fu a1 (fX12_right_h99 fu a1 f99) v2 v3 v4 v5 M L = some (r0, M0, L0) → mw_W G ad NF TF FF M L H locs → lv_has ls 7 [(0, .ref (ad 821)), (1, .int a1), (2, .int v2), (3, .int v3), (4, .int v4), (5, .int v5)] → W p l e ({ frames := 3, cells := 0, slots := 0, locals := 62 }) s m [.ref (ad 821), .int a1].toArray below meth c H locs 0 0 (MQ below (mw_Qi G ad NF TF FF (mw_eqI r0 M0 L0)) [.ref (ad 821), .int a1].toArray s 0 0 (mw_fr G)) (F0 m 154 ls []) := by
        intro v2 v3 v4 v5 M L H locs ls hD hw hl
        unfold fX12_right_b154 at hD
        obtain ⟨x36, ex36, hD⟩ := g_let hD
        refine lv_iinc (v := x36) (lv' := [(4, .int x36), (0, .ref (ad 821)), (1, .int a1), (2, .int v2), (3, .int v3), (5, .int v5)]) C.1.1 C.1.2.1 dX12_right_154 hl (k := 4) rfl (by rw [ex36]; rfl) (by decide) rfl (fun ls hl => ?_)
        exact hb157 v2 v3 x36 v5 M L _ _ ls hD hw (lv_sub hl [1, 2, 3, 4, 0, 5] rfl)
      unfold fX12_right_i99 at hD
      refine lv_iload C.1.1 C.1.2.1 dX12_right_99 (lv_at hl 5 rfl) ?_
      refine lv_aload_n C.1.1 C.1.2.1 dX12_right_101 rfl (lv_at hl 0 rfl) ?_
      obtain ⟨r21, M19, L20, h1, hD⟩ := g_b3 hD
      refine md_cvI (As := []) (rest := [.int v5]) C hw (tX12_tail l G ad fu M L h1) kc_12 (by decide) tf_821 wd_3724 cwX12_tail ⟨Nat.le_of_ble_eq_true rfl, Nat.le_of_ble_eq_true rfl⟩ rfl hl.1 (Nat.le_of_ble_eq_true rfl) dX12_right_102 rfl rfl ⟨Nat.zero_le _, Nat.zero_le _⟩ rfl (fun H locs hw => ?_)
      refine lv_icmp_ge (tgt := 163) C.1.1 C.1.2.1 dX12_right_105 (by decide) (fun c22 => ?_) (fun c22 => ?_)
      · replace hD := g_pos c22 hD
        refine lv_iload_n C.1.1 C.1.2.1 dX12_right_163 rfl (lv_at hl 3 rfl) ?_
        refine lv_aload_n C.1.1 C.1.2.1 dX12_right_164 rfl (lv_at hl 0 rfl) ?_
        refine lv_iload_n C.1.1 C.1.2.1 dX12_right_165 rfl (lv_at hl 2 rfl) ?_
        obtain ⟨r25, M23, L24, h1, hD⟩ := g_b3 hD
        refine md_cvI (As := [.int v2]) (rest := [.int v3]) C hw (tX12_checkOf l G ad fu v2 M19 L20 h1) kc_12 (by decide) tf_821 wd_3675 cwX12_checkOf ⟨Nat.le_of_ble_eq_true rfl, Nat.le_of_ble_eq_true rfl⟩ rfl hl.1 (Nat.le_of_ble_eq_true rfl) dX12_right_166 rfl rfl ⟨Nat.zero_le _, Nat.zero_le _⟩ rfl (fun H locs hw => ?_)
        refine lv_icmp_ne (tgt := 176) C.1.1 C.1.2.1 dX12_right_169 (by decide) (fun c26 => ?_) (fun c26 => ?_)
        · replace hD := g_neg c26 hD
          refine lv_iconst (v := 0) C.1.1 C.1.2.1 dX12_right_176 (by decide) ?_
          exact hb177 0 M23 L24 _ _ ls hD hw (lv_sub hl [] rfl)
        · replace hD := g_pos c26 hD
          refine lv_iconst (v := 1) C.1.1 C.1.2.1 dX12_right_172 (by decide) ?_
          refine lv_goto (tgt := 177) C.1.1 C.1.2.1 dX12_right_173 (by decide) ?_
          exact hb177 1 M23 L24 _ _ ls hD hw (lv_sub hl [] rfl)
      · replace hD := g_neg c22 hD
        refine lv_iload C.1.1 C.1.2.1 dX12_right_108 (lv_at hl 5 rfl) ?_
        refine lv_iconst (v := 5) C.1.1 C.1.2.1 dX12_right_110 (by decide) ?_
        refine lv_irem C.1.1 C.1.2.1 dX12_right_111 (by decide) ?_
        refine lv_if_ne (tgt := 118) C.1.1 C.1.2.1 dX12_right_112 (by decide) (fun c28 => ?_) (fun c28 => ?_)
        · replace hD := g_neg c28 hD
          refine lv_aload_n C.1.1 C.1.2.1 dX12_right_118 rfl (lv_at hl 0 rfl) ?_
          refine lv_iload_n C.1.1 C.1.2.1 dX12_right_119 rfl (lv_at hl 1 rfl) ?_
          refine lv_aload_n C.1.1 C.1.2.1 dX12_right_120 rfl (lv_at hl 0 rfl) ?_
          refine mr_getI C hw kc_12 45 (by decide) tf_821 wd_2145 dX12_right_121 (by decide) rfl ?_
          refine lv_iload C.1.1 C.1.2.1 dX12_right_124 (lv_at hl 5 rfl) ?_
          refine lv_iadd C.1.1 C.1.2.1 dX12_right_126 ?_
          obtain ⟨r31, M29, L30, h1, hD⟩ := g_b3 hD
          refine md_cvI (As := [.int a1, .int ((M19 821 45) + v5)]) (rest := []) C hw (tX12_bitAt l G ad fu a1 ((M19 821 45) + v5) M19 L20 h1) kc_12 (by decide) tf_821 wd_3711 cwX12_bitAt ⟨Nat.le_of_ble_eq_true rfl, Nat.le_of_ble_eq_true rfl⟩ rfl hl.1 (Nat.le_of_ble_eq_true rfl) dX12_right_127 rfl rfl ⟨Nat.zero_le _, Nat.zero_le _⟩ rfl (fun H locs hw => ?_)
          refine lv_istore (lv' := [(6, .int r31), (0, .ref (ad 821)), (1, .int a1), (2, .int v2), (3, .int v3), (4, .int v4), (5, .int v5)]) C.1.1 C.1.2.1 dX12_right_130 hl (by decide) rfl (fun ls hl => ?_)
          refine lv_iload C.1.1 C.1.2.1 dX12_right_132 (lv_at hl 5 rfl) ?_
          refine lv_iconst (v := 4) C.1.1 C.1.2.1 dX12_right_134 (by decide) ?_
          refine lv_icmp_ge (tgt := 147) C.1.1 C.1.2.1 dX12_right_135 (by decide) (fun c32 => ?_) (fun c32 => ?_)
          · replace hD := g_pos c32 hD
            refine lv_iconst (v := 2) C.1.1 C.1.2.1 dX12_right_147 (by decide) ?_
            refine lv_iload_n C.1.1 C.1.2.1 dX12_right_148 rfl (lv_at hl 4 rfl) ?_
            refine lv_imul C.1.1 C.1.2.1 dX12_right_149 ?_
            refine lv_iload C.1.1 C.1.2.1 dX12_right_150 (lv_at hl 0 rfl) ?_
            refine lv_iadd C.1.1 C.1.2.1 dX12_right_152 ?_
            obtain ⟨x33, ex33, hD⟩ := g_let hD
            refine W.eq (g2 := F0 m 153 ls (.int x33 :: [])) (by rw [ex33]) ?_
            refine lv_istore_n (lv' := [(3, .int x33), (6, .int r31), (0, .ref (ad 821)), (1, .int a1), (2, .int v2), (4, .int v4), (5, .int v5)]) C.1.1 C.1.2.1 dX12_right_153 rfl hl (by decide) rfl (fun ls hl => ?_)
            exact hb154 v2 x33 v4 v5 M29 L30 _ _ ls hD hw (lv_sub hl [2, 3, 4, 0, 5, 6] rfl)
          · replace hD := g_neg c32 hD
            refine lv_aload_n C.1.1 C.1.2.1 dX12_right_138 rfl (lv_at hl 1 rfl) ?_
            refine lv_iload C.1.1 C.1.2.1 dX12_right_139 (lv_at hl 0 rfl) ?_
            obtain ⟨M34, L35, h1, hD⟩ := g_b2 hD
            refine md_cvV (As := [.int r31]) (rest := []) C hw (tX12_check l G ad fu r31 M29 L30 h1) kc_12 (by decide) tf_821 wd_3671 cwX12_check ⟨Nat.le_of_ble_eq_true rfl, Nat.le_of_ble_eq_true rfl⟩ rfl hl.1 (Nat.le_of_ble_eq_true rfl) dX12_right_141 rfl rfl ⟨Nat.zero_le _, Nat.zero_le _⟩ rfl (fun H locs hw => ?_)
            refine lv_goto (tgt := 154) C.1.1 C.1.2.1 dX12_right_144 (by decide) ?_
            exact hb154 v2 v3 v4 v5 M34 L35 _ _ ls hD hw (lv_sub hl [1, 2, 3, 4, 5, 6] rfl)
        · replace hD := g_pos c28 hD
          refine lv_goto (tgt := 157) C.1.1 C.1.2.1 dX12_right_115 (by decide) ?_
          exact hb157 v2 v3 v4 v5 M19 L20 _ _ ls hD hw (lv_sub hl [0, 1, 2, 3, 4, 5] rfl)
  have hb19 : ∀ (v2 : Int32) (v3 : Int32) (M : mwM) (L : mwL) (H : Heap) (locs : List Loc) (ls : Array Slot), fX12_right_b19 fu a1 v2 v3 M L = some (r0, M0, L0) → mw_W G ad NF TF FF M L H locs → lv_has ls 7 [(0, .ref (ad 821)), (1, .int a1), (2, .int v2), (3, .int v3)] → W p l e ({ frames := 3, cells := 0, slots := 0, locals := 62 }) s m [.ref (ad 821), .int a1].toArray below meth c H locs 0 0 (MQ below (mw_Qi G ad NF TF FF (mw_eqI r0 M0 L0)) [.ref (ad 821), .int a1].toArray s 0 0 (mw_fr G)) (F0 m 19 ls []) := by
    intro v2 v3 M L H locs ls hD hw hl
    unfold fX12_right_b19 at hD
    refine lv_aload_n C.1.1 C.1.2.1 dX12_right_19 rfl (lv_at hl 0 rfl) ?_
    obtain ⟨r3, M1, L2, h1, hD⟩ := g_b3 hD
    refine md_cvI (As := []) (rest := []) C hw (tX12_tail l G ad fu M L h1) kc_12 (by decide) tf_821 wd_3724 cwX12_tail ⟨Nat.le_of_ble_eq_true rfl, Nat.le_of_ble_eq_true rfl⟩ rfl hl.1 (Nat.le_of_ble_eq_true rfl) dX12_right_20 rfl rfl ⟨Nat.zero_le _, Nat.zero_le _⟩ rfl (fun H locs hw => ?_)
    refine lv_if_ne (tgt := 93) C.1.1 C.1.2.1 dX12_right_23 (by decide) (fun c4 => ?_) (fun c4 => ?_)
    · replace hD := g_neg c4 hD
      refine lv_iconst (v := 0) C.1.1 C.1.2.1 dX12_right_93 (by decide) ?_
      refine lv_istore (lv' := [(4, .int 0), (0, .ref (ad 821)), (1, .int a1), (2, .int v2), (3, .int v3)]) C.1.1 C.1.2.1 dX12_right_94 hl (by decide) rfl (fun ls hl => ?_)
      refine lv_iconst (v := 0) C.1.1 C.1.2.1 dX12_right_96 (by decide) ?_
      refine lv_istore (lv' := [(5, .int 0), (4, .int 0), (0, .ref (ad 821)), (1, .int a1), (2, .int v2), (3, .int v3)]) C.1.1 C.1.2.1 dX12_right_97 hl (by decide) rfl (fun ls hl => ?_)
      exact hh99 fu v2 v3 0 0 M1 L2 _ _ ls hD hw (lv_sub hl [2, 3, 4, 5, 1, 0] rfl)
    · replace hD := g_pos c4 hD
      refine lv_aload_n C.1.1 C.1.2.1 dX12_right_26 rfl (lv_at hl 0 rfl) ?_
      refine lv_aload_n C.1.1 C.1.2.1 dX12_right_27 rfl (lv_at hl 0 rfl) ?_
      refine mr_getI C hw kc_12 34 (by decide) tf_821 wd_2134 dX12_right_28 (by decide) rfl ?_
      refine lv_bipush (v := 15) C.1.1 C.1.2.1 dX12_right_31 (by decide) ?_
      refine lv_isub C.1.1 C.1.2.1 dX12_right_33 ?_
      refine lv_bipush (v := 15) C.1.1 C.1.2.1 dX12_right_34 (by decide) ?_
      obtain ⟨r7, M5, L6, h1, hD⟩ := g_b3 hD
      refine md_cvI (As := [.int ((M1 821 34) - 15), .int 15]) (rest := []) C hw (tX12_number l G ad fu ((M1 821 34) - 15) 15 M1 L2 h1) kc_12 (by decide) tf_821 wd_3719 cwX12_number ⟨Nat.le_of_ble_eq_true rfl, Nat.le_of_ble_eq_true rfl⟩ rfl hl.1 (Nat.le_of_ble_eq_true rfl) dX12_right_36 rfl rfl ⟨Nat.zero_le _, Nat.zero_le _⟩ rfl (fun H locs hw => ?_)
      refine lv_istore_n (lv' := [(3, .int r7), (0, .ref (ad 821)), (1, .int a1), (2, .int v2)]) C.1.1 C.1.2.1 dX12_right_39 rfl hl (by decide) rfl (fun ls hl => ?_)
      refine lv_aload_n C.1.1 C.1.2.1 dX12_right_40 rfl (lv_at hl 1 rfl) ?_
      refine lv_iconst (v := 0) C.1.1 C.1.2.1 dX12_right_41 (by decide) ?_
      obtain ⟨M8, eM8, hD⟩ := g_let hD
      refine mr_putI C hw kc_12 41 (by decide) tf_821 wd_2141 dX12_right_42 (by decide) rfl rfl rfl rfl (fun H locs hw => ?_)
      replace hw : mw_W G ad NF TF FF M8 L6 H locs := by rw [eM8]; exact hw
      refine lv_iconst (v := 0) C.1.1 C.1.2.1 dX12_right_45 (by decide) ?_
      refine lv_istore (lv' := [(4, .int 0), (3, .int r7), (0, .ref (ad 821)), (1, .int a1), (2, .int v2)]) C.1.1 C.1.2.1 dX12_right_46 hl (by decide) rfl (fun ls hl => ?_)
      exact hh48 fu r7 0 M8 L6 _ _ ls hD hw (lv_sub hl [2, 1, 0] rfl)
  unfold DX12_right at hD
  refine lv_aload_n C.1.1 C.1.2.1 dX12_right_0 rfl (lv_at hl 0 rfl) ?_
  obtain ⟨r41, M39, L40, h1, hD⟩ := g_b3 hD
  refine md_cvI (As := []) (rest := []) C hw (tX12_width l G ad fu M L h1) kc_12 (by decide) tf_821 wd_3728 cwX12_width ⟨Nat.le_of_ble_eq_true rfl, Nat.le_of_ble_eq_true rfl⟩ rfl hl.1 (Nat.le_of_ble_eq_true rfl) dX12_right_1 rfl rfl ⟨Nat.zero_le _, Nat.zero_le _⟩ rfl (fun H locs hw => ?_)
  refine lv_istore_n (lv' := [(2, .int r41), (0, .ref (ad 821)), (1, .int a1)]) C.1.1 C.1.2.1 dX12_right_4 rfl hl (by decide) rfl (fun ls hl => ?_)
  refine lv_iconst (v := 0) C.1.1 C.1.2.1 dX12_right_5 (by decide) ?_
  refine lv_istore_n (lv' := [(3, .int 0), (2, .int r41), (0, .ref (ad 821)), (1, .int a1)]) C.1.1 C.1.2.1 dX12_right_6 rfl hl (by decide) rfl (fun ls hl => ?_)
  refine lv_aload_n C.1.1 C.1.2.1 dX12_right_7 rfl (lv_at hl 2 rfl) ?_
  obtain ⟨r44, M42, L43, h1, hD⟩ := g_b3 hD
  refine md_cvI (As := []) (rest := []) C hw (tX12_tail l G ad fu M39 L40 h1) kc_12 (by decide) tf_821 wd_3724 cwX12_tail ⟨Nat.le_of_ble_eq_true rfl, Nat.le_of_ble_eq_true rfl⟩ rfl hl.1 (Nat.le_of_ble_eq_true rfl) dX12_right_8 rfl rfl ⟨Nat.zero_le _, Nat.zero_le _⟩ rfl (fun H locs hw => ?_)
  refine lv_if_le (tgt := 19) C.1.1 C.1.2.1 dX12_right_11 (by decide) (fun c45 => ?_) (fun c45 => ?_)
  · replace hD := g_pos c45 hD
    exact hb19 r41 0 M42 L43 _ _ ls hD hw (lv_sub hl [2, 3, 1, 0] rfl)
  · replace hD := g_neg c45 hD
    refine lv_aload_n C.1.1 C.1.2.1 dX12_right_14 rfl (lv_at hl 2 rfl) ?_
    refine lv_iconst (v := (-1)) C.1.1 C.1.2.1 dX12_right_15 (by decide) ?_
    obtain ⟨M46, eM46, hD⟩ := g_let hD
    refine mr_putI C hw kc_12 48 (by decide) tf_821 wd_2148 dX12_right_16 (by decide) rfl rfl rfl rfl (fun H locs hw => ?_)
    replace hw : mw_W G ad NF TF FF M46 L43 H locs := by rw [eM46]; exact hw
    exact hb19 r41 0 M46 L43 _ _ ls hD hw (lv_sub hl [2, 3, 1, 0] rfl)

theorem dX12_read_0 : decode cX12_read 0 = .ok (.aload_n 0, 1) := by decide +kernel
theorem dX12_read_1 : decode cX12_read 1 = .ok (.iload_n 1, 1) := by decide +kernel
theorem dX12_read_2 : decode cX12_read 2 = .ok (.invokevirtual 242, 3) := by decide +kernel
theorem dX12_read_5 : decode cX12_read 5 = .ok (.istore_n 2, 1) := by decide +kernel
theorem dX12_read_6 : decode cX12_read 6 = .ok (.iload_n 2, 1) := by decide +kernel
theorem dX12_read_7 : decode cX12_read 7 = .ok (.iconst (-1), 1) := by decide +kernel
theorem dX12_read_8 : decode cX12_read 8 = .ok (.if_icmp .ne 11, 3) := by decide +kernel
theorem dX12_read_11 : decode cX12_read 11 = .ok (.aload_n 0, 1) := by decide +kernel
theorem dX12_read_12 : decode cX12_read 12 = .ok (.getfield 209, 3) := by decide +kernel
theorem dX12_read_15 : decode cX12_read 15 = .ok (.iconst (-1), 1) := by decide +kernel
theorem dX12_read_16 : decode cX12_read 16 = .ok (.if_icmp .ne 5, 3) := by decide +kernel
theorem dX12_read_19 : decode cX12_read 19 = .ok (.iload_n 2, 1) := by decide +kernel
theorem dX12_read_20 : decode cX12_read 20 = .ok (.ireturn, 1) := by decide +kernel
theorem dX12_read_21 : decode cX12_read 21 = .ok (.aload_n 0, 1) := by decide +kernel
theorem dX12_read_22 : decode cX12_read 22 = .ok (.getfield 58, 3) := by decide +kernel
theorem dX12_read_25 : decode cX12_read 25 = .ok (.iload_n 1, 1) := by decide +kernel
theorem dX12_read_26 : decode cX12_read 26 = .ok (.iaload, 1) := by decide +kernel
theorem dX12_read_27 : decode cX12_read 27 = .ok (.iconst 1, 1) := by decide +kernel
theorem dX12_read_28 : decode cX12_read 28 = .ok (.isub, 1) := by decide +kernel
theorem dX12_read_29 : decode cX12_read 29 = .ok (.istore_n 3, 1) := by decide +kernel
theorem dX12_read_30 : decode cX12_read 30 = .ok (.aload_n 0, 1) := by decide +kernel
theorem dX12_read_31 : decode cX12_read 31 = .ok (.iload_n 1, 1) := by decide +kernel
theorem dX12_read_32 : decode cX12_read 32 = .ok (.iload_n 3, 1) := by decide +kernel
theorem dX12_read_33 : decode cX12_read 33 = .ok (.invokevirtual 215, 3) := by decide +kernel
theorem dX12_read_36 : decode cX12_read 36 = .ok (.istore 4, 2) := by decide +kernel
theorem dX12_read_38 : decode cX12_read 38 = .ok (.iload_n 3, 1) := by decide +kernel
theorem dX12_read_39 : decode cX12_read 39 = .ok (.aload_n 0, 1) := by decide +kernel
theorem dX12_read_40 : decode cX12_read 40 = .ok (.getfield 209, 3) := by decide +kernel
theorem dX12_read_43 : decode cX12_read 43 = .ok (.isub, 1) := by decide +kernel
theorem dX12_read_44 : decode cX12_read 44 = .ok (.istore 5, 2) := by decide +kernel
theorem dX12_read_46 : decode cX12_read 46 = .ok (.iload 5, 2) := by decide +kernel
theorem dX12_read_48 : decode cX12_read 48 = .ok (.ifCond .ge 5, 3) := by decide +kernel
theorem dX12_read_51 : decode cX12_read 51 = .ok (.iconst (-1), 1) := by decide +kernel
theorem dX12_read_52 : decode cX12_read 52 = .ok (.ireturn, 1) := by decide +kernel
theorem dX12_read_53 : decode cX12_read 53 = .ok (.iload 5, 2) := by decide +kernel
theorem dX12_read_55 : decode cX12_read 55 = .ok (.aload_n 0, 1) := by decide +kernel
theorem dX12_read_56 : decode cX12_read 56 = .ok (.invokevirtual 239, 3) := by decide +kernel
theorem dX12_read_59 : decode cX12_read 59 = .ok (.if_icmp .ge 96, 3) := by decide +kernel
theorem dX12_read_62 : decode cX12_read 62 = .ok (.iload 5, 2) := by decide +kernel
theorem dX12_read_64 : decode cX12_read 64 = .ok (.iconst 5, 1) := by decide +kernel
theorem dX12_read_65 : decode cX12_read 65 = .ok (.irem, 1) := by decide +kernel
theorem dX12_read_66 : decode cX12_read 66 = .ok (.ifCond .ne 22, 3) := by decide +kernel
theorem dX12_read_69 : decode cX12_read 69 = .ok (.iload 4, 2) := by decide +kernel
theorem dX12_read_71 : decode cX12_read 71 = .ok (.aload_n 0, 1) := by decide +kernel
theorem dX12_read_72 : decode cX12_read 72 = .ok (.iload_n 1, 1) := by decide +kernel
theorem dX12_read_73 : decode cX12_read 73 = .ok (.iload_n 3, 1) := by decide +kernel
theorem dX12_read_74 : decode cX12_read 74 = .ok (.iconst 1, 1) := by decide +kernel
theorem dX12_read_75 : decode cX12_read 75 = .ok (.isub, 1) := by decide +kernel
theorem dX12_read_76 : decode cX12_read 76 = .ok (.invokevirtual 215, 3) := by decide +kernel
theorem dX12_read_79 : decode cX12_read 79 = .ok (.if_icmp .ne 7, 3) := by decide +kernel
theorem dX12_read_82 : decode cX12_read 82 = .ok (.iconst 1, 1) := by decide +kernel
theorem dX12_read_83 : decode cX12_read 83 = .ok (.goto 4, 3) := by decide +kernel
theorem dX12_read_86 : decode cX12_read 86 = .ok (.iconst (-1), 1) := by decide +kernel
theorem dX12_read_87 : decode cX12_read 87 = .ok (.ireturn, 1) := by decide +kernel
theorem dX12_read_88 : decode cX12_read 88 = .ok (.iconst 0, 1) := by decide +kernel
theorem dX12_read_89 : decode cX12_read 89 = .ok (.istore 6, 2) := by decide +kernel
theorem dX12_read_91 : decode cX12_read 91 = .ok (.iconst 1, 1) := by decide +kernel
theorem dX12_read_92 : decode cX12_read 92 = .ok (.istore 7, 2) := by decide +kernel
theorem dX12_read_94 : decode cX12_read 94 = .ok (.iload 7, 2) := by decide +kernel
theorem dX12_read_96 : decode cX12_read 96 = .ok (.iconst 5, 1) := by decide +kernel
theorem dX12_read_97 : decode cX12_read 97 = .ok (.if_icmp .ge 34, 3) := by decide +kernel
theorem dX12_read_100 : decode cX12_read 100 = .ok (.iload 5, 2) := by decide +kernel
theorem dX12_read_102 : decode cX12_read 102 = .ok (.iconst 4, 1) := by decide +kernel
theorem dX12_read_103 : decode cX12_read 103 = .ok (.if_icmp .ne 28, 3) := by decide +kernel
theorem dX12_read_106 : decode cX12_read 106 = .ok (.iconst 2, 1) := by decide +kernel
theorem dX12_read_107 : decode cX12_read 107 = .ok (.iload 6, 2) := by decide +kernel
theorem dX12_read_109 : decode cX12_read 109 = .ok (.imul, 1) := by decide +kernel
theorem dX12_read_110 : decode cX12_read 110 = .ok (.aload_n 0, 1) := by decide +kernel
theorem dX12_read_111 : decode cX12_read 111 = .ok (.iload_n 1, 1) := by decide +kernel
theorem dX12_read_112 : decode cX12_read 112 = .ok (.aload_n 0, 1) := by decide +kernel
theorem dX12_read_113 : decode cX12_read 113 = .ok (.getfield 209, 3) := by decide +kernel
theorem dX12_read_116 : decode cX12_read 116 = .ok (.iload 7, 2) := by decide +kernel
theorem dX12_read_118 : decode cX12_read 118 = .ok (.iadd, 1) := by decide +kernel
theorem dX12_read_119 : decode cX12_read 119 = .ok (.invokevirtual 215, 3) := by decide +kernel
theorem dX12_read_122 : decode cX12_read 122 = .ok (.iadd, 1) := by decide +kernel
theorem dX12_read_123 : decode cX12_read 123 = .ok (.istore 6, 2) := by decide +kernel
theorem dX12_read_125 : decode cX12_read 125 = .ok (.iinc 7 1, 3) := by decide +kernel
theorem dX12_read_128 : decode cX12_read 128 = .ok (.goto (-34), 3) := by decide +kernel
theorem dX12_read_131 : decode cX12_read 131 = .ok (.iload 5, 2) := by decide +kernel
theorem dX12_read_133 : decode cX12_read 133 = .ok (.iconst 4, 1) := by decide +kernel
theorem dX12_read_134 : decode cX12_read 134 = .ok (.if_icmp .ne 19, 3) := by decide +kernel
theorem dX12_read_137 : decode cX12_read 137 = .ok (.iload 6, 2) := by decide +kernel
theorem dX12_read_139 : decode cX12_read 139 = .ok (.aload_n 0, 1) := by decide +kernel
theorem dX12_read_140 : decode cX12_read 140 = .ok (.getfield 212, 3) := by decide +kernel
theorem dX12_read_143 : decode cX12_read 143 = .ok (.invokestatic 194, 3) := by decide +kernel
theorem dX12_read_146 : decode cX12_read 146 = .ok (.if_icmp .eq 7, 3) := by decide +kernel
theorem dX12_read_149 : decode cX12_read 149 = .ok (.iconst 1, 1) := by decide +kernel
theorem dX12_read_150 : decode cX12_read 150 = .ok (.goto 4, 3) := by decide +kernel
theorem dX12_read_153 : decode cX12_read 153 = .ok (.iconst (-1), 1) := by decide +kernel
theorem dX12_read_154 : decode cX12_read 154 = .ok (.ireturn, 1) := by decide +kernel
theorem dX12_read_155 : decode cX12_read 155 = .ok (.iload 5, 2) := by decide +kernel
theorem dX12_read_157 : decode cX12_read 157 = .ok (.aload_n 0, 1) := by decide +kernel
theorem dX12_read_158 : decode cX12_read 158 = .ok (.invokevirtual 239, 3) := by decide +kernel
theorem dX12_read_161 : decode cX12_read 161 = .ok (.isub, 1) := by decide +kernel
theorem dX12_read_162 : decode cX12_read 162 = .ok (.istore 5, 2) := by decide +kernel
theorem dX12_read_164 : decode cX12_read 164 = .ok (.iload 5, 2) := by decide +kernel
theorem dX12_read_166 : decode cX12_read 166 = .ok (.iconst 1, 1) := by decide +kernel
theorem dX12_read_167 : decode cX12_read 167 = .ok (.if_icmp .ne 5, 3) := by decide +kernel
theorem dX12_read_170 : decode cX12_read 170 = .ok (.iconst (-1), 1) := by decide +kernel
theorem dX12_read_171 : decode cX12_read 171 = .ok (.ireturn, 1) := by decide +kernel
theorem dX12_read_172 : decode cX12_read 172 = .ok (.iload 5, 2) := by decide +kernel
theorem dX12_read_174 : decode cX12_read 174 = .ok (.bipush 9, 2) := by decide +kernel
theorem dX12_read_176 : decode cX12_read 176 = .ok (.if_icmp .ne 16, 3) := by decide +kernel
theorem dX12_read_179 : decode cX12_read 179 = .ok (.iload 4, 2) := by decide +kernel
theorem dX12_read_181 : decode cX12_read 181 = .ok (.iconst 1, 1) := by decide +kernel
theorem dX12_read_182 : decode cX12_read 182 = .ok (.if_icmp .ne 8, 3) := by decide +kernel
theorem dX12_read_185 : decode cX12_read 185 = .ok (.bipush 11, 2) := by decide +kernel
theorem dX12_read_187 : decode cX12_read 187 = .ok (.goto 4, 3) := by decide +kernel
theorem dX12_read_190 : decode cX12_read 190 = .ok (.iconst 5, 1) := by decide +kernel
theorem dX12_read_191 : decode cX12_read 191 = .ok (.ireturn, 1) := by decide +kernel
theorem dX12_read_192 : decode cX12_read 192 = .ok (.iload 4, 2) := by decide +kernel
theorem dX12_read_194 : decode cX12_read 194 = .ok (.ifCond .ne 5, 3) := by decide +kernel
theorem dX12_read_197 : decode cX12_read 197 = .ok (.iconst 2, 1) := by decide +kernel
theorem dX12_read_198 : decode cX12_read 198 = .ok (.ireturn, 1) := by decide +kernel
theorem dX12_read_199 : decode cX12_read 199 = .ok (.iload 5, 2) := by decide +kernel
theorem dX12_read_201 : decode cX12_read 201 = .ok (.iconst 2, 1) := by decide +kernel
theorem dX12_read_202 : decode cX12_read 202 = .ok (.if_icmp .ne 17, 3) := by decide +kernel
theorem dX12_read_205 : decode cX12_read 205 = .ok (.aload_n 0, 1) := by decide +kernel
theorem dX12_read_206 : decode cX12_read 206 = .ok (.iload_n 1, 1) := by decide +kernel
theorem dX12_read_207 : decode cX12_read 207 = .ok (.invokevirtual 245, 3) := by decide +kernel
theorem dX12_read_210 : decode cX12_read 210 = .ok (.ifCond .eq 7, 3) := by decide +kernel
theorem dX12_read_213 : decode cX12_read 213 = .ok (.iconst (-1), 1) := by decide +kernel
theorem dX12_read_214 : decode cX12_read 214 = .ok (.goto 4, 3) := by decide +kernel
theorem dX12_read_217 : decode cX12_read 217 = .ok (.iconst 3, 1) := by decide +kernel
theorem dX12_read_218 : decode cX12_read 218 = .ok (.ireturn, 1) := by decide +kernel
theorem dX12_read_219 : decode cX12_read 219 = .ok (.iload 5, 2) := by decide +kernel
theorem dX12_read_221 : decode cX12_read 221 = .ok (.bipush 8, 2) := by decide +kernel
theorem dX12_read_223 : decode cX12_read 223 = .ok (.if_icmp .ne 8, 3) := by decide +kernel
theorem dX12_read_226 : decode cX12_read 226 = .ok (.bipush 10, 2) := by decide +kernel
theorem dX12_read_228 : decode cX12_read 228 = .ok (.goto 4, 3) := by decide +kernel
theorem dX12_read_231 : decode cX12_read 231 = .ok (.iconst (-1), 1) := by decide +kernel
theorem dX12_read_232 : decode cX12_read 232 = .ok (.ireturn, 1) := by decide +kernel
theorem cwX12_read : mw_cwV yX12_read cX12_read 8 ((some .int)) 1 := ⟨⟨wd_15, wd_3759, by decide +kernel⟩, wd_3758, sl_255⟩
noncomputable def fX12_read_b19 (fu : Nat) (a1 : Int32) (v2 : Int32) (M : mwM) (L : mwL) : Option (Int32 × mwM × mwL) :=
  some (v2, M, L)
noncomputable def fX12_read_b87 (fu : Nat) (a1 : Int32) (s0 : Int32) (M : mwM) (L : mwL) : Option (Int32 × mwM × mwL) :=
  some (s0, M, L)
noncomputable def fX12_read_b154 (fu : Nat) (a1 : Int32) (s0 : Int32) (M : mwM) (L : mwL) : Option (Int32 × mwM × mwL) :=
  some (s0, M, L)
noncomputable def fX12_read_b153 (fu : Nat) (a1 : Int32) (M : mwM) (L : mwL) : Option (Int32 × mwM × mwL) :=
  fX12_read_b154 fu a1 ((-1)) M L
noncomputable def fX12_read_b131 (fu : Nat) (a1 : Int32) (v5 : Int32) (v6 : Int32) (M : mwM) (L : mwL) : Option (Int32 × mwM × mwL) :=
  (if v5 = 4 then mb3 (DX12_countOf fu (M 821 46) M L) (fun r11 M9 L10 => (if v6 = r11 then fX12_read_b153 fu a1 M9 L10 else fX12_read_b154 fu a1 1 M9 L10)) else fX12_read_b153 fu a1 M L)
noncomputable def fX12_read_i94 (fu : Nat) (a1 : Int32) (r94 : (Int32 × Int32 × Int32 × mwM × mwL) → Option (Int32 × mwM × mwL)) (v5 : Int32) (v6 : Int32) (v7 : Int32) (M : mwM) (L : mwL) : Option (Int32 × mwM × mwL) :=
  (if 5 ≤ v7 then fX12_read_b131 fu a1 v5 v6 M L else (if v5 = 4 then mb3 (DX12_bitAt fu a1 ((M 821 45) + v7) M L) (fun r5 M3 L4 => mlet ((2 * v6) + r5) (fun x6 => mlet (v7 + 1) (fun x7 => r94 (v5, x6, x7, M3, L4)))) else fX12_read_b131 fu a1 v5 v6 M L))
noncomputable def fX12_read_h94 (fu : Nat) (a1 : Int32) : Nat → (Int32 × Int32 × Int32 × mwM × mwL) → Option (Int32 × mwM × mwL) := mloop (fun r94 s => fX12_read_i94 fu a1 r94 s.1 s.2.1 s.2.2.1 s.2.2.2.1 s.2.2.2.2)
noncomputable def fX12_read_b191 (fu : Nat) (a1 : Int32) (s0 : Int32) (M : mwM) (L : mwL) : Option (Int32 × mwM × mwL) :=
  some (s0, M, L)
noncomputable def fX12_read_b218 (fu : Nat) (a1 : Int32) (s0 : Int32) (M : mwM) (L : mwL) : Option (Int32 × mwM × mwL) :=
  some (s0, M, L)
noncomputable def fX12_read_b232 (fu : Nat) (a1 : Int32) (s0 : Int32) (M : mwM) (L : mwL) : Option (Int32 × mwM × mwL) :=
  some (s0, M, L)
noncomputable def DX12_read (fu : Nat) (a1 : Int32) (M : mwM) (L : mwL) : Option (Int32 × mwM × mwL) :=
  mb3 (DX12_body fu a1 M L) (fun r15 M13 L14 => (if r15 = ((-1)) then (if (M13 821 45) = ((-1)) then fX12_read_b19 fu a1 r15 M13 L14 else mck a1 32 (mlet ((M13 836 a1.toNatClampNeg) - 1) (fun x19 => mb3 (DX12_bitAt fu a1 x19 M13 L14) (fun r22 M20 L21 => mlet (x19 - (M20 821 45)) (fun x23 => (if 0 ≤ x23 then mb3 (DX12_tail fu M20 L21) (fun r27 M25 L26 => (if r27 ≤ x23 then mb3 (DX12_tail fu M25 L26) (fun r31 M29 L30 => mlet (x23 - r31) (fun x32 => (if x32 = 1 then some ((-1), M29, L30) else (if x32 = 9 then (if r22 = 1 then fX12_read_b191 fu a1 11 M29 L30 else fX12_read_b191 fu a1 5 M29 L30) else (if r22 = 0 then some (2, M29, L30) else (if x32 = 2 then mb3 (DX12_right fu a1 M29 L30) (fun r40 M38 L39 => (if r40 = 0 then fX12_read_b218 fu a1 3 M38 L39 else fX12_read_b218 fu a1 ((-1)) M38 L39)) else (if x32 = 8 then fX12_read_b232 fu a1 10 M29 L30 else fX12_read_b232 fu a1 ((-1)) M29 L30))))))) else (if (x23 - x23 / 5 * 5) = 0 then mb3 (DX12_bitAt fu a1 (x19 - 1) M25 L26) (fun r47 M45 L46 => (if r22 = r47 then fX12_read_b87 fu a1 1 M45 L46 else fX12_read_b87 fu a1 ((-1)) M45 L46)) else fX12_read_h94 fu a1 fu (x23, 0, 1, M25, L26)))) else some ((-1), M20, L21))))))) else fX12_read_b19 fu a1 r15 M13 L14))
set_option maxHeartbeats 4000000 in
set_option maxRecDepth 100000 in
theorem tX12_read (l : Launch) (G : mwG) (ad : Nat → Nat) (fu : Nat) (a1 : Int32) (M : mwM) (L : mwL) {r0 : Int32} {M0 : mwM} {L0 : mwL} (hD : DX12_read fu a1 M L = some (r0, M0, L0)) : Met l yX12_read (Cond.code yX12_read cX12_read 8 ((some .int)) :: GT) ({ frames := 4, cells := 0, slots := 0, locals := 103 }) (mw_Pre G ad NF TF FF M L [.ref (ad 821), .int a1]) (mw_Qi G ad NF TF FF (mw_eqI r0 M0 L0)) 0 0 (mw_fr G) := by
  refine mw_enter (by decide) (Nat.le_of_ble_eq_true rfl) ?_
  intro p e s m below meth c ls C hr hlocks hnm hw hl
  have hl : lv_has ls 8 [(0, .ref (ad 821)), (1, .int a1)] := hl
  have hb19 : ∀ (v2 : Int32) (M : mwM) (L : mwL) (H : Heap) (locs : List Loc) (ls : Array Slot), fX12_read_b19 fu a1 v2 M L = some (r0, M0, L0) → mw_W G ad NF TF FF M L H locs → lv_has ls 8 [(2, .int v2)] → W p l e ({ frames := 4, cells := 0, slots := 0, locals := 103 }) s m [.ref (ad 821), .int a1].toArray below meth c H locs 0 0 (MQ below (mw_Qi G ad NF TF FF (mw_eqI r0 M0 L0)) [.ref (ad 821), .int a1].toArray s 0 0 (mw_fr G)) (F0 m 19 ls []) := by
    intro v2 M L H locs ls hD hw hl
    unfold fX12_read_b19 at hD
    refine lv_iload_n C.1.1 C.1.2.1 dX12_read_19 rfl (lv_at hl 0 rfl) ?_
    exact mr_iret C hr hlocks hw rfl (Option.some.inj hD) dX12_read_20
  have hb87 : ∀ (s0 : Int32) (M : mwM) (L : mwL) (H : Heap) (locs : List Loc) (ls : Array Slot), fX12_read_b87 fu a1 s0 M L = some (r0, M0, L0) → mw_W G ad NF TF FF M L H locs → lv_has ls 8 [] → W p l e ({ frames := 4, cells := 0, slots := 0, locals := 103 }) s m [.ref (ad 821), .int a1].toArray below meth c H locs 0 0 (MQ below (mw_Qi G ad NF TF FF (mw_eqI r0 M0 L0)) [.ref (ad 821), .int a1].toArray s 0 0 (mw_fr G)) (F0 m 87 ls [.int s0]) := by
    intro s0 M L H locs ls hD hw hl
    unfold fX12_read_b87 at hD
    exact mr_iret C hr hlocks hw rfl (Option.some.inj hD) dX12_read_87
  have hb154 : ∀ (s0 : Int32) (M : mwM) (L : mwL) (H : Heap) (locs : List Loc) (ls : Array Slot), fX12_read_b154 fu a1 s0 M L = some (r0, M0, L0) → mw_W G ad NF TF FF M L H locs → lv_has ls 8 [] → W p l e ({ frames := 4, cells := 0, slots := 0, locals := 103 }) s m [.ref (ad 821), .int a1].toArray below meth c H locs 0 0 (MQ below (mw_Qi G ad NF TF FF (mw_eqI r0 M0 L0)) [.ref (ad 821), .int a1].toArray s 0 0 (mw_fr G)) (F0 m 154 ls [.int s0]) := by
    intro s0 M L H locs ls hD hw hl
    unfold fX12_read_b154 at hD
    exact mr_iret C hr hlocks hw rfl (Option.some.inj hD) dX12_read_154
  have hb153 : ∀ (M : mwM) (L : mwL) (H : Heap) (locs : List Loc) (ls : Array Slot), fX12_read_b153 fu a1 M L = some (r0, M0, L0) → mw_W G ad NF TF FF M L H locs → lv_has ls 8 [] → W p l e ({ frames := 4, cells := 0, slots := 0, locals := 103 }) s m [.ref (ad 821), .int a1].toArray below meth c H locs 0 0 (MQ below (mw_Qi G ad NF TF FF (mw_eqI r0 M0 L0)) [.ref (ad 821), .int a1].toArray s 0 0 (mw_fr G)) (F0 m 153 ls []) := by
    intro M L H locs ls hD hw hl
    unfold fX12_read_b153 at hD
    refine lv_iconst (v := (-1)) C.1.1 C.1.2.1 dX12_read_153 (by decide) ?_
    exact hb154 ((-1)) M L _ _ ls hD hw (lv_sub hl [] rfl)
  have hb131 : ∀ (v5 : Int32) (v6 : Int32) (M : mwM) (L : mwL) (H : Heap) (locs : List Loc) (ls : Array Slot), fX12_read_b131 fu a1 v5 v6 M L = some (r0, M0, L0) → mw_W G ad NF TF FF M L H locs → lv_has ls 8 [(0, .ref (ad 821)), (5, .int v5), (6, .int v6)] → W p l e ({ frames := 4, cells := 0, slots := 0, locals := 103 }) s m [.ref (ad 821), .int a1].toArray below meth c H locs 0 0 (MQ below (mw_Qi G ad NF TF FF (mw_eqI r0 M0 L0)) [.ref (ad 821), .int a1].toArray s 0 0 (mw_fr G)) (F0 m 131 ls []) := by
    intro v5 v6 M L H locs ls hD hw hl
    unfold fX12_read_b131 at hD
    refine lv_iload C.1.1 C.1.2.1 dX12_read_131 (lv_at hl 1 rfl) ?_
    refine lv_iconst (v := 4) C.1.1 C.1.2.1 dX12_read_133 (by decide) ?_
    refine lv_icmp_ne (tgt := 153) C.1.1 C.1.2.1 dX12_read_134 (by decide) (fun c8 => ?_) (fun c8 => ?_)
    · replace hD := g_neg c8 hD
      exact hb153 M L _ _ ls hD hw (lv_sub hl [] rfl)
    · replace hD := g_pos c8 hD
      refine lv_iload C.1.1 C.1.2.1 dX12_read_137 (lv_at hl 2 rfl) ?_
      refine lv_aload_n C.1.1 C.1.2.1 dX12_read_139 rfl (lv_at hl 0 rfl) ?_
      refine mr_getI C hw kc_12 46 (by decide) tf_821 wd_2146 dX12_read_140 (by decide) rfl ?_
      obtain ⟨r11, M9, L10, h1, hD⟩ := g_b3 hD
      refine md_csI (As := [.int (M 821 46)]) (rest := [.int v6]) C hw (tX12_countOf l G ad fu (M 821 46) M L h1) wd_3689 cwX12_countOf ⟨Nat.le_of_ble_eq_true rfl, Nat.le_of_ble_eq_true rfl⟩ rfl hl.1 (Nat.le_of_ble_eq_true rfl) dX12_read_143 rfl rfl ⟨Nat.zero_le _, Nat.zero_le _⟩ rfl (fun H locs hw => ?_)
      refine lv_icmp_eq (tgt := 153) C.1.1 C.1.2.1 dX12_read_146 (by decide) (fun c12 => ?_) (fun c12 => ?_)
      · replace hD := g_pos c12 hD
        exact hb153 M9 L10 _ _ ls hD hw (lv_sub hl [] rfl)
      · replace hD := g_neg c12 hD
        refine lv_iconst (v := 1) C.1.1 C.1.2.1 dX12_read_149 (by decide) ?_
        refine lv_goto (tgt := 154) C.1.1 C.1.2.1 dX12_read_150 (by decide) ?_
        exact hb154 1 M9 L10 _ _ ls hD hw (lv_sub hl [] rfl)
  have hh94 : ∀ (f : Nat) (v5 : Int32) (v6 : Int32) (v7 : Int32) (M : mwM) (L : mwL) (H : Heap) (locs : List Loc) (ls : Array Slot), fX12_read_h94 fu a1 f (v5, v6, v7, M, L) = some (r0, M0, L0) → mw_W G ad NF TF FF M L H locs → lv_has ls 8 [(0, .ref (ad 821)), (1, .int a1), (5, .int v5), (6, .int v6), (7, .int v7)] → W p l e ({ frames := 4, cells := 0, slots := 0, locals := 103 }) s m [.ref (ad 821), .int a1].toArray below meth c H locs 0 0 (MQ below (mw_Qi G ad NF TF FF (mw_eqI r0 M0 L0)) [.ref (ad 821), .int a1].toArray s 0 0 (mw_fr G)) (F0 m 94 ls []) := by
    intro f
    induction f with
    | zero => intro v5 v6 v7 M L H locs ls hD; cases hD
    | succ f94 ih94 =>
      intro v5 v6 v7 M L H locs ls hD hw hl
      replace hD : fX12_read_i94 fu a1 (fX12_read_h94 fu a1 f94) v5 v6 v7 M L = some (r0, M0, L0) := hD
      unfold fX12_read_i94 at hD
      refine lv_iload C.1.1 C.1.2.1 dX12_read_94 (lv_at hl 4 rfl) ?_
      refine lv_iconst (v := 5) C.1.1 C.1.2.1 dX12_read_96 (by decide) ?_
      refine lv_icmp_ge (tgt := 131) C.1.1 C.1.2.1 dX12_read_97 (by decide) (fun c1 => ?_) (fun c1 => ?_)
      · replace hD := g_pos c1 hD
        exact hb131 v5 v6 M L _ _ ls hD hw (lv_sub hl [0, 2, 3] rfl)
      · replace hD := g_neg c1 hD
        refine lv_iload C.1.1 C.1.2.1 dX12_read_100 (lv_at hl 2 rfl) ?_
        refine lv_iconst (v := 4) C.1.1 C.1.2.1 dX12_read_102 (by decide) ?_
        refine lv_icmp_ne (tgt := 131) C.1.1 C.1.2.1 dX12_read_103 (by decide) (fun c2 => ?_) (fun c2 => ?_)
        · replace hD := g_neg c2 hD
          exact hb131 v5 v6 M L _ _ ls hD hw (lv_sub hl [0, 2, 3] rfl)
        · replace hD := g_pos c2 hD
          refine lv_iconst (v := 2) C.1.1 C.1.2.1 dX12_read_106 (by decide) ?_
          refine lv_iload C.1.1 C.1.2.1 dX12_read_107 (lv_at hl 3 rfl) ?_
          refine lv_imul C.1.1 C.1.2.1 dX12_read_109 ?_
          refine lv_aload_n C.1.1 C.1.2.1 dX12_read_110 rfl (lv_at hl 0 rfl) ?_
          refine lv_iload_n C.1.1 C.1.2.1 dX12_read_111 rfl (lv_at hl 1 rfl) ?_
          refine lv_aload_n C.1.1 C.1.2.1 dX12_read_112 rfl (lv_at hl 0 rfl) ?_
          refine mr_getI C hw kc_12 45 (by decide) tf_821 wd_2145 dX12_read_113 (by decide) rfl ?_
          refine lv_iload C.1.1 C.1.2.1 dX12_read_116 (lv_at hl 4 rfl) ?_
          refine lv_iadd C.1.1 C.1.2.1 dX12_read_118 ?_
          obtain ⟨r5, M3, L4, h1, hD⟩ := g_b3 hD
          refine md_cvI (As := [.int a1, .int ((M 821 45) + v7)]) (rest := [.int (2 * v6)]) C hw (tX12_bitAt l G ad fu a1 ((M 821 45) + v7) M L h1) kc_12 (by decide) tf_821 wd_3711 cwX12_bitAt ⟨Nat.le_of_ble_eq_true rfl, Nat.le_of_ble_eq_true rfl⟩ rfl hl.1 (Nat.le_of_ble_eq_true rfl) dX12_read_119 rfl rfl ⟨Nat.zero_le _, Nat.zero_le _⟩ rfl (fun H locs hw => ?_)
          refine lv_iadd C.1.1 C.1.2.1 dX12_read_122 ?_
          obtain ⟨x6, ex6, hD⟩ := g_let hD
          refine W.eq (g2 := F0 m 123 ls (.int x6 :: [])) (by rw [ex6]) ?_
          refine lv_istore (lv' := [(6, .int x6), (0, .ref (ad 821)), (1, .int a1), (5, .int v5), (7, .int v7)]) C.1.1 C.1.2.1 dX12_read_123 hl (by decide) rfl (fun ls hl => ?_)
          obtain ⟨x7, ex7, hD⟩ := g_let hD
          refine lv_iinc (v := x7) (lv' := [(7, .int x7), (6, .int x6), (0, .ref (ad 821)), (1, .int a1), (5, .int v5)]) C.1.1 C.1.2.1 dX12_read_125 hl (k := 4) rfl (by rw [ex7]; rfl) (by decide) rfl (fun ls hl => ?_)
          refine lv_goto (tgt := 94) C.1.1 C.1.2.1 dX12_read_128 (by decide) ?_
          exact ih94 v5 x6 x7 M3 L4 _ _ ls hD hw (lv_sub hl [2, 3, 4, 1, 0] rfl)
  have hb191 : ∀ (s0 : Int32) (M : mwM) (L : mwL) (H : Heap) (locs : List Loc) (ls : Array Slot), fX12_read_b191 fu a1 s0 M L = some (r0, M0, L0) → mw_W G ad NF TF FF M L H locs → lv_has ls 8 [] → W p l e ({ frames := 4, cells := 0, slots := 0, locals := 103 }) s m [.ref (ad 821), .int a1].toArray below meth c H locs 0 0 (MQ below (mw_Qi G ad NF TF FF (mw_eqI r0 M0 L0)) [.ref (ad 821), .int a1].toArray s 0 0 (mw_fr G)) (F0 m 191 ls [.int s0]) := by
    intro s0 M L H locs ls hD hw hl
    unfold fX12_read_b191 at hD
    exact mr_iret C hr hlocks hw rfl (Option.some.inj hD) dX12_read_191
  have hb218 : ∀ (s0 : Int32) (M : mwM) (L : mwL) (H : Heap) (locs : List Loc) (ls : Array Slot), fX12_read_b218 fu a1 s0 M L = some (r0, M0, L0) → mw_W G ad NF TF FF M L H locs → lv_has ls 8 [] → W p l e ({ frames := 4, cells := 0, slots := 0, locals := 103 }) s m [.ref (ad 821), .int a1].toArray below meth c H locs 0 0 (MQ below (mw_Qi G ad NF TF FF (mw_eqI r0 M0 L0)) [.ref (ad 821), .int a1].toArray s 0 0 (mw_fr G)) (F0 m 218 ls [.int s0]) := by
    intro s0 M L H locs ls hD hw hl
    unfold fX12_read_b218 at hD
    exact mr_iret C hr hlocks hw rfl (Option.some.inj hD) dX12_read_218
  have hb232 : ∀ (s0 : Int32) (M : mwM) (L : mwL) (H : Heap) (locs : List Loc) (ls : Array Slot), fX12_read_b232 fu a1 s0 M L = some (r0, M0, L0) → mw_W G ad NF TF FF M L H locs → lv_has ls 8 [] → W p l e ({ frames := 4, cells := 0, slots := 0, locals := 103 }) s m [.ref (ad 821), .int a1].toArray below meth c H locs 0 0 (MQ below (mw_Qi G ad NF TF FF (mw_eqI r0 M0 L0)) [.ref (ad 821), .int a1].toArray s 0 0 (mw_fr G)) (F0 m 232 ls [.int s0]) := by
    intro s0 M L H locs ls hD hw hl
    unfold fX12_read_b232 at hD
    exact mr_iret C hr hlocks hw rfl (Option.some.inj hD) dX12_read_232
  unfold DX12_read at hD
  refine lv_aload_n C.1.1 C.1.2.1 dX12_read_0 rfl (lv_at hl 0 rfl) ?_
  refine lv_iload_n C.1.1 C.1.2.1 dX12_read_1 rfl (lv_at hl 1 rfl) ?_
  obtain ⟨r15, M13, L14, h1, hD⟩ := g_b3 hD
  refine md_cvI (As := [.int a1]) (rest := []) C hw (tX12_body l G ad fu a1 M L h1) kc_12 (by decide) tf_821 wd_3703 cwX12_body ⟨Nat.le_of_ble_eq_true rfl, Nat.le_of_ble_eq_true rfl⟩ rfl hl.1 (Nat.le_of_ble_eq_true rfl) dX12_read_2 rfl rfl ⟨Nat.zero_le _, Nat.zero_le _⟩ rfl (fun H locs hw => ?_)
  refine lv_istore_n (lv' := [(2, .int r15), (0, .ref (ad 821)), (1, .int a1)]) C.1.1 C.1.2.1 dX12_read_5 rfl hl (by decide) rfl (fun ls hl => ?_)
  refine lv_iload_n C.1.1 C.1.2.1 dX12_read_6 rfl (lv_at hl 0 rfl) ?_
  refine lv_iconst (v := (-1)) C.1.1 C.1.2.1 dX12_read_7 (by decide) ?_
  refine lv_icmp_ne (tgt := 19) C.1.1 C.1.2.1 dX12_read_8 (by decide) (fun c16 => ?_) (fun c16 => ?_)
  · replace hD := g_neg c16 hD
    exact hb19 r15 M13 L14 _ _ ls hD hw (lv_sub hl [0] rfl)
  · replace hD := g_pos c16 hD
    refine lv_aload_n C.1.1 C.1.2.1 dX12_read_11 rfl (lv_at hl 1 rfl) ?_
    refine mr_getI C hw kc_12 45 (by decide) tf_821 wd_2145 dX12_read_12 (by decide) rfl ?_
    refine lv_iconst (v := (-1)) C.1.1 C.1.2.1 dX12_read_15 (by decide) ?_
    refine lv_icmp_ne (tgt := 21) C.1.1 C.1.2.1 dX12_read_16 (by decide) (fun c17 => ?_) (fun c17 => ?_)
    · replace hD := g_neg c17 hD
      refine lv_aload_n C.1.1 C.1.2.1 dX12_read_21 rfl (lv_at hl 1 rfl) ?_
      refine mr_getR C hw kc_12 19 (by decide) tf_821 ff_821_19 wd_2119 dX12_read_22 (by decide) rfl ?_
      refine lv_iload_n C.1.1 C.1.2.1 dX12_read_25 rfl (lv_at hl 2 rfl) ?_
      obtain ⟨q18, hD⟩ := g_ck hD
      refine mr_iald C hw (by decide) tf_836 q18 dX12_read_26 ?_
      refine lv_iconst (v := 1) C.1.1 C.1.2.1 dX12_read_27 (by decide) ?_
      refine lv_isub C.1.1 C.1.2.1 dX12_read_28 ?_
      obtain ⟨x19, ex19, hD⟩ := g_let hD
      refine W.eq (g2 := F0 m 29 ls (.int x19 :: [])) (by rw [ex19]) ?_
      refine lv_istore_n (lv' := [(3, .int x19), (2, .int r15), (0, .ref (ad 821)), (1, .int a1)]) C.1.1 C.1.2.1 dX12_read_29 rfl hl (by decide) rfl (fun ls hl => ?_)
      refine lv_aload_n C.1.1 C.1.2.1 dX12_read_30 rfl (lv_at hl 2 rfl) ?_
      refine lv_iload_n C.1.1 C.1.2.1 dX12_read_31 rfl (lv_at hl 3 rfl) ?_
      refine lv_iload_n C.1.1 C.1.2.1 dX12_read_32 rfl (lv_at hl 0 rfl) ?_
      obtain ⟨r22, M20, L21, h1, hD⟩ := g_b3 hD
      refine md_cvI (As := [.int a1, .int x19]) (rest := []) C hw (tX12_bitAt l G ad fu a1 x19 M13 L14 h1) kc_12 (by decide) tf_821 wd_3711 cwX12_bitAt ⟨Nat.le_of_ble_eq_true rfl, Nat.le_of_ble_eq_true rfl⟩ rfl hl.1 (Nat.le_of_ble_eq_true rfl) dX12_read_33 rfl rfl ⟨Nat.zero_le _, Nat.zero_le _⟩ rfl (fun H locs hw => ?_)
      refine lv_istore (lv' := [(4, .int r22), (3, .int x19), (2, .int r15), (0, .ref (ad 821)), (1, .int a1)]) C.1.1 C.1.2.1 dX12_read_36 hl (by decide) rfl (fun ls hl => ?_)
      refine lv_iload_n C.1.1 C.1.2.1 dX12_read_38 rfl (lv_at hl 1 rfl) ?_
      refine lv_aload_n C.1.1 C.1.2.1 dX12_read_39 rfl (lv_at hl 3 rfl) ?_
      refine mr_getI C hw kc_12 45 (by decide) tf_821 wd_2145 dX12_read_40 (by decide) rfl ?_
      refine lv_isub C.1.1 C.1.2.1 dX12_read_43 ?_
      obtain ⟨x23, ex23, hD⟩ := g_let hD
      refine W.eq (g2 := F0 m 44 ls (.int x23 :: [])) (by rw [ex23]) ?_
      refine lv_istore (lv' := [(5, .int x23), (4, .int r22), (3, .int x19), (2, .int r15), (0, .ref (ad 821)), (1, .int a1)]) C.1.1 C.1.2.1 dX12_read_44 hl (by decide) rfl (fun ls hl => ?_)
      refine lv_iload C.1.1 C.1.2.1 dX12_read_46 (lv_at hl 0 rfl) ?_
      refine lv_if_ge (tgt := 53) C.1.1 C.1.2.1 dX12_read_48 (by decide) (fun c24 => ?_) (fun c24 => ?_)
      · replace hD := g_pos c24 hD
        refine lv_iload C.1.1 C.1.2.1 dX12_read_53 (lv_at hl 0 rfl) ?_
        refine lv_aload_n C.1.1 C.1.2.1 dX12_read_55 rfl (lv_at hl 4 rfl) ?_
        obtain ⟨r27, M25, L26, h1, hD⟩ := g_b3 hD
        refine md_cvI (As := []) (rest := [.int x23]) C hw (tX12_tail l G ad fu M20 L21 h1) kc_12 (by decide) tf_821 wd_3724 cwX12_tail ⟨Nat.le_of_ble_eq_true rfl, Nat.le_of_ble_eq_true rfl⟩ rfl hl.1 (Nat.le_of_ble_eq_true rfl) dX12_read_56 rfl rfl ⟨Nat.zero_le _, Nat.zero_le _⟩ rfl (fun H locs hw => ?_)
        refine lv_icmp_ge (tgt := 155) C.1.1 C.1.2.1 dX12_read_59 (by decide) (fun c28 => ?_) (fun c28 => ?_)
        · replace hD := g_pos c28 hD
          refine lv_iload C.1.1 C.1.2.1 dX12_read_155 (lv_at hl 0 rfl) ?_
          refine lv_aload_n C.1.1 C.1.2.1 dX12_read_157 rfl (lv_at hl 4 rfl) ?_
          obtain ⟨r31, M29, L30, h1, hD⟩ := g_b3 hD
          refine md_cvI (As := []) (rest := [.int x23]) C hw (tX12_tail l G ad fu M25 L26 h1) kc_12 (by decide) tf_821 wd_3724 cwX12_tail ⟨Nat.le_of_ble_eq_true rfl, Nat.le_of_ble_eq_true rfl⟩ rfl hl.1 (Nat.le_of_ble_eq_true rfl) dX12_read_158 rfl rfl ⟨Nat.zero_le _, Nat.zero_le _⟩ rfl (fun H locs hw => ?_)
          refine lv_isub C.1.1 C.1.2.1 dX12_read_161 ?_
          obtain ⟨x32, ex32, hD⟩ := g_let hD
          refine W.eq (g2 := F0 m 162 ls (.int x32 :: [])) (by rw [ex32]) ?_
          refine lv_istore (lv' := [(5, .int x32), (4, .int r22), (3, .int x19), (2, .int r15), (0, .ref (ad 821)), (1, .int a1)]) C.1.1 C.1.2.1 dX12_read_162 hl (by decide) rfl (fun ls hl => ?_)
          refine lv_iload C.1.1 C.1.2.1 dX12_read_164 (lv_at hl 0 rfl) ?_
          refine lv_iconst (v := 1) C.1.1 C.1.2.1 dX12_read_166 (by decide) ?_
          refine lv_icmp_ne (tgt := 172) C.1.1 C.1.2.1 dX12_read_167 (by decide) (fun c33 => ?_) (fun c33 => ?_)
          · replace hD := g_neg c33 hD
            refine lv_iload C.1.1 C.1.2.1 dX12_read_172 (lv_at hl 0 rfl) ?_
            refine lv_bipush (v := 9) C.1.1 C.1.2.1 dX12_read_174 (by decide) ?_
            refine lv_icmp_ne (tgt := 192) C.1.1 C.1.2.1 dX12_read_176 (by decide) (fun c34 => ?_) (fun c34 => ?_)
            · replace hD := g_neg c34 hD
              refine lv_iload C.1.1 C.1.2.1 dX12_read_192 (lv_at hl 1 rfl) ?_
              refine lv_if_ne (tgt := 199) C.1.1 C.1.2.1 dX12_read_194 (by decide) (fun c35 => ?_) (fun c35 => ?_)
              · replace hD := g_neg c35 hD
                refine lv_iload C.1.1 C.1.2.1 dX12_read_199 (lv_at hl 0 rfl) ?_
                refine lv_iconst (v := 2) C.1.1 C.1.2.1 dX12_read_201 (by decide) ?_
                refine lv_icmp_ne (tgt := 219) C.1.1 C.1.2.1 dX12_read_202 (by decide) (fun c36 => ?_) (fun c36 => ?_)
                · replace hD := g_neg c36 hD
                  refine lv_iload C.1.1 C.1.2.1 dX12_read_219 (lv_at hl 0 rfl) ?_
                  refine lv_bipush (v := 8) C.1.1 C.1.2.1 dX12_read_221 (by decide) ?_
                  refine lv_icmp_ne (tgt := 231) C.1.1 C.1.2.1 dX12_read_223 (by decide) (fun c37 => ?_) (fun c37 => ?_)
                  · replace hD := g_neg c37 hD
                    refine lv_iconst (v := (-1)) C.1.1 C.1.2.1 dX12_read_231 (by decide) ?_
                    exact hb232 ((-1)) M29 L30 _ _ ls hD hw (lv_sub hl [] rfl)
                  · replace hD := g_pos c37 hD
                    refine lv_bipush (v := 10) C.1.1 C.1.2.1 dX12_read_226 (by decide) ?_
                    refine lv_goto (tgt := 232) C.1.1 C.1.2.1 dX12_read_228 (by decide) ?_
                    exact hb232 10 M29 L30 _ _ ls hD hw (lv_sub hl [] rfl)
                · replace hD := g_pos c36 hD
                  refine lv_aload_n C.1.1 C.1.2.1 dX12_read_205 rfl (lv_at hl 4 rfl) ?_
                  refine lv_iload_n C.1.1 C.1.2.1 dX12_read_206 rfl (lv_at hl 5 rfl) ?_
                  obtain ⟨r40, M38, L39, h1, hD⟩ := g_b3 hD
                  refine md_cvI (As := [.int a1]) (rest := []) C hw (tX12_right l G ad fu a1 M29 L30 h1) kc_12 (by decide) tf_821 wd_3732 cwX12_right ⟨Nat.le_of_ble_eq_true rfl, Nat.le_of_ble_eq_true rfl⟩ rfl hl.1 (Nat.le_of_ble_eq_true rfl) dX12_read_207 rfl rfl ⟨Nat.zero_le _, Nat.zero_le _⟩ rfl (fun H locs hw => ?_)
                  refine lv_if_eq (tgt := 217) C.1.1 C.1.2.1 dX12_read_210 (by decide) (fun c41 => ?_) (fun c41 => ?_)
                  · replace hD := g_pos c41 hD
                    refine lv_iconst (v := 3) C.1.1 C.1.2.1 dX12_read_217 (by decide) ?_
                    exact hb218 3 M38 L39 _ _ ls hD hw (lv_sub hl [] rfl)
                  · replace hD := g_neg c41 hD
                    refine lv_iconst (v := (-1)) C.1.1 C.1.2.1 dX12_read_213 (by decide) ?_
                    refine lv_goto (tgt := 218) C.1.1 C.1.2.1 dX12_read_214 (by decide) ?_
                    exact hb218 ((-1)) M38 L39 _ _ ls hD hw (lv_sub hl [] rfl)
              · replace hD := g_pos c35 hD
                refine lv_iconst (v := 2) C.1.1 C.1.2.1 dX12_read_197 (by decide) ?_
                exact mr_iret C hr hlocks hw rfl (Option.some.inj hD) dX12_read_198
            · replace hD := g_pos c34 hD
              refine lv_iload C.1.1 C.1.2.1 dX12_read_179 (lv_at hl 1 rfl) ?_
              refine lv_iconst (v := 1) C.1.1 C.1.2.1 dX12_read_181 (by decide) ?_
              refine lv_icmp_ne (tgt := 190) C.1.1 C.1.2.1 dX12_read_182 (by decide) (fun c42 => ?_) (fun c42 => ?_)
              · replace hD := g_neg c42 hD
                refine lv_iconst (v := 5) C.1.1 C.1.2.1 dX12_read_190 (by decide) ?_
                exact hb191 5 M29 L30 _ _ ls hD hw (lv_sub hl [] rfl)
              · replace hD := g_pos c42 hD
                refine lv_bipush (v := 11) C.1.1 C.1.2.1 dX12_read_185 (by decide) ?_
                refine lv_goto (tgt := 191) C.1.1 C.1.2.1 dX12_read_187 (by decide) ?_
                exact hb191 11 M29 L30 _ _ ls hD hw (lv_sub hl [] rfl)
          · replace hD := g_pos c33 hD
            refine lv_iconst (v := (-1)) C.1.1 C.1.2.1 dX12_read_170 (by decide) ?_
            exact mr_iret C hr hlocks hw rfl (Option.some.inj hD) dX12_read_171
        · replace hD := g_neg c28 hD
          refine lv_iload C.1.1 C.1.2.1 dX12_read_62 (lv_at hl 0 rfl) ?_
          refine lv_iconst (v := 5) C.1.1 C.1.2.1 dX12_read_64 (by decide) ?_
          refine lv_irem C.1.1 C.1.2.1 dX12_read_65 (by decide) ?_
          refine lv_if_ne (tgt := 88) C.1.1 C.1.2.1 dX12_read_66 (by decide) (fun c44 => ?_) (fun c44 => ?_)
          · replace hD := g_neg c44 hD
            refine lv_iconst (v := 0) C.1.1 C.1.2.1 dX12_read_88 (by decide) ?_
            refine lv_istore (lv' := [(6, .int 0), (5, .int x23), (4, .int r22), (3, .int x19), (2, .int r15), (0, .ref (ad 821)), (1, .int a1)]) C.1.1 C.1.2.1 dX12_read_89 hl (by decide) rfl (fun ls hl => ?_)
            refine lv_iconst (v := 1) C.1.1 C.1.2.1 dX12_read_91 (by decide) ?_
            refine lv_istore (lv' := [(7, .int 1), (6, .int 0), (5, .int x23), (4, .int r22), (3, .int x19), (2, .int r15), (0, .ref (ad 821)), (1, .int a1)]) C.1.1 C.1.2.1 dX12_read_92 hl (by decide) rfl (fun ls hl => ?_)
            exact hh94 fu x23 0 1 M25 L26 _ _ ls hD hw (lv_sub hl [6, 7, 2, 1, 0] rfl)
          · replace hD := g_pos c44 hD
            refine lv_iload C.1.1 C.1.2.1 dX12_read_69 (lv_at hl 1 rfl) ?_
            refine lv_aload_n C.1.1 C.1.2.1 dX12_read_71 rfl (lv_at hl 4 rfl) ?_
            refine lv_iload_n C.1.1 C.1.2.1 dX12_read_72 rfl (lv_at hl 5 rfl) ?_
            refine lv_iload_n C.1.1 C.1.2.1 dX12_read_73 rfl (lv_at hl 2 rfl) ?_
            refine lv_iconst (v := 1) C.1.1 C.1.2.1 dX12_read_74 (by decide) ?_
            refine lv_isub C.1.1 C.1.2.1 dX12_read_75 ?_
            obtain ⟨r47, M45, L46, h1, hD⟩ := g_b3 hD
            refine md_cvI (As := [.int a1, .int (x19 - 1)]) (rest := [.int r22]) C hw (tX12_bitAt l G ad fu a1 (x19 - 1) M25 L26 h1) kc_12 (by decide) tf_821 wd_3711 cwX12_bitAt ⟨Nat.le_of_ble_eq_true rfl, Nat.le_of_ble_eq_true rfl⟩ rfl hl.1 (Nat.le_of_ble_eq_true rfl) dX12_read_76 rfl rfl ⟨Nat.zero_le _, Nat.zero_le _⟩ rfl (fun H locs hw => ?_)
            refine lv_icmp_ne (tgt := 86) C.1.1 C.1.2.1 dX12_read_79 (by decide) (fun c48 => ?_) (fun c48 => ?_)
            · replace hD := g_neg c48 hD
              refine lv_iconst (v := (-1)) C.1.1 C.1.2.1 dX12_read_86 (by decide) ?_
              exact hb87 ((-1)) M45 L46 _ _ ls hD hw (lv_sub hl [] rfl)
            · replace hD := g_pos c48 hD
              refine lv_iconst (v := 1) C.1.1 C.1.2.1 dX12_read_82 (by decide) ?_
              refine lv_goto (tgt := 87) C.1.1 C.1.2.1 dX12_read_83 (by decide) ?_
              exact hb87 1 M45 L46 _ _ ls hD hw (lv_sub hl [] rfl)
      · replace hD := g_neg c24 hD
        refine lv_iconst (v := (-1)) C.1.1 C.1.2.1 dX12_read_51 (by decide) ?_
        exact mr_iret C hr hlocks hw rfl (Option.some.inj hD) dX12_read_52
    · replace hD := g_pos c17 hD
      exact hb19 r15 M13 L14 _ _ ls hD hw (lv_sub hl [0] rfl)

theorem dX12_answers_0 : decode cX12_answers 0 = .ok (.aload_n 0, 1) := by decide +kernel
theorem dX12_answers_1 : decode cX12_answers 1 = .ok (.iload_n 1, 1) := by decide +kernel
theorem dX12_answers_2 : decode cX12_answers 2 = .ok (.invokevirtual 242, 3) := by decide +kernel
theorem dX12_answers_5 : decode cX12_answers 5 = .ok (.istore_n 2, 1) := by decide +kernel
theorem dX12_answers_6 : decode cX12_answers 6 = .ok (.iload_n 2, 1) := by decide +kernel
theorem dX12_answers_7 : decode cX12_answers 7 = .ok (.iconst (-1), 1) := by decide +kernel
theorem dX12_answers_8 : decode cX12_answers 8 = .ok (.if_icmp .ne 43, 3) := by decide +kernel
theorem dX12_answers_11 : decode cX12_answers 11 = .ok (.aload_n 0, 1) := by decide +kernel
theorem dX12_answers_12 : decode cX12_answers 12 = .ok (.getfield 209, 3) := by decide +kernel
theorem dX12_answers_15 : decode cX12_answers 15 = .ok (.iconst (-1), 1) := by decide +kernel
theorem dX12_answers_16 : decode cX12_answers 16 = .ok (.if_icmp .eq 35, 3) := by decide +kernel
theorem dX12_answers_19 : decode cX12_answers 19 = .ok (.aload_n 0, 1) := by decide +kernel
theorem dX12_answers_20 : decode cX12_answers 20 = .ok (.getfield 58, 3) := by decide +kernel
theorem dX12_answers_23 : decode cX12_answers 23 = .ok (.iload_n 1, 1) := by decide +kernel
theorem dX12_answers_24 : decode cX12_answers 24 = .ok (.iaload, 1) := by decide +kernel
theorem dX12_answers_25 : decode cX12_answers 25 = .ok (.aload_n 0, 1) := by decide +kernel
theorem dX12_answers_26 : decode cX12_answers 26 = .ok (.getfield 209, 3) := by decide +kernel
theorem dX12_answers_29 : decode cX12_answers 29 = .ok (.aload_n 0, 1) := by decide +kernel
theorem dX12_answers_30 : decode cX12_answers 30 = .ok (.invokevirtual 239, 3) := by decide +kernel
theorem dX12_answers_33 : decode cX12_answers 33 = .ok (.iadd, 1) := by decide +kernel
theorem dX12_answers_34 : decode cX12_answers 34 = .ok (.iconst 1, 1) := by decide +kernel
theorem dX12_answers_35 : decode cX12_answers 35 = .ok (.iadd, 1) := by decide +kernel
theorem dX12_answers_36 : decode cX12_answers 36 = .ok (.if_icmp .ne 15, 3) := by decide +kernel
theorem dX12_answers_39 : decode cX12_answers 39 = .ok (.aload_n 0, 1) := by decide +kernel
theorem dX12_answers_40 : decode cX12_answers 40 = .ok (.iload_n 1, 1) := by decide +kernel
theorem dX12_answers_41 : decode cX12_answers 41 = .ok (.invokevirtual 245, 3) := by decide +kernel
theorem dX12_answers_44 : decode cX12_answers 44 = .ok (.ifCond .eq 7, 3) := by decide +kernel
theorem dX12_answers_47 : decode cX12_answers 47 = .ok (.iconst 1, 1) := by decide +kernel
theorem dX12_answers_48 : decode cX12_answers 48 = .ok (.goto 4, 3) := by decide +kernel
theorem dX12_answers_51 : decode cX12_answers 51 = .ok (.iconst 0, 1) := by decide +kernel
theorem dX12_answers_52 : decode cX12_answers 52 = .ok (.ireturn, 1) := by decide +kernel
theorem cwX12_answers : mw_cwV yX12_answers cX12_answers 3 ((some .boolean)) 1 := ⟨⟨wd_15, wd_3702, by decide +kernel⟩, wd_3701, sl_241⟩
noncomputable def fX12_answers_b52 (fu : Nat) (a1 : Int32) (s0 : Int32) (M : mwM) (L : mwL) : Option (Int32 × mwM × mwL) :=
  mzz s0 (some (s0, M, L))
noncomputable def fX12_answers_b51 (fu : Nat) (a1 : Int32) (M : mwM) (L : mwL) : Option (Int32 × mwM × mwL) :=
  fX12_answers_b52 fu a1 0 M L
noncomputable def DX12_answers (fu : Nat) (a1 : Int32) (M : mwM) (L : mwL) : Option (Int32 × mwM × mwL) :=
  mb3 (DX12_body fu a1 M L) (fun r4 M2 L3 => (if r4 = ((-1)) then (if (M2 821 45) = ((-1)) then fX12_answers_b51 fu a1 M2 L3 else mck a1 32 (mb3 (DX12_tail fu M2 L3) (fun r10 M8 L9 => (if (M2 836 a1.toNatClampNeg) = (((M2 821 45) + r10) + 1) then mb3 (DX12_right fu a1 M8 L9) (fun r14 M12 L13 => (if r14 = 0 then fX12_answers_b51 fu a1 M12 L13 else fX12_answers_b52 fu a1 1 M12 L13)) else fX12_answers_b51 fu a1 M8 L9)))) else fX12_answers_b51 fu a1 M2 L3))
set_option maxHeartbeats 4000000 in
set_option maxRecDepth 100000 in
theorem tX12_answers (l : Launch) (G : mwG) (ad : Nat → Nat) (fu : Nat) (a1 : Int32) (M : mwM) (L : mwL) {r0 : Int32} {M0 : mwM} {L0 : mwL} (hD : DX12_answers fu a1 M L = some (r0, M0, L0)) : Met l yX12_answers (Cond.code yX12_answers cX12_answers 3 ((some .boolean)) :: GT) ({ frames := 4, cells := 0, slots := 0, locals := 103 }) (mw_Pre G ad NF TF FF M L [.ref (ad 821), .int a1]) (mw_Qi G ad NF TF FF (mw_eqI r0 M0 L0)) 0 0 (mw_fr G) := by
  refine mw_enter (by decide) (Nat.le_of_ble_eq_true rfl) ?_
  intro p e s m below meth c ls C hr hlocks hnm hw hl
  have hl : lv_has ls 3 [(0, .ref (ad 821)), (1, .int a1)] := hl
  have hb52 : ∀ (s0 : Int32) (M : mwM) (L : mwL) (H : Heap) (locs : List Loc) (ls : Array Slot), fX12_answers_b52 fu a1 s0 M L = some (r0, M0, L0) → mw_W G ad NF TF FF M L H locs → lv_has ls 3 [] → W p l e ({ frames := 4, cells := 0, slots := 0, locals := 103 }) s m [.ref (ad 821), .int a1].toArray below meth c H locs 0 0 (MQ below (mw_Qi G ad NF TF FF (mw_eqI r0 M0 L0)) [.ref (ad 821), .int a1].toArray s 0 0 (mw_fr G)) (F0 m 52 ls [.int s0]) := by
    intro s0 M L H locs ls hD hw hl
    unfold fX12_answers_b52 at hD
    obtain ⟨z1, hD⟩ := g_zz hD
    exact mr_iret C hr hlocks hw (nz_zz z1) (Option.some.inj hD) dX12_answers_52
  have hb51 : ∀ (M : mwM) (L : mwL) (H : Heap) (locs : List Loc) (ls : Array Slot), fX12_answers_b51 fu a1 M L = some (r0, M0, L0) → mw_W G ad NF TF FF M L H locs → lv_has ls 3 [] → W p l e ({ frames := 4, cells := 0, slots := 0, locals := 103 }) s m [.ref (ad 821), .int a1].toArray below meth c H locs 0 0 (MQ below (mw_Qi G ad NF TF FF (mw_eqI r0 M0 L0)) [.ref (ad 821), .int a1].toArray s 0 0 (mw_fr G)) (F0 m 51 ls []) := by
    intro M L H locs ls hD hw hl
    unfold fX12_answers_b51 at hD
    refine lv_iconst (v := 0) C.1.1 C.1.2.1 dX12_answers_51 (by decide) ?_
    exact hb52 0 M L _ _ ls hD hw (lv_sub hl [] rfl)
  unfold DX12_answers at hD
  refine lv_aload_n C.1.1 C.1.2.1 dX12_answers_0 rfl (lv_at hl 0 rfl) ?_
  refine lv_iload_n C.1.1 C.1.2.1 dX12_answers_1 rfl (lv_at hl 1 rfl) ?_
  obtain ⟨r4, M2, L3, h1, hD⟩ := g_b3 hD
  refine md_cvI (As := [.int a1]) (rest := []) C hw (tX12_body l G ad fu a1 M L h1) kc_12 (by decide) tf_821 wd_3703 cwX12_body ⟨Nat.le_of_ble_eq_true rfl, Nat.le_of_ble_eq_true rfl⟩ rfl hl.1 (Nat.le_of_ble_eq_true rfl) dX12_answers_2 rfl rfl ⟨Nat.zero_le _, Nat.zero_le _⟩ rfl (fun H locs hw => ?_)
  refine lv_istore_n (lv' := [(2, .int r4), (0, .ref (ad 821)), (1, .int a1)]) C.1.1 C.1.2.1 dX12_answers_5 rfl hl (by decide) rfl (fun ls hl => ?_)
  refine lv_iload_n C.1.1 C.1.2.1 dX12_answers_6 rfl (lv_at hl 0 rfl) ?_
  refine lv_iconst (v := (-1)) C.1.1 C.1.2.1 dX12_answers_7 (by decide) ?_
  refine lv_icmp_ne (tgt := 51) C.1.1 C.1.2.1 dX12_answers_8 (by decide) (fun c5 => ?_) (fun c5 => ?_)
  · replace hD := g_neg c5 hD
    exact hb51 M2 L3 _ _ ls hD hw (lv_sub hl [] rfl)
  · replace hD := g_pos c5 hD
    refine lv_aload_n C.1.1 C.1.2.1 dX12_answers_11 rfl (lv_at hl 1 rfl) ?_
    refine mr_getI C hw kc_12 45 (by decide) tf_821 wd_2145 dX12_answers_12 (by decide) rfl ?_
    refine lv_iconst (v := (-1)) C.1.1 C.1.2.1 dX12_answers_15 (by decide) ?_
    refine lv_icmp_eq (tgt := 51) C.1.1 C.1.2.1 dX12_answers_16 (by decide) (fun c6 => ?_) (fun c6 => ?_)
    · replace hD := g_pos c6 hD
      exact hb51 M2 L3 _ _ ls hD hw (lv_sub hl [] rfl)
    · replace hD := g_neg c6 hD
      refine lv_aload_n C.1.1 C.1.2.1 dX12_answers_19 rfl (lv_at hl 1 rfl) ?_
      refine mr_getR C hw kc_12 19 (by decide) tf_821 ff_821_19 wd_2119 dX12_answers_20 (by decide) rfl ?_
      refine lv_iload_n C.1.1 C.1.2.1 dX12_answers_23 rfl (lv_at hl 2 rfl) ?_
      obtain ⟨q7, hD⟩ := g_ck hD
      refine mr_iald C hw (by decide) tf_836 q7 dX12_answers_24 ?_
      refine lv_aload_n C.1.1 C.1.2.1 dX12_answers_25 rfl (lv_at hl 1 rfl) ?_
      refine mr_getI C hw kc_12 45 (by decide) tf_821 wd_2145 dX12_answers_26 (by decide) rfl ?_
      refine lv_aload_n C.1.1 C.1.2.1 dX12_answers_29 rfl (lv_at hl 1 rfl) ?_
      obtain ⟨r10, M8, L9, h1, hD⟩ := g_b3 hD
      refine md_cvI (As := []) (rest := [.int (M2 821 45), .int (M2 836 a1.toNatClampNeg)]) C hw (tX12_tail l G ad fu M2 L3 h1) kc_12 (by decide) tf_821 wd_3724 cwX12_tail ⟨Nat.le_of_ble_eq_true rfl, Nat.le_of_ble_eq_true rfl⟩ rfl hl.1 (Nat.le_of_ble_eq_true rfl) dX12_answers_30 rfl rfl ⟨Nat.zero_le _, Nat.zero_le _⟩ rfl (fun H locs hw => ?_)
      refine lv_iadd C.1.1 C.1.2.1 dX12_answers_33 ?_
      refine lv_iconst (v := 1) C.1.1 C.1.2.1 dX12_answers_34 (by decide) ?_
      refine lv_iadd C.1.1 C.1.2.1 dX12_answers_35 ?_
      refine lv_icmp_ne (tgt := 51) C.1.1 C.1.2.1 dX12_answers_36 (by decide) (fun c11 => ?_) (fun c11 => ?_)
      · replace hD := g_neg c11 hD
        exact hb51 M8 L9 _ _ ls hD hw (lv_sub hl [] rfl)
      · replace hD := g_pos c11 hD
        refine lv_aload_n C.1.1 C.1.2.1 dX12_answers_39 rfl (lv_at hl 1 rfl) ?_
        refine lv_iload_n C.1.1 C.1.2.1 dX12_answers_40 rfl (lv_at hl 2 rfl) ?_
        obtain ⟨r14, M12, L13, h1, hD⟩ := g_b3 hD
        refine md_cvI (As := [.int a1]) (rest := []) C hw (tX12_right l G ad fu a1 M8 L9 h1) kc_12 (by decide) tf_821 wd_3732 cwX12_right ⟨Nat.le_of_ble_eq_true rfl, Nat.le_of_ble_eq_true rfl⟩ rfl hl.1 (Nat.le_of_ble_eq_true rfl) dX12_answers_41 rfl rfl ⟨Nat.zero_le _, Nat.zero_le _⟩ rfl (fun H locs hw => ?_)
        refine lv_if_eq (tgt := 51) C.1.1 C.1.2.1 dX12_answers_44 (by decide) (fun c15 => ?_) (fun c15 => ?_)
        · replace hD := g_pos c15 hD
          exact hb51 M12 L13 _ _ ls hD hw (lv_sub hl [] rfl)
        · replace hD := g_neg c15 hD
          refine lv_iconst (v := 1) C.1.1 C.1.2.1 dX12_answers_47 (by decide) ?_
          refine lv_goto (tgt := 52) C.1.1 C.1.2.1 dX12_answers_48 (by decide) ?_
          exact hb52 1 M12 L13 _ _ ls hD hw (lv_sub hl [] rfl)
