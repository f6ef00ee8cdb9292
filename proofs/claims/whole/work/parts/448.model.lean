theorem dX19_transferred_0 : decode cX19_transferred 0 = .ok (.aload_n 0, 1) := by decide +kernel
theorem dX19_transferred_1 : decode cX19_transferred 1 = .ok (.getfield 198, 3) := by decide +kernel
theorem dX19_transferred_4 : decode cX19_transferred 4 = .ok (.aload_n 0, 1) := by decide +kernel
theorem dX19_transferred_5 : decode cX19_transferred 5 = .ok (.getfield 600, 3) := by decide +kernel
theorem dX19_transferred_8 : decode cX19_transferred 8 = .ok (.i2l, 1) := by decide +kernel
theorem dX19_transferred_9 : decode cX19_transferred 9 = .ok (.invokevirtual 738, 3) := by decide +kernel
theorem dX19_transferred_12 : decode cX19_transferred 12 = .ok (.istore_n 1, 1) := by decide +kernel
theorem dX19_transferred_13 : decode cX19_transferred 13 = .ok (.aload_n 0, 1) := by decide +kernel
theorem dX19_transferred_14 : decode cX19_transferred 14 = .ok (.getfield 198, 3) := by decide +kernel
theorem dX19_transferred_17 : decode cX19_transferred 17 = .ok (.iconst 0, 1) := by decide +kernel
theorem dX19_transferred_18 : decode cX19_transferred 18 = .ok (.iconst 0, 1) := by decide +kernel
theorem dX19_transferred_19 : decode cX19_transferred 19 = .ok (.invokevirtual 720, 3) := by decide +kernel
theorem dX19_transferred_22 : decode cX19_transferred 22 = .ok (.istore_n 2, 1) := by decide +kernel
theorem dX19_transferred_23 : decode cX19_transferred 23 = .ok (.aload_n 0, 1) := by decide +kernel
theorem dX19_transferred_24 : decode cX19_transferred 24 = .ok (.getfield 609, 3) := by decide +kernel
theorem dX19_transferred_27 : decode cX19_transferred 27 = .ok (.iload_n 2, 1) := by decide +kernel
theorem dX19_transferred_28 : decode cX19_transferred 28 = .ok (.if_icmp .ge 262, 3) := by decide +kernel
theorem dX19_transferred_31 : decode cX19_transferred 31 = .ok (.aload_n 0, 1) := by decide +kernel
theorem dX19_transferred_32 : decode cX19_transferred 32 = .ok (.dup, 1) := by decide +kernel
theorem dX19_transferred_33 : decode cX19_transferred 33 = .ok (.getfield 609, 3) := by decide +kernel
theorem dX19_transferred_36 : decode cX19_transferred 36 = .ok (.iconst 1, 1) := by decide +kernel
theorem dX19_transferred_37 : decode cX19_transferred 37 = .ok (.iadd, 1) := by decide +kernel
theorem dX19_transferred_38 : decode cX19_transferred 38 = .ok (.putfield 609, 3) := by decide +kernel
theorem dX19_transferred_41 : decode cX19_transferred 41 = .ok (.aload_n 0, 1) := by decide +kernel
theorem dX19_transferred_42 : decode cX19_transferred 42 = .ok (.getfield 198, 3) := by decide +kernel
theorem dX19_transferred_45 : decode cX19_transferred 45 = .ok (.aload_n 0, 1) := by decide +kernel
theorem dX19_transferred_46 : decode cX19_transferred 46 = .ok (.getfield 609, 3) := by decide +kernel
theorem dX19_transferred_49 : decode cX19_transferred 49 = .ok (.iconst 0, 1) := by decide +kernel
theorem dX19_transferred_50 : decode cX19_transferred 50 = .ok (.invokevirtual 720, 3) := by decide +kernel
theorem dX19_transferred_53 : decode cX19_transferred 53 = .ok (.istore_n 3, 1) := by decide +kernel
theorem dX19_transferred_54 : decode cX19_transferred 54 = .ok (.aload_n 0, 1) := by decide +kernel
theorem dX19_transferred_55 : decode cX19_transferred 55 = .ok (.getfield 198, 3) := by decide +kernel
theorem dX19_transferred_58 : decode cX19_transferred 58 = .ok (.aload_n 0, 1) := by decide +kernel
theorem dX19_transferred_59 : decode cX19_transferred 59 = .ok (.getfield 609, 3) := by decide +kernel
theorem dX19_transferred_62 : decode cX19_transferred 62 = .ok (.iconst 1, 1) := by decide +kernel
theorem dX19_transferred_63 : decode cX19_transferred 63 = .ok (.invokevirtual 720, 3) := by decide +kernel
theorem dX19_transferred_66 : decode cX19_transferred 66 = .ok (.istore 4, 2) := by decide +kernel
theorem dX19_transferred_68 : decode cX19_transferred 68 = .ok (.aload_n 0, 1) := by decide +kernel
theorem dX19_transferred_69 : decode cX19_transferred 69 = .ok (.getfield 230, 3) := by decide +kernel
theorem dX19_transferred_72 : decode cX19_transferred 72 = .ok (.iconst 0, 1) := by decide +kernel
theorem dX19_transferred_73 : decode cX19_transferred 73 = .ok (.iload_n 3, 1) := by decide +kernel
theorem dX19_transferred_74 : decode cX19_transferred 74 = .ok (.bipush 16, 2) := by decide +kernel
theorem dX19_transferred_76 : decode cX19_transferred 76 = .ok (.imul, 1) := by decide +kernel
theorem dX19_transferred_77 : decode cX19_transferred 77 = .ok (.aload_n 0, 1) := by decide +kernel
theorem dX19_transferred_78 : decode cX19_transferred 78 = .ok (.getfield 198, 3) := by decide +kernel
theorem dX19_transferred_81 : decode cX19_transferred 81 = .ok (.aload_n 0, 1) := by decide +kernel
theorem dX19_transferred_82 : decode cX19_transferred 82 = .ok (.getfield 609, 3) := by decide +kernel
theorem dX19_transferred_85 : decode cX19_transferred 85 = .ok (.iconst 2, 1) := by decide +kernel
theorem dX19_transferred_86 : decode cX19_transferred 86 = .ok (.invokevirtual 720, 3) := by decide +kernel
theorem dX19_transferred_89 : decode cX19_transferred 89 = .ok (.bipush 16, 2) := by decide +kernel
theorem dX19_transferred_91 : decode cX19_transferred 91 = .ok (.irem, 1) := by decide +kernel
theorem dX19_transferred_92 : decode cX19_transferred 92 = .ok (.iadd, 1) := by decide +kernel
theorem dX19_transferred_93 : decode cX19_transferred 93 = .ok (.iastore, 1) := by decide +kernel
theorem dX19_transferred_94 : decode cX19_transferred 94 = .ok (.iconst 1, 1) := by decide +kernel
theorem dX19_transferred_95 : decode cX19_transferred 95 = .ok (.istore 5, 2) := by decide +kernel
theorem dX19_transferred_97 : decode cX19_transferred 97 = .ok (.iload 5, 2) := by decide +kernel
theorem dX19_transferred_99 : decode cX19_transferred 99 = .ok (.bipush 8, 2) := by decide +kernel
theorem dX19_transferred_101 : decode cX19_transferred 101 = .ok (.if_icmp .ge 83, 3) := by decide +kernel
theorem dX19_transferred_104 : decode cX19_transferred 104 = .ok (.aload_n 0, 1) := by decide +kernel
theorem dX19_transferred_105 : decode cX19_transferred 105 = .ok (.getfield 230, 3) := by decide +kernel
theorem dX19_transferred_108 : decode cX19_transferred 108 = .ok (.iload 5, 2) := by decide +kernel
theorem dX19_transferred_110 : decode cX19_transferred 110 = .ok (.iload_n 3, 1) := by decide +kernel
theorem dX19_transferred_111 : decode cX19_transferred 111 = .ok (.iconst 3, 1) := by decide +kernel
theorem dX19_transferred_112 : decode cX19_transferred 112 = .ok (.if_icmp .ne 49, 3) := by decide +kernel
theorem dX19_transferred_115 : decode cX19_transferred 115 = .ok (.iload 5, 2) := by decide +kernel
theorem dX19_transferred_117 : decode cX19_transferred 117 = .ok (.iconst 1, 1) := by decide +kernel
theorem dX19_transferred_118 : decode cX19_transferred 118 = .ok (.if_icmp .ne 18, 3) := by decide +kernel
theorem dX19_transferred_121 : decode cX19_transferred 121 = .ok (.aload_n 0, 1) := by decide +kernel
theorem dX19_transferred_122 : decode cX19_transferred 122 = .ok (.getfield 198, 3) := by decide +kernel
theorem dX19_transferred_125 : decode cX19_transferred 125 = .ok (.aload_n 0, 1) := by decide +kernel
theorem dX19_transferred_126 : decode cX19_transferred 126 = .ok (.getfield 609, 3) := by decide +kernel
theorem dX19_transferred_129 : decode cX19_transferred 129 = .ok (.iconst 3, 1) := by decide +kernel
theorem dX19_transferred_130 : decode cX19_transferred 130 = .ok (.invokevirtual 720, 3) := by decide +kernel
theorem dX19_transferred_133 : decode cX19_transferred 133 = .ok (.goto 44, 3) := by decide +kernel
theorem dX19_transferred_136 : decode cX19_transferred 136 = .ok (.iload 5, 2) := by decide +kernel
theorem dX19_transferred_138 : decode cX19_transferred 138 = .ok (.iconst 2, 1) := by decide +kernel
theorem dX19_transferred_139 : decode cX19_transferred 139 = .ok (.if_icmp .ne 18, 3) := by decide +kernel
theorem dX19_transferred_142 : decode cX19_transferred 142 = .ok (.aload_n 0, 1) := by decide +kernel
theorem dX19_transferred_143 : decode cX19_transferred 143 = .ok (.getfield 198, 3) := by decide +kernel
theorem dX19_transferred_146 : decode cX19_transferred 146 = .ok (.aload_n 0, 1) := by decide +kernel
theorem dX19_transferred_147 : decode cX19_transferred 147 = .ok (.getfield 609, 3) := by decide +kernel
theorem dX19_transferred_150 : decode cX19_transferred 150 = .ok (.iconst 5, 1) := by decide +kernel
theorem dX19_transferred_151 : decode cX19_transferred 151 = .ok (.invokevirtual 720, 3) := by decide +kernel
theorem dX19_transferred_154 : decode cX19_transferred 154 = .ok (.goto 23, 3) := by decide +kernel
theorem dX19_transferred_157 : decode cX19_transferred 157 = .ok (.iconst 0, 1) := by decide +kernel
theorem dX19_transferred_158 : decode cX19_transferred 158 = .ok (.goto 19, 3) := by decide +kernel
theorem dX19_transferred_161 : decode cX19_transferred 161 = .ok (.aload_n 0, 1) := by decide +kernel
theorem dX19_transferred_162 : decode cX19_transferred 162 = .ok (.getfield 198, 3) := by decide +kernel
theorem dX19_transferred_165 : decode cX19_transferred 165 = .ok (.aload_n 0, 1) := by decide +kernel
theorem dX19_transferred_166 : decode cX19_transferred 166 = .ok (.getfield 609, 3) := by decide +kernel
theorem dX19_transferred_169 : decode cX19_transferred 169 = .ok (.bipush 7, 2) := by decide +kernel
theorem dX19_transferred_171 : decode cX19_transferred 171 = .ok (.iload 5, 2) := by decide +kernel
theorem dX19_transferred_173 : decode cX19_transferred 173 = .ok (.iadd, 1) := by decide +kernel
theorem dX19_transferred_174 : decode cX19_transferred 174 = .ok (.invokevirtual 720, 3) := by decide +kernel
theorem dX19_transferred_177 : decode cX19_transferred 177 = .ok (.iastore, 1) := by decide +kernel
theorem dX19_transferred_178 : decode cX19_transferred 178 = .ok (.iinc 5 1, 3) := by decide +kernel
theorem dX19_transferred_181 : decode cX19_transferred 181 = .ok (.goto (-84), 3) := by decide +kernel
theorem dX19_transferred_184 : decode cX19_transferred 184 = .ok (.iload_n 3, 1) := by decide +kernel
theorem dX19_transferred_185 : decode cX19_transferred 185 = .ok (.iconst 3, 1) := by decide +kernel
theorem dX19_transferred_186 : decode cX19_transferred 186 = .ok (.if_icmp .ne 21, 3) := by decide +kernel
theorem dX19_transferred_189 : decode cX19_transferred 189 = .ok (.aload_n 0, 1) := by decide +kernel
theorem dX19_transferred_190 : decode cX19_transferred 190 = .ok (.getfield 236, 3) := by decide +kernel
theorem dX19_transferred_193 : decode cX19_transferred 193 = .ok (.iload 4, 2) := by decide +kernel
theorem dX19_transferred_195 : decode cX19_transferred 195 = .ok (.baload, 1) := by decide +kernel
theorem dX19_transferred_196 : decode cX19_transferred 196 = .ok (.ifCond .ne 7, 3) := by decide +kernel
theorem dX19_transferred_199 : decode cX19_transferred 199 = .ok (.iconst 1, 1) := by decide +kernel
theorem dX19_transferred_200 : decode cX19_transferred 200 = .ok (.goto 14, 3) := by decide +kernel
theorem dX19_transferred_203 : decode cX19_transferred 203 = .ok (.iconst 0, 1) := by decide +kernel
theorem dX19_transferred_204 : decode cX19_transferred 204 = .ok (.goto 10, 3) := by decide +kernel
theorem dX19_transferred_207 : decode cX19_transferred 207 = .ok (.aload_n 0, 1) := by decide +kernel
theorem dX19_transferred_208 : decode cX19_transferred 208 = .ok (.getfield 236, 3) := by decide +kernel
theorem dX19_transferred_211 : decode cX19_transferred 211 = .ok (.iload 4, 2) := by decide +kernel
theorem dX19_transferred_213 : decode cX19_transferred 213 = .ok (.baload, 1) := by decide +kernel
theorem dX19_transferred_214 : decode cX19_transferred 214 = .ok (.istore 5, 2) := by decide +kernel
theorem dX19_transferred_216 : decode cX19_transferred 216 = .ok (.iload 5, 2) := by decide +kernel
theorem dX19_transferred_218 : decode cX19_transferred 218 = .ok (.ifCond .eq 10, 3) := by decide +kernel
theorem dX19_transferred_221 : decode cX19_transferred 221 = .ok (.aload_n 0, 1) := by decide +kernel
theorem dX19_transferred_222 : decode cX19_transferred 222 = .ok (.getfield 435, 3) := by decide +kernel
theorem dX19_transferred_225 : decode cX19_transferred 225 = .ok (.goto 10, 3) := by decide +kernel
theorem dX19_transferred_228 : decode cX19_transferred 228 = .ok (.aload_n 0, 1) := by decide +kernel
theorem dX19_transferred_229 : decode cX19_transferred 229 = .ok (.getfield 233, 3) := by decide +kernel
theorem dX19_transferred_232 : decode cX19_transferred 232 = .ok (.iload 4, 2) := by decide +kernel
theorem dX19_transferred_234 : decode cX19_transferred 234 = .ok (.iaload, 1) := by decide +kernel
theorem dX19_transferred_235 : decode cX19_transferred 235 = .ok (.istore 6, 2) := by decide +kernel
theorem dX19_transferred_237 : decode cX19_transferred 237 = .ok (.aload_n 0, 1) := by decide +kernel
theorem dX19_transferred_238 : decode cX19_transferred 238 = .ok (.iload 6, 2) := by decide +kernel
theorem dX19_transferred_240 : decode cX19_transferred 240 = .ok (.sipush 1536, 3) := by decide +kernel
theorem dX19_transferred_243 : decode cX19_transferred 243 = .ok (.iconst 2, 1) := by decide +kernel
theorem dX19_transferred_244 : decode cX19_transferred 244 = .ok (.aload_n 0, 1) := by decide +kernel
theorem dX19_transferred_245 : decode cX19_transferred 245 = .ok (.getfield 233, 3) := by decide +kernel
theorem dX19_transferred_248 : decode cX19_transferred 248 = .ok (.iload 4, 2) := by decide +kernel
theorem dX19_transferred_250 : decode cX19_transferred 250 = .ok (.iaload, 1) := by decide +kernel
theorem dX19_transferred_251 : decode cX19_transferred 251 = .ok (.imul, 1) := by decide +kernel
theorem dX19_transferred_252 : decode cX19_transferred 252 = .ok (.iadd, 1) := by decide +kernel
theorem dX19_transferred_253 : decode cX19_transferred 253 = .ok (.iload 5, 2) := by decide +kernel
theorem dX19_transferred_255 : decode cX19_transferred 255 = .ok (.ifCond .eq 7, 3) := by decide +kernel
theorem dX19_transferred_258 : decode cX19_transferred 258 = .ok (.iconst 0, 1) := by decide +kernel
theorem dX19_transferred_259 : decode cX19_transferred 259 = .ok (.goto 4, 3) := by decide +kernel
theorem dX19_transferred_262 : decode cX19_transferred 262 = .ok (.iconst 1, 1) := by decide +kernel
theorem dX19_transferred_263 : decode cX19_transferred 263 = .ok (.iadd, 1) := by decide +kernel
theorem dX19_transferred_264 : decode cX19_transferred 264 = .ok (.aload_n 0, 1) := by decide +kernel
theorem dX19_transferred_265 : decode cX19_transferred 265 = .ok (.getfield 609, 3) := by decide +kernel
theorem dX19_transferred_268 : decode cX19_transferred 268 = .ok (.invokevirtual 679, 3) := by decide +kernel
theorem dX19_transferred_271 : decode cX19_transferred 271 = .ok (.ifCond .ne 16, 3) := by decide +kernel
theorem dX19_transferred_274 : decode cX19_transferred 274 = .ok (.aload_n 0, 1) := by decide +kernel
theorem dX19_transferred_275 : decode cX19_transferred 275 = .ok (.getfield 198, 3) := by decide +kernel
theorem dX19_transferred_278 : decode cX19_transferred 278 = .ok (.aload_n 0, 1) := by decide +kernel
theorem dX19_transferred_279 : decode cX19_transferred 279 = .ok (.getfield 609, 3) := by decide +kernel
theorem dX19_transferred_282 : decode cX19_transferred 282 = .ok (.invokevirtual 741, 3) := by decide +kernel
theorem dX19_transferred_285 : decode cX19_transferred 285 = .ok (.istore 7, 2) := by decide +kernel
theorem dX19_transferred_287 : decode cX19_transferred 287 = .ok (.goto (-264), 3) := by decide +kernel
theorem dX19_transferred_290 : decode cX19_transferred 290 = .ok (.iconst 0, 1) := by decide +kernel
theorem dX19_transferred_291 : decode cX19_transferred 291 = .ok (.istore_n 3, 1) := by decide +kernel
theorem dX19_transferred_292 : decode cX19_transferred 292 = .ok (.iconst 1, 1) := by decide +kernel
theorem dX19_transferred_293 : decode cX19_transferred 293 = .ok (.istore 4, 2) := by decide +kernel
theorem dX19_transferred_295 : decode cX19_transferred 295 = .ok (.iload 4, 2) := by decide +kernel
theorem dX19_transferred_297 : decode cX19_transferred 297 = .ok (.bipush 8, 2) := by decide +kernel
theorem dX19_transferred_299 : decode cX19_transferred 299 = .ok (.if_icmp .ge 21, 3) := by decide +kernel
theorem dX19_transferred_302 : decode cX19_transferred 302 = .ok (.iload_n 3, 1) := by decide +kernel
theorem dX19_transferred_303 : decode cX19_transferred 303 = .ok (.aload_n 0, 1) := by decide +kernel
theorem dX19_transferred_304 : decode cX19_transferred 304 = .ok (.getfield 198, 3) := by decide +kernel
theorem dX19_transferred_307 : decode cX19_transferred 307 = .ok (.iload 4, 2) := by decide +kernel
theorem dX19_transferred_309 : decode cX19_transferred 309 = .ok (.invokevirtual 713, 3) := by decide +kernel
theorem dX19_transferred_312 : decode cX19_transferred 312 = .ok (.iadd, 1) := by decide +kernel
theorem dX19_transferred_313 : decode cX19_transferred 313 = .ok (.istore_n 3, 1) := by decide +kernel
theorem dX19_transferred_314 : decode cX19_transferred 314 = .ok (.iinc 4 1, 3) := by decide +kernel
theorem dX19_transferred_317 : decode cX19_transferred 317 = .ok (.goto (-22), 3) := by decide +kernel
theorem dX19_transferred_320 : decode cX19_transferred 320 = .ok (.iload_n 3, 1) := by decide +kernel
theorem dX19_transferred_321 : decode cX19_transferred 321 = .ok (.aload_n 0, 1) := by decide +kernel
theorem dX19_transferred_322 : decode cX19_transferred 322 = .ok (.getfield 615, 3) := by decide +kernel
theorem dX19_transferred_325 : decode cX19_transferred 325 = .ok (.if_icmp .le 25, 3) := by decide +kernel
theorem dX19_transferred_328 : decode cX19_transferred 328 = .ok (.aload_n 0, 1) := by decide +kernel
theorem dX19_transferred_329 : decode cX19_transferred 329 = .ok (.getfield 245, 3) := by decide +kernel
theorem dX19_transferred_332 : decode cX19_transferred 332 = .ok (.ifCond .lt 18, 3) := by decide +kernel
theorem dX19_transferred_335 : decode cX19_transferred 335 = .ok (.aload_n 0, 1) := by decide +kernel
theorem dX19_transferred_336 : decode cX19_transferred 336 = .ok (.getfield 273, 3) := by decide +kernel
theorem dX19_transferred_339 : decode cX19_transferred 339 = .ok (.iconst 4, 1) := by decide +kernel
theorem dX19_transferred_340 : decode cX19_transferred 340 = .ok (.dup2, 1) := by decide +kernel
theorem dX19_transferred_341 : decode cX19_transferred 341 = .ok (.iaload, 1) := by decide +kernel
theorem dX19_transferred_342 : decode cX19_transferred 342 = .ok (.iconst 1, 1) := by decide +kernel
theorem dX19_transferred_343 : decode cX19_transferred 343 = .ok (.iadd, 1) := by decide +kernel
theorem dX19_transferred_344 : decode cX19_transferred 344 = .ok (.iastore, 1) := by decide +kernel
theorem dX19_transferred_345 : decode cX19_transferred 345 = .ok (.aload_n 0, 1) := by decide +kernel
theorem dX19_transferred_346 : decode cX19_transferred 346 = .ok (.iconst (-1), 1) := by decide +kernel
theorem dX19_transferred_347 : decode cX19_transferred 347 = .ok (.putfield 245, 3) := by decide +kernel
theorem dX19_transferred_350 : decode cX19_transferred 350 = .ok (.aload_n 0, 1) := by decide +kernel
theorem dX19_transferred_351 : decode cX19_transferred 351 = .ok (.iload_n 3, 1) := by decide +kernel
theorem dX19_transferred_352 : decode cX19_transferred 352 = .ok (.putfield 615, 3) := by decide +kernel
theorem dX19_transferred_355 : decode cX19_transferred 355 = .ok (.return_, 1) := by decide +kernel
theorem cwX19_transferred : mw_cwV yX19_transferred cX19_transferred 8 (none) 0 := ⟨⟨wd_13, wd_4150, by decide +kernel⟩, wd_4149, sl_333⟩
noncomputable def fX19_transferred_b350 (fu : Nat) (v3 : Int32) (M : mwM) (L : mwL) : Option (mwM × mwL) :=
  mlet (mset M 732 96 v3) (fun M59 => some (M59, L))
noncomputable def fX19_transferred_i295 (fu : Nat) (r295 : (Int32 × Int32 × mwM × mwL) → Option (mwM × mwL)) (v3 : Int32) (v4 : Int32) (M : mwM) (L : mwL) : Option (mwM × mwL) :=
  (if 8 ≤ v4 then (if v3 ≤ (M 732 96) then fX19_transferred_b350 fu v3 M L else (if (M 732 97) < 0 then fX19_transferred_b350 fu v3 M L else mlet (mset M 939 ((4 : Int32).toNatClampNeg) ((M 939 (4 : Int32).toNatClampNeg) + 1)) (fun M52 => mlet (mset M52 732 97 ((-1))) (fun M53 => fX19_transferred_b350 fu v3 M53 L)))) else mb3 (DX17_ended fu v4 M L) (fun r56 M54 L55 => mlet (v3 + r56) (fun x57 => mlet (v4 + 1) (fun x58 => r295 (x57, x58, M54, L55)))))
noncomputable def fX19_transferred_h295 (fu : Nat) : Nat → (Int32 × Int32 × mwM × mwL) → Option (mwM × mwL) := mloop (fun r295 s => fX19_transferred_i295 fu r295 s.1 s.2.1 s.2.2.1 s.2.2.2)
noncomputable def fX19_transferred_b287 (fu : Nat) (r23 : (Int32 × mwM × mwL) → Option (mwM × mwL)) (v2 : Int32) (M : mwM) (L : mwL) : Option (mwM × mwL) :=
  r23 (v2, M, L)
noncomputable def fX19_transferred_b263 (fu : Nat) (r23 : (Int32 × mwM × mwL) → Option (mwM × mwL)) (v2 : Int32) (s1 : Int32) (s2 : Int32) (s3 : Int32) (M : mwM) (L : mwL) : Option (mwM × mwL) :=
  mb3 (DX19_put fu s1 (s2 + s3) (M 732 94) M L) (fun r42 M40 L41 => (if r42 = 0 then mb3 (DX17_lose fu (M40 732 94) M40 L41) (fun r46 M44 L45 => fX19_transferred_b287 fu r23 v2 M44 L45) else fX19_transferred_b287 fu r23 v2 M40 L41))
noncomputable def fX19_transferred_b235 (fu : Nat) (r23 : (Int32 × mwM × mwL) → Option (mwM × mwL)) (v2 : Int32) (v4 : Int32) (v5 : Int32) (s0 : Int32) (M : mwM) (L : mwL) : Option (mwM × mwL) :=
  mck v4 101 ((if v5 = 0 then fX19_transferred_b263 fu r23 v2 s0 (1536 + (2 * (M 927 v4.toNatClampNeg))) 1 M L else fX19_transferred_b263 fu r23 v2 s0 (1536 + (2 * (M 927 v4.toNatClampNeg))) 0 M L))
noncomputable def fX19_transferred_b214 (fu : Nat) (r23 : (Int32 × mwM × mwL) → Option (mwM × mwL)) (v2 : Int32) (v4 : Int32) (s0 : Int32) (M : mwM) (L : mwL) : Option (mwM × mwL) :=
  (if s0 = 0 then mck v4 101 (fX19_transferred_b235 fu r23 v2 v4 s0 (M 927 v4.toNatClampNeg) M L) else fX19_transferred_b235 fu r23 v2 v4 s0 (M 732 19) M L)
noncomputable def fX19_transferred_b177 (fu : Nat) (r23 : (Int32 × mwM × mwL) → Option (mwM × mwL)) (r97 : (Int32 × Int32 × Int32 × Int32 × mwM × mwL) → Option (mwM × mwL)) (v2 : Int32) (v3 : Int32) (v4 : Int32) (v5 : Int32) (s1 : Int32) (s2 : Int32) (M : mwM) (L : mwL) : Option (mwM × mwL) :=
  mck s1 8 (mlet (mset M 926 (s1.toNatClampNeg) s2) (fun M34 => mlet (v5 + 1) (fun x35 => r97 (v2, v3, v4, x35, M34, L))))
noncomputable def fX19_transferred_i97 (fu : Nat) (r23 : (Int32 × mwM × mwL) → Option (mwM × mwL)) (r97 : (Int32 × Int32 × Int32 × Int32 × mwM × mwL) → Option (mwM × mwL)) (v2 : Int32) (v3 : Int32) (v4 : Int32) (v5 : Int32) (M : mwM) (L : mwL) : Option (mwM × mwL) :=
  (if 8 ≤ v5 then (if v3 = 3 then mck v4 101 ((if (M 928 v4.toNatClampNeg) = 0 then fX19_transferred_b214 fu r23 v2 v4 1 M L else fX19_transferred_b214 fu r23 v2 v4 0 M L)) else mck v4 101 (fX19_transferred_b214 fu r23 v2 v4 (M 928 v4.toNatClampNeg) M L)) else (if v3 = 3 then (if v5 = 1 then mb3 (DX17_frame fu (M 732 94) 3 M L) (fun r32 M30 L31 => fX19_transferred_b177 fu r23 r97 v2 v3 v4 v5 v5 r32 M30 L31) else (if v5 = 2 then mb3 (DX17_frame fu (M 732 94) 5 M L) (fun r29 M27 L28 => fX19_transferred_b177 fu r23 r97 v2 v3 v4 v5 v5 r29 M27 L28) else fX19_transferred_b177 fu r23 r97 v2 v3 v4 v5 v5 0 M L)) else mb3 (DX17_frame fu (M 732 94) (7 + v5) M L) (fun r24 M21 L22 => fX19_transferred_b177 fu r23 r97 v2 v3 v4 v5 v5 r24 M21 L22)))
noncomputable def fX19_transferred_h97 (fu : Nat) (r23 : (Int32 × mwM × mwL) → Option (mwM × mwL)) : Nat → (Int32 × Int32 × Int32 × Int32 × mwM × mwL) → Option (mwM × mwL) := mloop (fun r97 s => fX19_transferred_i97 fu r23 r97 s.1 s.2.1 s.2.2.1 s.2.2.2.1 s.2.2.2.2.1 s.2.2.2.2.2)
noncomputable def fX19_transferred_i23 (fu : Nat) (r23 : (Int32 × mwM × mwL) → Option (mwM × mwL)) (v2 : Int32) (M : mwM) (L : mwL) : Option (mwM × mwL) :=
  (if v2 ≤ (M 732 94) then fX19_transferred_h295 fu fu (0, 1, M, L) else mlet (mset M 732 94 ((M 732 94) + 1)) (fun M2 => mb3 (DX17_frame fu (M2 732 94) 0 M2 L) (fun r5 M3 L4 => mb3 (DX17_frame fu (M3 732 94) 1 M3 L4) (fun r8 M6 L7 => mb3 (DX17_frame fu (M6 732 94) 2 M6 L7) (fun r11 M9 L10 => mlet (mset M9 926 ((0 : Int32).toNatClampNeg) ((r5 * 16) + (r11 - r11 / 16 * 16))) (fun M14 => fX19_transferred_h97 fu r23 fu (v2, r5, r8, 1, M14, L10)))))))
noncomputable def fX19_transferred_h23 (fu : Nat) : Nat → (Int32 × mwM × mwL) → Option (mwM × mwL) := mloop (fun r23 s => fX19_transferred_i23 fu r23 s.1 s.2.1 s.2.2)
noncomputable def DX19_transferred (fu : Nat) (M : mwM) (L : mwL) : Option (mwM × mwL) :=
  mb3 (DX17_tick fu ((M 732 83).toInt64) M L) (fun r62 M60 L61 => mb3 (DX17_frame fu 0 0 M60 L61) (fun r65 M63 L64 => fX19_transferred_h23 fu fu (r65, M63, L64)))
set_option maxHeartbeats 4000000 in
set_option maxRecDepth 100000 in
theorem tX19_transferred (l : Launch) (G : mwG) (ad : Nat → Nat) (fu : Nat) (M : mwM) (L : mwL) {M0 : mwM} {L0 : mwL} (hD : DX19_transferred fu M L = some (M0, L0)) : Met l yX19_transferred (Cond.code yX19_transferred cX19_transferred 8 (none) :: GT) ({ frames := 4, cells := 0, slots := 0, locals := 95 }) (mw_Pre G ad NF TF FF M L [.ref (ad 732)]) (mw_Qv G ad NF TF FF (mw_eqV M0 L0)) 0 0 (mw_fr G) := by
  refine mw_enter (by decide) (Nat.le_of_ble_eq_true rfl) ?_
  intro p e s m below meth c ls C hr hlocks hnm hw hl
  have hl : lv_has ls 8 [(0, .ref (ad 732))] := hl
  have hb350 : ∀ (v3 : Int32) (M : mwM) (L : mwL) (H : Heap) (locs : List Loc) (ls : Array Slot), fX19_transferred_b350 fu v3 M L = some (M0, L0) → mw_W G ad NF TF FF M L H locs → lv_has ls 8 [(0, .ref (ad 732)), (3, .int v3)] → W p l e ({ frames := 4, cells := 0, slots := 0, locals := 95 }) s m [.ref (ad 732)].toArray below meth c H locs 0 0 (MQ below (mw_Qv G ad NF TF FF (mw_eqV M0 L0)) [.ref (ad 732)].toArray s 0 0 (mw_fr G)) (F0 m 350 ls []) := by
    intro v3 M L H locs ls hD hw hl
    unfold fX19_transferred_b350 at hD
    refine lv_aload_n C.1.1 C.1.2.1 dX19_transferred_350 rfl (lv_at hl 0 rfl) ?_
    refine lv_iload_n C.1.1 C.1.2.1 dX19_transferred_351 rfl (lv_at hl 1 rfl) ?_
    obtain ⟨M59, eM59, hD⟩ := g_let hD
    refine mr_putI C hw kc_19 96 (by decide) tf_732 wd_2877 dX19_transferred_352 (by decide) rfl rfl rfl rfl (fun H locs hw => ?_)
    replace hw : mw_W G ad NF TF FF M59 L H locs := by rw [eM59]; exact hw
    exact mr_vret C hr hlocks hw (Option.some.inj hD) dX19_transferred_355
  have hh295 : ∀ (f : Nat) (v3 : Int32) (v4 : Int32) (M : mwM) (L : mwL) (H : Heap) (locs : List Loc) (ls : Array Slot), fX19_transferred_h295 fu f (v3, v4, M, L) = some (M0, L0) → mw_W G ad NF TF FF M L H locs → lv_has ls 8 [(0, .ref (ad 732)), (3, .int v3), (4, .int v4)] → W p l e ({ frames := 4, cells := 0, slots := 0, locals := 95 }) s m [.ref (ad 732)].toArray below meth c H locs 0 0 (MQ below (mw_Qv G ad NF TF FF (mw_eqV M0 L0)) [.ref (ad 732)].toArray s 0 0 (mw_fr G)) (F0 m 295 ls []) := by
    intro f
    induction f with
    | zero => intro v3 v4 M L H locs ls hD; cases hD
    | succ f295 ih295 =>
      intro v3 v4 M L H locs ls hD hw hl
      replace hD : fX19_transferred_i295 fu (fX19_transferred_h295 fu f295) v3 v4 M L = some (M0, L0) := hD
      unfold fX19_transferred_i295 at hD
      refine lv_iload C.1.1 C.1.2.1 dX19_transferred_295 (lv_at hl 2 rfl) ?_
      refine lv_bipush (v := 8) C.1.1 C.1.2.1 dX19_transferred_297 (by decide) ?_
      refine lv_icmp_ge (tgt := 320) C.1.1 C.1.2.1 dX19_transferred_299 (by decide) (fun c47 => ?_) (fun c47 => ?_)
      · replace hD := g_pos c47 hD
        refine lv_iload_n C.1.1 C.1.2.1 dX19_transferred_320 rfl (lv_at hl 1 rfl) ?_
        refine lv_aload_n C.1.1 C.1.2.1 dX19_transferred_321 rfl (lv_at hl 0 rfl) ?_
        refine mr_getI C hw kc_19 96 (by decide) tf_732 wd_2877 dX19_transferred_322 (by decide) rfl ?_
        refine lv_icmp_le (tgt := 350) C.1.1 C.1.2.1 dX19_transferred_325 (by decide) (fun c48 => ?_) (fun c48 => ?_)
        · replace hD := g_pos c48 hD
          exact hb350 v3 M L _ _ ls hD hw (lv_sub hl [0, 1] rfl)
        · replace hD := g_neg c48 hD
          refine lv_aload_n C.1.1 C.1.2.1 dX19_transferred_328 rfl (lv_at hl 0 rfl) ?_
          refine mr_getI C hw kc_19 97 (by decide) tf_732 wd_2878 dX19_transferred_329 (by decide) rfl ?_
          refine lv_if_lt (tgt := 350) C.1.1 C.1.2.1 dX19_transferred_332 (by decide) (fun c49 => ?_) (fun c49 => ?_)
          · replace hD := g_pos c49 hD
            exact hb350 v3 M L _ _ ls hD hw (lv_sub hl [0, 1] rfl)
          · replace hD := g_neg c49 hD
            refine lv_aload_n C.1.1 C.1.2.1 dX19_transferred_335 rfl (lv_at hl 0 rfl) ?_
            refine mr_getR C hw kc_19 109 (by decide) tf_732 ff_732_109 wd_2890 dX19_transferred_336 (by decide) rfl ?_
            refine lv_iconst (v := 4) C.1.1 C.1.2.1 dX19_transferred_339 (by decide) ?_
            refine lv_dup2_11 C.1.1 C.1.2.1 dX19_transferred_340 rfl rfl ?_
            refine mr_iald C hw (by decide) tf_939 (show vp_in 4 5 from by unfold vp_in; decide) dX19_transferred_341 ?_
            refine lv_iconst (v := 1) C.1.1 C.1.2.1 dX19_transferred_342 (by decide) ?_
            refine lv_iadd C.1.1 C.1.2.1 dX19_transferred_343 ?_
            obtain ⟨M52, eM52, hD⟩ := g_let hD
            refine mr_iast C hw (by decide) tf_939 (show vp_in 4 5 from by unfold vp_in; decide) dX19_transferred_344 (fun H locs hw => ?_)
            replace hw : mw_W G ad NF TF FF M52 L H locs := by rw [eM52]; exact hw
            refine lv_aload_n C.1.1 C.1.2.1 dX19_transferred_345 rfl (lv_at hl 0 rfl) ?_
            refine lv_iconst (v := (-1)) C.1.1 C.1.2.1 dX19_transferred_346 (by decide) ?_
            obtain ⟨M53, eM53, hD⟩ := g_let hD
            refine mr_putI C hw kc_19 97 (by decide) tf_732 wd_2878 dX19_transferred_347 (by decide) rfl rfl rfl rfl (fun H locs hw => ?_)
            replace hw : mw_W G ad NF TF FF M53 L H locs := by rw [eM53]; exact hw
            exact hb350 v3 M53 L _ _ ls hD hw (lv_sub hl [0, 1] rfl)
      · replace hD := g_neg c47 hD
        refine lv_iload_n C.1.1 C.1.2.1 dX19_transferred_302 rfl (lv_at hl 1 rfl) ?_
        refine lv_aload_n C.1.1 C.1.2.1 dX19_transferred_303 rfl (lv_at hl 0 rfl) ?_
        refine mr_getR C hw kc_19 79 (by decide) tf_732 ff_732_79 wd_2860 dX19_transferred_304 (by decide) rfl ?_
        refine lv_iload C.1.1 C.1.2.1 dX19_transferred_307 (lv_at hl 2 rfl) ?_
        obtain ⟨r56, M54, L55, h1, hD⟩ := g_b3 hD
        refine md_cvI (As := [.int v4]) (rest := [.int v3]) C hw (tX17_ended l G ad fu v4 M L h1) kc_17 (by decide) tf_869 wd_3972 cwX17_ended ⟨Nat.le_of_ble_eq_true rfl, Nat.le_of_ble_eq_true rfl⟩ rfl hl.1 (Nat.le_of_ble_eq_true rfl) dX19_transferred_309 rfl rfl ⟨Nat.zero_le _, Nat.zero_le _⟩ rfl (fun H locs hw => ?_)
        refine lv_iadd C.1.1 C.1.2.1 dX19_transferred_312 ?_
        obtain ⟨x57, ex57, hD⟩ := g_let hD
        refine W.eq (g2 := F0 m 313 ls (.int x57 :: [])) (by rw [ex57]) ?_
        refine lv_istore_n (lv' := [(3, .int x57), (0, .ref (ad 732)), (4, .int v4)]) C.1.1 C.1.2.1 dX19_transferred_313 rfl hl (by decide) rfl (fun ls hl => ?_)
        obtain ⟨x58, ex58, hD⟩ := g_let hD
        refine lv_iinc (v := x58) (lv' := [(4, .int x58), (3, .int x57), (0, .ref (ad 732))]) C.1.1 C.1.2.1 dX19_transferred_314 hl (k := 2) rfl (by rw [ex58]; rfl) (by decide) rfl (fun ls hl => ?_)
        refine lv_goto (tgt := 295) C.1.1 C.1.2.1 dX19_transferred_317 (by decide) ?_
        exact ih295 x57 x58 M54 L55 _ _ ls hD hw (lv_sub hl [2, 1, 0] rfl)
  have hh23 : ∀ (f : Nat) (v2 : Int32) (M : mwM) (L : mwL) (H : Heap) (locs : List Loc) (ls : Array Slot), fX19_transferred_h23 fu f (v2, M, L) = some (M0, L0) → mw_W G ad NF TF FF M L H locs → lv_has ls 8 [(0, .ref (ad 732)), (2, .int v2)] → W p l e ({ frames := 4, cells := 0, slots := 0, locals := 95 }) s m [.ref (ad 732)].toArray below meth c H locs 0 0 (MQ below (mw_Qv G ad NF TF FF (mw_eqV M0 L0)) [.ref (ad 732)].toArray s 0 0 (mw_fr G)) (F0 m 23 ls []) := by
    intro f
    induction f with
    | zero => intro v2 M L H locs ls hD; cases hD
    | succ f23 ih23 =>
      intro v2 M L H locs ls hD hw hl
      replace hD : fX19_transferred_i23 fu (fX19_transferred_h23 fu f23) v2 M L = some (M0, L0) := hD
      have hb287 : ∀ (v2 : Int32) (M : mwM) (L : mwL) (H : Heap) (locs : List Loc) (ls : Array Slot), fX19_transferred_b287 fu (fX19_transferred_h23 fu f23) v2 M L = some (M0, L0) → mw_W G ad NF TF FF M L H locs → lv_has ls 8 [(0, .ref (ad 732)), (2, .int v2)] → W p l e ({ frames := 4, cells := 0, slots := 0, locals := 95 }) s m [.ref (ad 732)].toArray below meth c H locs 0 0 (MQ below (mw_Qv G ad NF TF FF (mw_eqV M0 L0)) [.ref (ad 732)].toArray s 0 0 (mw_fr G)) (F0 m 287 ls []) := by
        intro v2 M L H locs ls hD hw hl
        unfold fX19_transferred_b287 at hD
        refine lv_goto (tgt := 23) C.1.1 C.1.2.1 dX19_transferred_287 (by decide) ?_
        exact ih23 v2 M L _ _ ls hD hw (lv_sub hl [0, 1] rfl)
      have hb263 : ∀ (v2 : Int32) (s1 : Int32) (s2 : Int32) (s3 : Int32) (M : mwM) (L : mwL) (H : Heap) (locs : List Loc) (ls : Array Slot), fX19_transferred_b263 fu (fX19_transferred_h23 fu f23) v2 s1 s2 s3 M L = some (M0, L0) → mw_W G ad NF TF FF M L H locs → lv_has ls 8 [(0, .ref (ad 732)), (2, .int v2)] → W p l e ({ frames := 4, cells := 0, slots := 0, locals := 95 }) s m [.ref (ad 732)].toArray below meth c H locs 0 0 (MQ below (mw_Qv G ad NF TF FF (mw_eqV M0 L0)) [.ref (ad 732)].toArray s 0 0 (mw_fr G)) (F0 m 263 ls [.int s3, .int s2, .int s1, .ref (ad 732)]) := by
        intro v2 s1 s2 s3 M L H locs ls hD hw hl
        unfold fX19_transferred_b263 at hD
        refine lv_iadd C.1.1 C.1.2.1 dX19_transferred_263 ?_
        refine lv_aload_n C.1.1 C.1.2.1 dX19_transferred_264 rfl (lv_at hl 0 rfl) ?_
        refine mr_getI C hw kc_19 94 (by decide) tf_732 wd_2875 dX19_transferred_265 (by decide) rfl ?_
        obtain ⟨r42, M40, L41, h1, hD⟩ := g_b3 hD
        refine md_cvI (As := [.int s1, .int (s2 + s3), .int (M 732 94)]) (rest := []) C hw (tX19_put l G ad fu s1 (s2 + s3) (M 732 94) M L h1) kc_19 (by decide) tf_732 wd_3614 cwX19_put ⟨Nat.le_of_ble_eq_true rfl, Nat.le_of_ble_eq_true rfl⟩ rfl hl.1 (Nat.le_of_ble_eq_true rfl) dX19_transferred_268 rfl rfl ⟨Nat.zero_le _, Nat.zero_le _⟩ rfl (fun H locs hw => ?_)
        refine lv_if_ne (tgt := 287) C.1.1 C.1.2.1 dX19_transferred_271 (by decide) (fun c43 => ?_) (fun c43 => ?_)
        · replace hD := g_neg c43 hD
          exact hb287 v2 M40 L41 _ _ ls hD hw (lv_sub hl [0, 1] rfl)
        · replace hD := g_pos c43 hD
          refine lv_aload_n C.1.1 C.1.2.1 dX19_transferred_274 rfl (lv_at hl 0 rfl) ?_
          refine mr_getR C hw kc_19 79 (by decide) tf_732 ff_732_79 wd_2860 dX19_transferred_275 (by decide) rfl ?_
          refine lv_aload_n C.1.1 C.1.2.1 dX19_transferred_278 rfl (lv_at hl 0 rfl) ?_
          refine mr_getI C hw kc_19 94 (by decide) tf_732 wd_2875 dX19_transferred_279 (by decide) rfl ?_
          obtain ⟨r46, M44, L45, h1, hD⟩ := g_b3 hD
          refine md_cvI (As := [.int (M40 732 94)]) (rest := []) C hw (tX17_lose l G ad fu (M40 732 94) M40 L41 h1) kc_17 (by decide) tf_869 wd_4182 cwX17_lose ⟨Nat.le_of_ble_eq_true rfl, Nat.le_of_ble_eq_true rfl⟩ rfl hl.1 (Nat.le_of_ble_eq_true rfl) dX19_transferred_282 rfl rfl ⟨Nat.zero_le _, Nat.zero_le _⟩ rfl (fun H locs hw => ?_)
          refine lv_istore (lv' := [(7, .int r46), (0, .ref (ad 732)), (2, .int v2)]) C.1.1 C.1.2.1 dX19_transferred_285 hl (by decide) rfl (fun ls hl => ?_)
          exact hb287 v2 M44 L45 _ _ ls hD hw (lv_sub hl [1, 2] rfl)
      have hb235 : ∀ (v2 : Int32) (v4 : Int32) (v5 : Int32) (s0 : Int32) (M : mwM) (L : mwL) (H : Heap) (locs : List Loc) (ls : Array Slot), fX19_transferred_b235 fu (fX19_transferred_h23 fu f23) v2 v4 v5 s0 M L = some (M0, L0) → mw_W G ad NF TF FF M L H locs → lv_has ls 8 [(0, .ref (ad 732)), (2, .int v2), (4, .int v4), (5, .int v5)] → W p l e ({ frames := 4, cells := 0, slots := 0, locals := 95 }) s m [.ref (ad 732)].toArray below meth c H locs 0 0 (MQ below (mw_Qv G ad NF TF FF (mw_eqV M0 L0)) [.ref (ad 732)].toArray s 0 0 (mw_fr G)) (F0 m 235 ls [.int s0]) := by
        intro v2 v4 v5 s0 M L H locs ls hD hw hl
        unfold fX19_transferred_b235 at hD
        refine lv_istore (lv' := [(6, .int s0), (0, .ref (ad 732)), (2, .int v2), (4, .int v4), (5, .int v5)]) C.1.1 C.1.2.1 dX19_transferred_235 hl (by decide) rfl (fun ls hl => ?_)
        refine lv_aload_n C.1.1 C.1.2.1 dX19_transferred_237 rfl (lv_at hl 1 rfl) ?_
        refine lv_iload C.1.1 C.1.2.1 dX19_transferred_238 (lv_at hl 0 rfl) ?_
        refine lv_sipush (v := 1536) C.1.1 C.1.2.1 dX19_transferred_240 (by decide) ?_
        refine lv_iconst (v := 2) C.1.1 C.1.2.1 dX19_transferred_243 (by decide) ?_
        refine lv_aload_n C.1.1 C.1.2.1 dX19_transferred_244 rfl (lv_at hl 1 rfl) ?_
        refine mr_getR C hw kc_19 89 (by decide) tf_732 ff_732_89 wd_2870 dX19_transferred_245 (by decide) rfl ?_
        refine lv_iload C.1.1 C.1.2.1 dX19_transferred_248 (lv_at hl 3 rfl) ?_
        obtain ⟨q38, hD⟩ := g_ck hD
        refine mr_iald C hw (by decide) tf_927 q38 dX19_transferred_250 ?_
        refine lv_imul C.1.1 C.1.2.1 dX19_transferred_251 ?_
        refine lv_iadd C.1.1 C.1.2.1 dX19_transferred_252 ?_
        refine lv_iload C.1.1 C.1.2.1 dX19_transferred_253 (lv_at hl 4 rfl) ?_
        refine lv_if_eq (tgt := 262) C.1.1 C.1.2.1 dX19_transferred_255 (by decide) (fun c39 => ?_) (fun c39 => ?_)
        · replace hD := g_pos c39 hD
          refine lv_iconst (v := 1) C.1.1 C.1.2.1 dX19_transferred_262 (by decide) ?_
          exact hb263 v2 s0 (1536 + (2 * (M 927 v4.toNatClampNeg))) 1 M L _ _ ls hD hw (lv_sub hl [1, 2] rfl)
        · replace hD := g_neg c39 hD
          refine lv_iconst (v := 0) C.1.1 C.1.2.1 dX19_transferred_258 (by decide) ?_
          refine lv_goto (tgt := 263) C.1.1 C.1.2.1 dX19_transferred_259 (by decide) ?_
          exact hb263 v2 s0 (1536 + (2 * (M 927 v4.toNatClampNeg))) 0 M L _ _ ls hD hw (lv_sub hl [1, 2] rfl)
      have hb214 : ∀ (v2 : Int32) (v4 : Int32) (s0 : Int32) (M : mwM) (L : mwL) (H : Heap) (locs : List Loc) (ls : Array Slot), fX19_transferred_b214 fu (fX19_transferred_h23 fu f23) v2 v4 s0 M L = some (M0, L0) → mw_W G ad NF TF FF M L H locs → lv_has ls 8 [(0, .ref (ad 732)), (2, .int v2), (4, .int v4)] → W p l e ({ frames := 4, cells := 0, slots := 0, locals := 95 }) s m [.ref (ad 732)].toArray below meth c H locs 0 0 (MQ below (mw_Qv G ad NF TF FF (mw_eqV M0 L0)) [.ref (ad 732)].toArray s 0 0 (mw_fr G)) (F0 m 214 ls [.int s0]) := by
        intro v2 v4 s0 M L H locs ls hD hw hl
        unfold fX19_transferred_b214 at hD
        refine lv_istore (lv' := [(5, .int s0), (0, .ref (ad 732)), (2, .int v2), (4, .int v4)]) C.1.1 C.1.2.1 dX19_transferred_214 hl (by decide) rfl (fun ls hl => ?_)
        refine lv_iload C.1.1 C.1.2.1 dX19_transferred_216 (lv_at hl 0 rfl) ?_
        refine lv_if_eq (tgt := 228) C.1.1 C.1.2.1 dX19_transferred_218 (by decide) (fun c36 => ?_) (fun c36 => ?_)
        · replace hD := g_pos c36 hD
          refine lv_aload_n C.1.1 C.1.2.1 dX19_transferred_228 rfl (lv_at hl 1 rfl) ?_
          refine mr_getR C hw kc_19 89 (by decide) tf_732 ff_732_89 wd_2870 dX19_transferred_229 (by decide) rfl ?_
          refine lv_iload C.1.1 C.1.2.1 dX19_transferred_232 (lv_at hl 3 rfl) ?_
          obtain ⟨q37, hD⟩ := g_ck hD
          refine mr_iald C hw (by decide) tf_927 q37 dX19_transferred_234 ?_
          exact hb235 v2 v4 s0 (M 927 v4.toNatClampNeg) M L _ _ ls hD hw (lv_sub hl [1, 2, 3, 0] rfl)
        · replace hD := g_neg c36 hD
          refine lv_aload_n C.1.1 C.1.2.1 dX19_transferred_221 rfl (lv_at hl 1 rfl) ?_
          refine mr_getI C hw kc_19 19 (by decide) tf_732 wd_2800 dX19_transferred_222 (by decide) rfl ?_
          refine lv_goto (tgt := 235) C.1.1 C.1.2.1 dX19_transferred_225 (by decide) ?_
          exact hb235 v2 v4 s0 (M 732 19) M L _ _ ls hD hw (lv_sub hl [1, 2, 3, 0] rfl)
      have hh97 : ∀ (f : Nat) (v2 : Int32) (v3 : Int32) (v4 : Int32) (v5 : Int32) (M : mwM) (L : mwL) (H : Heap) (locs : List Loc) (ls : Array Slot), fX19_transferred_h97 fu (fX19_transferred_h23 fu f23) f (v2, v3, v4, v5, M, L) = some (M0, L0) → mw_W G ad NF TF FF M L H locs → lv_has ls 8 [(0, .ref (ad 732)), (2, .int v2), (3, .int v3), (4, .int v4), (5, .int v5)] → W p l e ({ frames := 4, cells := 0, slots := 0, locals := 95 }) s m [.ref (ad 732)].toArray below meth c H locs 0 0 (MQ below (mw_Qv G ad NF TF FF (mw_eqV M0 L0)) [.ref (ad 732)].toArray s 0 0 (mw_fr G)) (F0 m 97 ls []) := by
        intro f
        induction f with
        | zero => intro v2 v3 v4 v5 M L H locs ls hD; cases hD
        | succ f97 ih97 =>
          intro v2 v3 v4 v5 M L H locs ls hD hw hl
          replace hD : fX19_transferred_i97 fu (fX19_transferred_h23 fu f23) (fX19_transferred_h97 fu (fX19_transferred_h23 fu f23) f97) v2 v3 v4 v5 M L = some (M0, L0) := hD
          have hb177 : ∀ (v2 : Int32) (v3 : Int32) (v4 : Int32) (v5 : Int32) (s1 : Int32) (s2 : Int32) (M : mwM) (L : mwL) (H : Heap) (locs : List Loc) (ls : Array Slot), fX19_transferred_b177 fu (fX19_transferred_h23 fu f23) (fX19_transferred_h97 fu (fX19_transferred_h23 fu f23) f97) v2 v3 v4 v5 s1 s2 M L = some (M0, L0) → mw_W G ad NF TF FF M L H locs → lv_has ls 8 [(0, .ref (ad 732)), (2, .int v2), (3, .int v3), (4, .int v4), (5, .int v5)] → W p l e ({ frames := 4, cells := 0, slots := 0, locals := 95 }) s m [.ref (ad 732)].toArray below meth c H locs 0 0 (MQ below (mw_Qv G ad NF TF FF (mw_eqV M0 L0)) [.ref (ad 732)].toArray s 0 0 (mw_fr G)) (F0 m 177 ls [.int s2, .int s1, .ref (ad 926)]) := by
            intro v2 v3 v4 v5 s1 s2 M L H locs ls hD hw hl
            unfold fX19_transferred_b177 at hD
            obtain ⟨q33, hD⟩ := g_ck hD
            obtain ⟨M34, eM34, hD⟩ := g_let hD
            refine mr_iast C hw (by decide) tf_926 q33 dX19_transferred_177 (fun H locs hw => ?_)
            replace hw : mw_W G ad NF TF FF M34 L H locs := by rw [eM34]; exact hw
            obtain ⟨x35, ex35, hD⟩ := g_let hD
            refine lv_iinc (v := x35) (lv' := [(5, .int x35), (0, .ref (ad 732)), (2, .int v2), (3, .int v3), (4, .int v4)]) C.1.1 C.1.2.1 dX19_transferred_178 hl (k := 4) rfl (by rw [ex35]; rfl) (by decide) rfl (fun ls hl => ?_)
            refine lv_goto (tgt := 97) C.1.1 C.1.2.1 dX19_transferred_181 (by decide) ?_
            exact ih97 v2 v3 v4 x35 M34 L _ _ ls hD hw (lv_sub hl [1, 2, 3, 4, 0] rfl)
          unfold fX19_transferred_i97 at hD
          refine lv_iload C.1.1 C.1.2.1 dX19_transferred_97 (lv_at hl 4 rfl) ?_
          refine lv_bipush (v := 8) C.1.1 C.1.2.1 dX19_transferred_99 (by decide) ?_
          refine lv_icmp_ge (tgt := 184) C.1.1 C.1.2.1 dX19_transferred_101 (by decide) (fun c15 => ?_) (fun c15 => ?_)
          · replace hD := g_pos c15 hD
            refine lv_iload_n C.1.1 C.1.2.1 dX19_transferred_184 rfl (lv_at hl 2 rfl) ?_
            refine lv_iconst (v := 3) C.1.1 C.1.2.1 dX19_transferred_185 (by decide) ?_
            refine lv_icmp_ne (tgt := 207) C.1.1 C.1.2.1 dX19_transferred_186 (by decide) (fun c16 => ?_) (fun c16 => ?_)
            · replace hD := g_neg c16 hD
              refine lv_aload_n C.1.1 C.1.2.1 dX19_transferred_207 rfl (lv_at hl 0 rfl) ?_
              refine mr_getR C hw kc_19 90 (by decide) tf_732 ff_732_90 wd_2871 dX19_transferred_208 (by decide) rfl ?_
              refine lv_iload C.1.1 C.1.2.1 dX19_transferred_211 (lv_at hl 3 rfl) ?_
              obtain ⟨q17, hD⟩ := g_ck hD
              refine mr_zald C hw (by decide) tf_928 q17 dX19_transferred_213 ?_
              exact hb214 v2 v4 (M 928 v4.toNatClampNeg) M L _ _ ls hD hw (lv_sub hl [0, 1, 3] rfl)
            · replace hD := g_pos c16 hD
              refine lv_aload_n C.1.1 C.1.2.1 dX19_transferred_189 rfl (lv_at hl 0 rfl) ?_
              refine mr_getR C hw kc_19 90 (by decide) tf_732 ff_732_90 wd_2871 dX19_transferred_190 (by decide) rfl ?_
              refine lv_iload C.1.1 C.1.2.1 dX19_transferred_193 (lv_at hl 3 rfl) ?_
              obtain ⟨q18, hD⟩ := g_ck hD
              refine mr_zald C hw (by decide) tf_928 q18 dX19_transferred_195 ?_
              refine lv_if_ne (tgt := 203) C.1.1 C.1.2.1 dX19_transferred_196 (by decide) (fun c19 => ?_) (fun c19 => ?_)
              · replace hD := g_neg c19 hD
                refine lv_iconst (v := 0) C.1.1 C.1.2.1 dX19_transferred_203 (by decide) ?_
                refine lv_goto (tgt := 214) C.1.1 C.1.2.1 dX19_transferred_204 (by decide) ?_
                exact hb214 v2 v4 0 M L _ _ ls hD hw (lv_sub hl [0, 1, 3] rfl)
              · replace hD := g_pos c19 hD
                refine lv_iconst (v := 1) C.1.1 C.1.2.1 dX19_transferred_199 (by decide) ?_
                refine lv_goto (tgt := 214) C.1.1 C.1.2.1 dX19_transferred_200 (by decide) ?_
                exact hb214 v2 v4 1 M L _ _ ls hD hw (lv_sub hl [0, 1, 3] rfl)
          · replace hD := g_neg c15 hD
            refine lv_aload_n C.1.1 C.1.2.1 dX19_transferred_104 rfl (lv_at hl 0 rfl) ?_
            refine mr_getR C hw kc_19 87 (by decide) tf_732 ff_732_87 wd_2868 dX19_transferred_105 (by decide) rfl ?_
            refine lv_iload C.1.1 C.1.2.1 dX19_transferred_108 (lv_at hl 4 rfl) ?_
            refine lv_iload_n C.1.1 C.1.2.1 dX19_transferred_110 rfl (lv_at hl 2 rfl) ?_
            refine lv_iconst (v := 3) C.1.1 C.1.2.1 dX19_transferred_111 (by decide) ?_
            refine lv_icmp_ne (tgt := 161) C.1.1 C.1.2.1 dX19_transferred_112 (by decide) (fun c20 => ?_) (fun c20 => ?_)
            · replace hD := g_neg c20 hD
              refine lv_aload_n C.1.1 C.1.2.1 dX19_transferred_161 rfl (lv_at hl 0 rfl) ?_
              refine mr_getR C hw kc_19 79 (by decide) tf_732 ff_732_79 wd_2860 dX19_transferred_162 (by decide) rfl ?_
              refine lv_aload_n C.1.1 C.1.2.1 dX19_transferred_165 rfl (lv_at hl 0 rfl) ?_
              refine mr_getI C hw kc_19 94 (by decide) tf_732 wd_2875 dX19_transferred_166 (by decide) rfl ?_
              refine lv_bipush (v := 7) C.1.1 C.1.2.1 dX19_transferred_169 (by decide) ?_
              refine lv_iload C.1.1 C.1.2.1 dX19_transferred_171 (lv_at hl 4 rfl) ?_
              refine lv_iadd C.1.1 C.1.2.1 dX19_transferred_173 ?_
              obtain ⟨r24, M21, L22, h1, hD⟩ := g_b3 hD
              refine md_cvI (As := [.int (M 732 94), .int (7 + v5)]) (rest := [.int v5, .ref (ad 926)]) C hw (tX17_frame l G ad fu (M 732 94) (7 + v5) M L h1) kc_17 (by decide) tf_869 wd_3984 cwX17_frame ⟨Nat.le_of_ble_eq_true rfl, Nat.le_of_ble_eq_true rfl⟩ rfl hl.1 (Nat.le_of_ble_eq_true rfl) dX19_transferred_174 rfl rfl ⟨Nat.zero_le _, Nat.zero_le _⟩ rfl (fun H locs hw => ?_)
              exact hb177 v2 v3 v4 v5 v5 r24 M21 L22 _ _ ls hD hw (lv_sub hl [0, 1, 2, 3, 4] rfl)
            · replace hD := g_pos c20 hD
              refine lv_iload C.1.1 C.1.2.1 dX19_transferred_115 (lv_at hl 4 rfl) ?_
              refine lv_iconst (v := 1) C.1.1 C.1.2.1 dX19_transferred_117 (by decide) ?_
              refine lv_icmp_ne (tgt := 136) C.1.1 C.1.2.1 dX19_transferred_118 (by decide) (fun c25 => ?_) (fun c25 => ?_)
              · replace hD := g_neg c25 hD
                refine lv_iload C.1.1 C.1.2.1 dX19_transferred_136 (lv_at hl 4 rfl) ?_
                refine lv_iconst (v := 2) C.1.1 C.1.2.1 dX19_transferred_138 (by decide) ?_
                refine lv_icmp_ne (tgt := 157) C.1.1 C.1.2.1 dX19_transferred_139 (by decide) (fun c26 => ?_) (fun c26 => ?_)
                · replace hD := g_neg c26 hD
                  refine lv_iconst (v := 0) C.1.1 C.1.2.1 dX19_transferred_157 (by decide) ?_
                  refine lv_goto (tgt := 177) C.1.1 C.1.2.1 dX19_transferred_158 (by decide) ?_
                  exact hb177 v2 v3 v4 v5 v5 0 M L _ _ ls hD hw (lv_sub hl [0, 1, 2, 3, 4] rfl)
                · replace hD := g_pos c26 hD
                  refine lv_aload_n C.1.1 C.1.2.1 dX19_transferred_142 rfl (lv_at hl 0 rfl) ?_
                  refine mr_getR C hw kc_19 79 (by decide) tf_732 ff_732_79 wd_2860 dX19_transferred_143 (by decide) rfl ?_
                  refine lv_aload_n C.1.1 C.1.2.1 dX19_transferred_146 rfl (lv_at hl 0 rfl) ?_
                  refine mr_getI C hw kc_19 94 (by decide) tf_732 wd_2875 dX19_transferred_147 (by decide) rfl ?_
                  refine lv_iconst (v := 5) C.1.1 C.1.2.1 dX19_transferred_150 (by decide) ?_
                  obtain ⟨r29, M27, L28, h1, hD⟩ := g_b3 hD
                  refine md_cvI (As := [.int (M 732 94), .int 5]) (rest := [.int v5, .ref (ad 926)]) C hw (tX17_frame l G ad fu (M 732 94) 5 M L h1) kc_17 (by decide) tf_869 wd_3984 cwX17_frame ⟨Nat.le_of_ble_eq_true rfl, Nat.le_of_ble_eq_true rfl⟩ rfl hl.1 (Nat.le_of_ble_eq_true rfl) dX19_transferred_151 rfl rfl ⟨Nat.zero_le _, Nat.zero_le _⟩ rfl (fun H locs hw => ?_)
                  refine lv_goto (tgt := 177) C.1.1 C.1.2.1 dX19_transferred_154 (by decide) ?_
                  exact hb177 v2 v3 v4 v5 v5 r29 M27 L28 _ _ ls hD hw (lv_sub hl [0, 1, 2, 3, 4] rfl)
              · replace hD := g_pos c25 hD
                refine lv_aload_n C.1.1 C.1.2.1 dX19_transferred_121 rfl (lv_at hl 0 rfl) ?_
                refine mr_getR C hw kc_19 79 (by decide) tf_732 ff_732_79 wd_2860 dX19_transferred_122 (by decide) rfl ?_
                refine lv_aload_n C.1.1 C.1.2.1 dX19_transferred_125 rfl (lv_at hl 0 rfl) ?_
                refine mr_getI C hw kc_19 94 (by decide) tf_732 wd_2875 dX19_transferred_126 (by decide) rfl ?_
                refine lv_iconst (v := 3) C.1.1 C.1.2.1 dX19_transferred_129 (by decide) ?_
                obtain ⟨r32, M30, L31, h1, hD⟩ := g_b3 hD
                refine md_cvI (As := [.int (M 732 94), .int 3]) (rest := [.int v5, .ref (ad 926)]) C hw (tX17_frame l G ad fu (M 732 94) 3 M L h1) kc_17 (by decide) tf_869 wd_3984 cwX17_frame ⟨Nat.le_of_ble_eq_true rfl, Nat.le_of_ble_eq_true rfl⟩ rfl hl.1 (Nat.le_of_ble_eq_true rfl) dX19_transferred_130 rfl rfl ⟨Nat.zero_le _, Nat.zero_le _⟩ rfl (fun H locs hw => ?_)
                refine lv_goto (tgt := 177) C.1.1 C.1.2.1 dX19_transferred_133 (by decide) ?_
                exact hb177 v2 v3 v4 v5 v5 r32 M30 L31 _ _ ls hD hw (lv_sub hl [0, 1, 2, 3, 4] rfl)
      unfold fX19_transferred_i23 at hD
      refine lv_aload_n C.1.1 C.1.2.1 dX19_transferred_23 rfl (lv_at hl 0 rfl) ?_
      refine mr_getI C hw kc_19 94 (by decide) tf_732 wd_2875 dX19_transferred_24 (by decide) rfl ?_
      refine lv_iload_n C.1.1 C.1.2.1 dX19_transferred_27 rfl (lv_at hl 1 rfl) ?_
      refine lv_icmp_ge (tgt := 290) C.1.1 C.1.2.1 dX19_transferred_28 (by decide) (fun c1 => ?_) (fun c1 => ?_)
      · replace hD := g_pos c1 hD
        refine lv_iconst (v := 0) C.1.1 C.1.2.1 dX19_transferred_290 (by decide) ?_
        refine lv_istore_n (lv' := [(3, .int 0), (0, .ref (ad 732)), (2, .int v2)]) C.1.1 C.1.2.1 dX19_transferred_291 rfl hl (by decide) rfl (fun ls hl => ?_)
        refine lv_iconst (v := 1) C.1.1 C.1.2.1 dX19_transferred_292 (by decide) ?_
        refine lv_istore (lv' := [(4, .int 1), (3, .int 0), (0, .ref (ad 732)), (2, .int v2)]) C.1.1 C.1.2.1 dX19_transferred_293 hl (by decide) rfl (fun ls hl => ?_)
        exact hh295 fu 0 1 M L _ _ ls hD hw (lv_sub hl [2, 1, 0] rfl)
      · replace hD := g_neg c1 hD
        refine lv_aload_n C.1.1 C.1.2.1 dX19_transferred_31 rfl (lv_at hl 0 rfl) ?_
        refine lv_dup C.1.1 C.1.2.1 dX19_transferred_32 rfl ?_
        refine mr_getI C hw kc_19 94 (by decide) tf_732 wd_2875 dX19_transferred_33 (by decide) rfl ?_
        refine lv_iconst (v := 1) C.1.1 C.1.2.1 dX19_transferred_36 (by decide) ?_
        refine lv_iadd C.1.1 C.1.2.1 dX19_transferred_37 ?_
        obtain ⟨M2, eM2, hD⟩ := g_let hD
        refine mr_putI C hw kc_19 94 (by decide) tf_732 wd_2875 dX19_transferred_38 (by decide) rfl rfl rfl rfl (fun H locs hw => ?_)
        replace hw : mw_W G ad NF TF FF M2 L H locs := by rw [eM2]; exact hw
        refine lv_aload_n C.1.1 C.1.2.1 dX19_transferred_41 rfl (lv_at hl 0 rfl) ?_
        refine mr_getR C hw kc_19 79 (by decide) tf_732 ff_732_79 wd_2860 dX19_transferred_42 (by decide) rfl ?_
        refine lv_aload_n C.1.1 C.1.2.1 dX19_transferred_45 rfl (lv_at hl 0 rfl) ?_
        refine mr_getI C hw kc_19 94 (by decide) tf_732 wd_2875 dX19_transferred_46 (by decide) rfl ?_
        refine lv_iconst (v := 0) C.1.1 C.1.2.1 dX19_transferred_49 (by decide) ?_
        obtain ⟨r5, M3, L4, h1, hD⟩ := g_b3 hD
        refine md_cvI (As := [.int (M2 732 94), .int 0]) (rest := []) C hw (tX17_frame l G ad fu (M2 732 94) 0 M2 L h1) kc_17 (by decide) tf_869 wd_3984 cwX17_frame ⟨Nat.le_of_ble_eq_true rfl, Nat.le_of_ble_eq_true rfl⟩ rfl hl.1 (Nat.le_of_ble_eq_true rfl) dX19_transferred_50 rfl rfl ⟨Nat.zero_le _, Nat.zero_le _⟩ rfl (fun H locs hw => ?_)
        refine lv_istore_n (lv' := [(3, .int r5), (0, .ref (ad 732)), (2, .int v2)]) C.1.1 C.1.2.1 dX19_transferred_53 rfl hl (by decide) rfl (fun ls hl => ?_)
        refine lv_aload_n C.1.1 C.1.2.1 dX19_transferred_54 rfl (lv_at hl 1 rfl) ?_
        refine mr_getR C hw kc_19 79 (by decide) tf_732 ff_732_79 wd_2860 dX19_transferred_55 (by decide) rfl ?_
        refine lv_aload_n C.1.1 C.1.2.1 dX19_transferred_58 rfl (lv_at hl 1 rfl) ?_
        refine mr_getI C hw kc_19 94 (by decide) tf_732 wd_2875 dX19_transferred_59 (by decide) rfl ?_
        refine lv_iconst (v := 1) C.1.1 C.1.2.1 dX19_transferred_62 (by decide) ?_
        obtain ⟨r8, M6, L7, h1, hD⟩ := g_b3 hD
        refine md_cvI (As := [.int (M3 732 94), .int 1]) (rest := []) C hw (tX17_frame l G ad fu (M3 732 94) 1 M3 L4 h1) kc_17 (by decide) tf_869 wd_3984 cwX17_frame ⟨Nat.le_of_ble_eq_true rfl, Nat.le_of_ble_eq_true rfl⟩ rfl hl.1 (Nat.le_of_ble_eq_true rfl) dX19_transferred_63 rfl rfl ⟨Nat.zero_le _, Nat.zero_le _⟩ rfl (fun H locs hw => ?_)
        refine lv_istore (lv' := [(4, .int r8), (3, .int r5), (0, .ref (ad 732)), (2, .int v2)]) C.1.1 C.1.2.1 dX19_transferred_66 hl (by decide) rfl (fun ls hl => ?_)
        refine lv_aload_n C.1.1 C.1.2.1 dX19_transferred_68 rfl (lv_at hl 2 rfl) ?_
        refine mr_getR C hw kc_19 87 (by decide) tf_732 ff_732_87 wd_2868 dX19_transferred_69 (by decide) rfl ?_
        refine lv_iconst (v := 0) C.1.1 C.1.2.1 dX19_transferred_72 (by decide) ?_
        refine lv_iload_n C.1.1 C.1.2.1 dX19_transferred_73 rfl (lv_at hl 1 rfl) ?_
        refine lv_bipush (v := 16) C.1.1 C.1.2.1 dX19_transferred_74 (by decide) ?_
        refine lv_imul C.1.1 C.1.2.1 dX19_transferred_76 ?_
        refine lv_aload_n C.1.1 C.1.2.1 dX19_transferred_77 rfl (lv_at hl 2 rfl) ?_
        refine mr_getR C hw kc_19 79 (by decide) tf_732 ff_732_79 wd_2860 dX19_transferred_78 (by decide) rfl ?_
        refine lv_aload_n C.1.1 C.1.2.1 dX19_transferred_81 rfl (lv_at hl 2 rfl) ?_
        refine mr_getI C hw kc_19 94 (by decide) tf_732 wd_2875 dX19_transferred_82 (by decide) rfl ?_
        refine lv_iconst (v := 2) C.1.1 C.1.2.1 dX19_transferred_85 (by decide) ?_
        obtain ⟨r11, M9, L10, h1, hD⟩ := g_b3 hD
        refine md_cvI (As := [.int (M6 732 94), .int 2]) (rest := [.int (r5 * 16), .int 0, .ref (ad 926)]) C hw (tX17_frame l G ad fu (M6 732 94) 2 M6 L7 h1) kc_17 (by decide) tf_869 wd_3984 cwX17_frame ⟨Nat.le_of_ble_eq_true rfl, Nat.le_of_ble_eq_true rfl⟩ rfl hl.1 (Nat.le_of_ble_eq_true rfl) dX19_transferred_86 rfl rfl ⟨Nat.zero_le _, Nat.zero_le _⟩ rfl (fun H locs hw => ?_)
        refine lv_bipush (v := 16) C.1.1 C.1.2.1 dX19_transferred_89 (by decide) ?_
        refine lv_irem C.1.1 C.1.2.1 dX19_transferred_91 (by decide) ?_
        refine lv_iadd C.1.1 C.1.2.1 dX19_transferred_92 ?_
        obtain ⟨M14, eM14, hD⟩ := g_let hD
        refine mr_iast C hw (by decide) tf_926 (show vp_in 0 8 from by unfold vp_in; decide) dX19_transferred_93 (fun H locs hw => ?_)
        replace hw : mw_W G ad NF TF FF M14 L10 H locs := by rw [eM14]; exact hw
        refine lv_iconst (v := 1) C.1.1 C.1.2.1 dX19_transferred_94 (by decide) ?_
        refine lv_istore (lv' := [(5, .int 1), (4, .int r8), (3, .int r5), (0, .ref (ad 732)), (2, .int v2)]) C.1.1 C.1.2.1 dX19_transferred_95 hl (by decide) rfl (fun ls hl => ?_)
        exact hh97 fu v2 r5 r8 1 M14 L10 _ _ ls hD hw (lv_sub hl [3, 4, 2, 1, 0] rfl)
  unfold DX19_transferred at hD
  refine lv_aload_n C.1.1 C.1.2.1 dX19_transferred_0 rfl (lv_at hl 0 rfl) ?_
  refine mr_getR C hw kc_19 79 (by decide) tf_732 ff_732_79 wd_2860 dX19_transferred_1 (by decide) rfl ?_
  refine lv_aload_n C.1.1 C.1.2.1 dX19_transferred_4 rfl (lv_at hl 0 rfl) ?_
  refine mr_getI C hw kc_19 83 (by decide) tf_732 wd_2864 dX19_transferred_5 (by decide) rfl ?_
  refine lv_i2l C.1.1 C.1.2.1 dX19_transferred_8 rfl ?_
  obtain ⟨r62, M60, L61, h1, hD⟩ := g_b3 hD
  refine md_cvI (As := [.long ((M 732 83).toInt64)]) (rest := []) C hw (tX17_tick l G ad fu ((M 732 83).toInt64) M L h1) kc_17 (by decide) tf_869 wd_4151 cwX17_tick ⟨Nat.le_of_ble_eq_true rfl, Nat.le_of_ble_eq_true rfl⟩ rfl hl.1 (Nat.le_of_ble_eq_true rfl) dX19_transferred_9 rfl rfl ⟨Nat.zero_le _, Nat.zero_le _⟩ rfl (fun H locs hw => ?_)
  refine lv_istore_n (lv' := [(1, .int r62), (0, .ref (ad 732))]) C.1.1 C.1.2.1 dX19_transferred_12 rfl hl (by decide) rfl (fun ls hl => ?_)
  refine lv_aload_n C.1.1 C.1.2.1 dX19_transferred_13 rfl (lv_at hl 1 rfl) ?_
  refine mr_getR C hw kc_19 79 (by decide) tf_732 ff_732_79 wd_2860 dX19_transferred_14 (by decide) rfl ?_
  refine lv_iconst (v := 0) C.1.1 C.1.2.1 dX19_transferred_17 (by decide) ?_
  refine lv_iconst (v := 0) C.1.1 C.1.2.1 dX19_transferred_18 (by decide) ?_
  obtain ⟨r65, M63, L64, h1, hD⟩ := g_b3 hD
  refine md_cvI (As := [.int 0, .int 0]) (rest := []) C hw (tX17_frame l G ad fu 0 0 M60 L61 h1) kc_17 (by decide) tf_869 wd_3984 cwX17_frame ⟨Nat.le_of_ble_eq_true rfl, Nat.le_of_ble_eq_true rfl⟩ rfl hl.1 (Nat.le_of_ble_eq_true rfl) dX19_transferred_19 rfl rfl ⟨Nat.zero_le _, Nat.zero_le _⟩ rfl (fun H locs hw => ?_)
  refine lv_istore_n (lv' := [(2, .int r65), (1, .int r62), (0, .ref (ad 732))]) C.1.1 C.1.2.1 dX19_transferred_22 rfl hl (by decide) rfl (fun ls hl => ?_)
  exact hh23 fu r65 M63 L64 _ _ ls hD hw (lv_sub hl [2, 0] rfl)

theorem dX19_taskDone_0 : decode cX19_taskDone 0 = .ok (.aload_n 0, 1) := by decide +kernel
theorem dX19_taskDone_1 : decode cX19_taskDone 1 = .ok (.getfield 55, 3) := by decide +kernel
theorem dX19_taskDone_4 : decode cX19_taskDone 4 = .ok (.iload_n 1, 1) := by decide +kernel
theorem dX19_taskDone_5 : decode cX19_taskDone 5 = .ok (.dup2, 1) := by decide +kernel
theorem dX19_taskDone_6 : decode cX19_taskDone 6 = .ok (.iaload, 1) := by decide +kernel
theorem dX19_taskDone_7 : decode cX19_taskDone 7 = .ok (.iconst 1, 1) := by decide +kernel
theorem dX19_taskDone_8 : decode cX19_taskDone 8 = .ok (.iadd, 1) := by decide +kernel
theorem dX19_taskDone_9 : decode cX19_taskDone 9 = .ok (.iastore, 1) := by decide +kernel
theorem dX19_taskDone_10 : decode cX19_taskDone 10 = .ok (.aload_n 0, 1) := by decide +kernel
theorem dX19_taskDone_11 : decode cX19_taskDone 11 = .ok (.getfield 52, 3) := by decide +kernel
theorem dX19_taskDone_14 : decode cX19_taskDone 14 = .ok (.iload_n 1, 1) := by decide +kernel
theorem dX19_taskDone_15 : decode cX19_taskDone 15 = .ok (.iaload, 1) := by decide +kernel
theorem dX19_taskDone_16 : decode cX19_taskDone 16 = .ok (.istore_n 2, 1) := by decide +kernel
theorem dX19_taskDone_17 : decode cX19_taskDone 17 = .ok (.iload_n 2, 1) := by decide +kernel
theorem dX19_taskDone_18 : decode cX19_taskDone 18 = .ok (.ifCond .ge 4, 3) := by decide +kernel
theorem dX19_taskDone_21 : decode cX19_taskDone 21 = .ok (.return_, 1) := by decide +kernel
theorem dX19_taskDone_22 : decode cX19_taskDone 22 = .ok (.aload_n 0, 1) := by decide +kernel
theorem dX19_taskDone_23 : decode cX19_taskDone 23 = .ok (.getfield 67, 3) := by decide +kernel
theorem dX19_taskDone_26 : decode cX19_taskDone 26 = .ok (.iload_n 2, 1) := by decide +kernel
theorem dX19_taskDone_27 : decode cX19_taskDone 27 = .ok (.iaload, 1) := by decide +kernel
theorem dX19_taskDone_28 : decode cX19_taskDone 28 = .ok (.istore_n 3, 1) := by decide +kernel
theorem dX19_taskDone_29 : decode cX19_taskDone 29 = .ok (.aload_n 0, 1) := by decide +kernel
theorem dX19_taskDone_30 : decode cX19_taskDone 30 = .ok (.getfield 67, 3) := by decide +kernel
theorem dX19_taskDone_33 : decode cX19_taskDone 33 = .ok (.iload_n 2, 1) := by decide +kernel
theorem dX19_taskDone_34 : decode cX19_taskDone 34 = .ok (.iconst 0, 1) := by decide +kernel
theorem dX19_taskDone_35 : decode cX19_taskDone 35 = .ok (.iastore, 1) := by decide +kernel
theorem dX19_taskDone_36 : decode cX19_taskDone 36 = .ok (.iload_n 3, 1) := by decide +kernel
theorem dX19_taskDone_37 : decode cX19_taskDone 37 = .ok (.ifCond .ne 32, 3) := by decide +kernel
theorem dX19_taskDone_40 : decode cX19_taskDone 40 = .ok (.aload_n 0, 1) := by decide +kernel
theorem dX19_taskDone_41 : decode cX19_taskDone 41 = .ok (.getfield 217, 3) := by decide +kernel
theorem dX19_taskDone_44 : decode cX19_taskDone 44 = .ok (.iload_n 2, 1) := by decide +kernel
theorem dX19_taskDone_45 : decode cX19_taskDone 45 = .ok (.aaload, 1) := by decide +kernel
theorem dX19_taskDone_46 : decode cX19_taskDone 46 = .ok (.iconst 0, 1) := by decide +kernel
theorem dX19_taskDone_47 : decode cX19_taskDone 47 = .ok (.aload_n 0, 1) := by decide +kernel
theorem dX19_taskDone_48 : decode cX19_taskDone 48 = .ok (.getfield 600, 3) := by decide +kernel
theorem dX19_taskDone_51 : decode cX19_taskDone 51 = .ok (.i2l, 1) := by decide +kernel
theorem dX19_taskDone_52 : decode cX19_taskDone 52 = .ok (.invokevirtual 784, 3) := by decide +kernel
theorem dX19_taskDone_55 : decode cX19_taskDone 55 = .ok (.iconst (-1), 1) := by decide +kernel
theorem dX19_taskDone_56 : decode cX19_taskDone 56 = .ok (.if_icmp .ne 13, 3) := by decide +kernel
theorem dX19_taskDone_59 : decode cX19_taskDone 59 = .ok (.aload_n 0, 1) := by decide +kernel
theorem dX19_taskDone_60 : decode cX19_taskDone 60 = .ok (.getfield 64, 3) := by decide +kernel
theorem dX19_taskDone_63 : decode cX19_taskDone 63 = .ok (.iload_n 2, 1) := by decide +kernel
theorem dX19_taskDone_64 : decode cX19_taskDone 64 = .ok (.dup2, 1) := by decide +kernel
theorem dX19_taskDone_65 : decode cX19_taskDone 65 = .ok (.iaload, 1) := by decide +kernel
theorem dX19_taskDone_66 : decode cX19_taskDone 66 = .ok (.iconst 1, 1) := by decide +kernel
theorem dX19_taskDone_67 : decode cX19_taskDone 67 = .ok (.iadd, 1) := by decide +kernel
theorem dX19_taskDone_68 : decode cX19_taskDone 68 = .ok (.iastore, 1) := by decide +kernel
theorem dX19_taskDone_69 : decode cX19_taskDone 69 = .ok (.iconst 0, 1) := by decide +kernel
theorem dX19_taskDone_70 : decode cX19_taskDone 70 = .ok (.istore 4, 2) := by decide +kernel
theorem dX19_taskDone_72 : decode cX19_taskDone 72 = .ok (.iload 4, 2) := by decide +kernel
theorem dX19_taskDone_74 : decode cX19_taskDone 74 = .ok (.iload_n 3, 1) := by decide +kernel
theorem dX19_taskDone_75 : decode cX19_taskDone 75 = .ok (.if_icmp .ge 49, 3) := by decide +kernel
theorem dX19_taskDone_78 : decode cX19_taskDone 78 = .ok (.aload_n 0, 1) := by decide +kernel
theorem dX19_taskDone_79 : decode cX19_taskDone 79 = .ok (.getfield 217, 3) := by decide +kernel
theorem dX19_taskDone_82 : decode cX19_taskDone 82 = .ok (.iload_n 2, 1) := by decide +kernel
theorem dX19_taskDone_83 : decode cX19_taskDone 83 = .ok (.aaload, 1) := by decide +kernel
theorem dX19_taskDone_84 : decode cX19_taskDone 84 = .ok (.aload_n 0, 1) := by decide +kernel
theorem dX19_taskDone_85 : decode cX19_taskDone 85 = .ok (.getfield 70, 3) := by decide +kernel
theorem dX19_taskDone_88 : decode cX19_taskDone 88 = .ok (.bipush 16, 2) := by decide +kernel
theorem dX19_taskDone_90 : decode cX19_taskDone 90 = .ok (.iload_n 2, 1) := by decide +kernel
theorem dX19_taskDone_91 : decode cX19_taskDone 91 = .ok (.imul, 1) := by decide +kernel
theorem dX19_taskDone_92 : decode cX19_taskDone 92 = .ok (.iload 4, 2) := by decide +kernel
theorem dX19_taskDone_94 : decode cX19_taskDone 94 = .ok (.iadd, 1) := by decide +kernel
theorem dX19_taskDone_95 : decode cX19_taskDone 95 = .ok (.iaload, 1) := by decide +kernel
theorem dX19_taskDone_96 : decode cX19_taskDone 96 = .ok (.aload_n 0, 1) := by decide +kernel
theorem dX19_taskDone_97 : decode cX19_taskDone 97 = .ok (.getfield 600, 3) := by decide +kernel
theorem dX19_taskDone_100 : decode cX19_taskDone 100 = .ok (.i2l, 1) := by decide +kernel
theorem dX19_taskDone_101 : decode cX19_taskDone 101 = .ok (.invokevirtual 784, 3) := by decide +kernel
theorem dX19_taskDone_104 : decode cX19_taskDone 104 = .ok (.iconst (-1), 1) := by decide +kernel
theorem dX19_taskDone_105 : decode cX19_taskDone 105 = .ok (.if_icmp .ne 13, 3) := by decide +kernel
theorem dX19_taskDone_108 : decode cX19_taskDone 108 = .ok (.aload_n 0, 1) := by decide +kernel
theorem dX19_taskDone_109 : decode cX19_taskDone 109 = .ok (.getfield 64, 3) := by decide +kernel
theorem dX19_taskDone_112 : decode cX19_taskDone 112 = .ok (.iload_n 2, 1) := by decide +kernel
theorem dX19_taskDone_113 : decode cX19_taskDone 113 = .ok (.dup2, 1) := by decide +kernel
theorem dX19_taskDone_114 : decode cX19_taskDone 114 = .ok (.iaload, 1) := by decide +kernel
theorem dX19_taskDone_115 : decode cX19_taskDone 115 = .ok (.iconst 1, 1) := by decide +kernel
theorem dX19_taskDone_116 : decode cX19_taskDone 116 = .ok (.iadd, 1) := by decide +kernel
theorem dX19_taskDone_117 : decode cX19_taskDone 117 = .ok (.iastore, 1) := by decide +kernel
theorem dX19_taskDone_118 : decode cX19_taskDone 118 = .ok (.iinc 4 1, 3) := by decide +kernel
theorem dX19_taskDone_121 : decode cX19_taskDone 121 = .ok (.goto (-49), 3) := by decide +kernel
theorem dX19_taskDone_124 : decode cX19_taskDone 124 = .ok (.return_, 1) := by decide +kernel
theorem cwX19_taskDone : mw_cwV yX19_taskDone cX19_taskDone 5 (none) 1 := ⟨⟨wd_13, wd_4061, by decide +kernel⟩, wd_4060, sl_313⟩
noncomputable def fX19_taskDone_b118 (fu : Nat) (a1 : Int32) (r72 : (Int32 × Int32 × Int32 × mwM × mwL) → Option (mwM × mwL)) (v2 : Int32) (v3 : Int32) (v4 : Int32) (M : mwM) (L : mwL) : Option (mwM × mwL) :=
  mlet (v4 + 1) (fun x11 => r72 (v2, v3, x11, M, L))
noncomputable def fX19_taskDone_i72 (fu : Nat) (a1 : Int32) (r72 : (Int32 × Int32 × Int32 × mwM × mwL) → Option (mwM × mwL)) (v2 : Int32) (v3 : Int32) (v4 : Int32) (M : mwM) (L : mwL) : Option (mwM × mwL) :=
  (if v3 ≤ v4 then some (M, L) else mck v2 12 (mck ((16 * v2) + v4) 192 (mb3 (DX13_event fu ((964 + 53 * v2.toNatClampNeg)) (M 753 ((16 * v2) + v4).toNatClampNeg) ((M 732 83).toInt64) M L) (fun r6 M4 L5 => (if r6 = ((-1)) then mck v2 12 (mck v2 12 (mlet (mset M4 751 (v2.toNatClampNeg) ((M4 751 v2.toNatClampNeg) + 1)) (fun M10 => fX19_taskDone_b118 fu a1 r72 v2 v3 v4 M10 L5))) else fX19_taskDone_b118 fu a1 r72 v2 v3 v4 M4 L5)))))
noncomputable def fX19_taskDone_h72 (fu : Nat) (a1 : Int32) : Nat → (Int32 × Int32 × Int32 × mwM × mwL) → Option (mwM × mwL) := mloop (fun r72 s => fX19_taskDone_i72 fu a1 r72 s.1 s.2.1 s.2.2.1 s.2.2.2.1 s.2.2.2.2)
noncomputable def fX19_taskDone_b69 (fu : Nat) (a1 : Int32) (v2 : Int32) (v3 : Int32) (M : mwM) (L : mwL) : Option (mwM × mwL) :=
  fX19_taskDone_h72 fu a1 fu (v2, v3, 0, M, L)
noncomputable def DX19_taskDone (fu : Nat) (a1 : Int32) (M : mwM) (L : mwL) : Option (mwM × mwL) :=
  mck a1 12 (mck a1 12 (mlet (mset M 748 (a1.toNatClampNeg) ((M 748 a1.toNatClampNeg) + 1)) (fun M14 => mck a1 12 (mlet (M14 747 a1.toNatClampNeg) (fun x16 => (if 0 ≤ x16 then mck x16 12 (mlet (M14 752 x16.toNatClampNeg) (fun x19 => mck x16 12 (mlet (mset M14 752 (x16.toNatClampNeg) 0) (fun M21 => (if x19 = 0 then mck x16 12 (mb3 (DX13_event fu ((964 + 53 * x16.toNatClampNeg)) 0 ((M21 732 83).toInt64) M21 L) (fun r26 M24 L25 => (if r26 = ((-1)) then mck x16 12 (mck x16 12 (mlet (mset M24 751 (x16.toNatClampNeg) ((M24 751 x16.toNatClampNeg) + 1)) (fun M30 => fX19_taskDone_b69 fu a1 x16 x19 M30 L25))) else fX19_taskDone_b69 fu a1 x16 x19 M24 L25))) else fX19_taskDone_b69 fu a1 x16 x19 M21 L))))) else some (M14, L)))))))
set_option maxHeartbeats 4000000 in
set_option maxRecDepth 100000 in
theorem tX19_taskDone (l : Launch) (G : mwG) (ad : Nat → Nat) (fu : Nat) (a1 : Int32) (M : mwM) (L : mwL) {M0 : mwM} {L0 : mwL} (hD : DX19_taskDone fu a1 M L = some (M0, L0)) : Met l yX19_taskDone (Cond.code yX19_taskDone cX19_taskDone 5 (none) :: GT) ({ frames := 8, cells := 0, slots := 0, locals := 196 }) (mw_Pre G ad NF TF FF M L [.ref (ad 732), .int a1]) (mw_Qv G ad NF TF FF (mw_eqV M0 L0)) 0 0 (mw_fr G) := by
  refine mw_enter (by decide) (Nat.le_of_ble_eq_true rfl) ?_
  intro p e s m below meth c ls C hr hlocks hnm hw hl
  have hl : lv_has ls 5 [(0, .ref (ad 732)), (1, .int a1)] := hl
  have hh72 : ∀ (f : Nat) (v2 : Int32) (v3 : Int32) (v4 : Int32) (M : mwM) (L : mwL) (H : Heap) (locs : List Loc) (ls : Array Slot), fX19_taskDone_h72 fu a1 f (v2, v3, v4, M, L) = some (M0, L0) → mw_W G ad NF TF FF M L H locs → lv_has ls 5 [(0, .ref (ad 732)), (2, .int v2), (3, .int v3), (4, .int v4)] → W p l e ({ frames := 8, cells := 0, slots := 0, locals := 196 }) s m [.ref (ad 732), .int a1].toArray below meth c H locs 0 0 (MQ below (mw_Qv G ad NF TF FF (mw_eqV M0 L0)) [.ref (ad 732), .int a1].toArray s 0 0 (mw_fr G)) (F0 m 72 ls []) := by
    intro f
    induction f with
    | zero => intro v2 v3 v4 M L H locs ls hD; cases hD
    | succ f72 ih72 =>
      intro v2 v3 v4 M L H locs ls hD hw hl
      replace hD : fX19_taskDone_i72 fu a1 (fX19_taskDone_h72 fu a1 f72) v2 v3 v4 M L = some (M0, L0) := hD
      have hb118 : ∀ (v2 : Int32) (v3 : Int32) (v4 : Int32) (M : mwM) (L : mwL) (H : Heap) (locs : List Loc) (ls : Array Slot), fX19_taskDone_b118 fu a1 (fX19_taskDone_h72 fu a1 f72) v2 v3 v4 M L = some (M0, L0) → mw_W G ad NF TF FF M L H locs → lv_has ls 5 [(0, .ref (ad 732)), (2, .int v2), (3, .int v3), (4, .int v4)] → W p l e ({ frames := 8, cells := 0, slots := 0, locals := 196 }) s m [.ref (ad 732), .int a1].toArray below meth c H locs 0 0 (MQ below (mw_Qv G ad NF TF FF (mw_eqV M0 L0)) [.ref (ad 732), .int a1].toArray s 0 0 (mw_fr G)) (F0 m 118 ls []) := by
        intro v2 v3 v4 M L H locs ls hD hw hl
        unfold fX19_taskDone_b118 at hD
        obtain ⟨x11, ex11, hD⟩ := g_let hD
        refine lv_iinc (v := x11) (lv' := [(4, .int x11), (0, .ref (ad 732)), (2, .int v2), (3, .int v3)]) C.1.1 C.1.2.1 dX19_taskDone_118 hl (k := 3) rfl (by rw [ex11]; rfl) (by decide) rfl (fun ls hl => ?_)
        refine lv_goto (tgt := 72) C.1.1 C.1.2.1 dX19_taskDone_121 (by decide) ?_
        exact ih72 v2 v3 x11 M L _ _ ls hD hw (lv_sub hl [1, 2, 3, 0] rfl)
      unfold fX19_taskDone_i72 at hD
      refine lv_iload C.1.1 C.1.2.1 dX19_taskDone_72 (lv_at hl 3 rfl) ?_
      refine lv_iload_n C.1.1 C.1.2.1 dX19_taskDone_74 rfl (lv_at hl 2 rfl) ?_
      refine lv_icmp_ge (tgt := 124) C.1.1 C.1.2.1 dX19_taskDone_75 (by decide) (fun c1 => ?_) (fun c1 => ?_)
      · replace hD := g_pos c1 hD
        exact mr_vret C hr hlocks hw (Option.some.inj hD) dX19_taskDone_124
      · replace hD := g_neg c1 hD
        refine lv_aload_n C.1.1 C.1.2.1 dX19_taskDone_78 rfl (lv_at hl 0 rfl) ?_
        refine mr_getR C hw kc_19 82 (by decide) tf_732 ff_732_82 wd_2863 dX19_taskDone_79 (by decide) rfl ?_
        refine lv_iload_n C.1.1 C.1.2.1 dX19_taskDone_82 rfl (lv_at hl 1 rfl) ?_
        obtain ⟨q2, hD⟩ := g_ck hD
        refine mr_aald C hw (by decide) tf_922 (by decide) (by decide) rfl rfl q2 (fr_922 _ (g_lt q2)) dX19_taskDone_83 ?_
        refine lv_aload_n C.1.1 C.1.2.1 dX19_taskDone_84 rfl (lv_at hl 0 rfl) ?_
        refine mr_getR C hw kc_19 38 (by decide) tf_732 ff_732_38 wd_2819 dX19_taskDone_85 (by decide) rfl ?_
        refine lv_bipush (v := 16) C.1.1 C.1.2.1 dX19_taskDone_88 (by decide) ?_
        refine lv_iload_n C.1.1 C.1.2.1 dX19_taskDone_90 rfl (lv_at hl 1 rfl) ?_
        refine lv_imul C.1.1 C.1.2.1 dX19_taskDone_91 ?_
        refine lv_iload C.1.1 C.1.2.1 dX19_taskDone_92 (lv_at hl 3 rfl) ?_
        refine lv_iadd C.1.1 C.1.2.1 dX19_taskDone_94 ?_
        obtain ⟨q3, hD⟩ := g_ck hD
        refine mr_iald C hw (by decide) tf_753 q3 dX19_taskDone_95 ?_
        refine lv_aload_n C.1.1 C.1.2.1 dX19_taskDone_96 rfl (lv_at hl 0 rfl) ?_
        refine mr_getI C hw kc_19 83 (by decide) tf_732 wd_2864 dX19_taskDone_97 (by decide) rfl ?_
        refine lv_i2l C.1.1 C.1.2.1 dX19_taskDone_100 rfl ?_
        obtain ⟨r6, M4, L5, h1, hD⟩ := g_b3 hD
        refine md_cvI (As := [.int (M 753 ((16 * v2) + v4).toNatClampNeg), .long ((M 732 83).toInt64)]) (rest := []) C hw (tX13_event l G ad fu ((964 + 53 * v2.toNatClampNeg)) (M 753 ((16 * v2) + v4).toNatClampNeg) ((M 732 83).toInt64) M L h1 (isMc_of (g_lt q2))) kc_13 (Mc_N0 (isMc_of (g_lt q2))) (Mc_T0 (isMc_of (g_lt q2))) wd_4062 cwX13_event ⟨Nat.le_of_ble_eq_true rfl, Nat.le_of_ble_eq_true rfl⟩ rfl hl.1 (Nat.le_of_ble_eq_true rfl) dX19_taskDone_101 rfl rfl ⟨Nat.zero_le _, Nat.zero_le _⟩ rfl (fun H locs hw => ?_)
        refine lv_iconst (v := (-1)) C.1.1 C.1.2.1 dX19_taskDone_104 (by decide) ?_
        refine lv_icmp_ne (tgt := 118) C.1.1 C.1.2.1 dX19_taskDone_105 (by decide) (fun c7 => ?_) (fun c7 => ?_)
        · replace hD := g_neg c7 hD
          exact hb118 v2 v3 v4 M4 L5 _ _ ls hD hw (lv_sub hl [0, 1, 2, 3] rfl)
        · replace hD := g_pos c7 hD
          refine lv_aload_n C.1.1 C.1.2.1 dX19_taskDone_108 rfl (lv_at hl 0 rfl) ?_
          refine mr_getR C hw kc_19 36 (by decide) tf_732 ff_732_36 wd_2817 dX19_taskDone_109 (by decide) rfl ?_
          refine lv_iload_n C.1.1 C.1.2.1 dX19_taskDone_112 rfl (lv_at hl 1 rfl) ?_
          refine lv_dup2_11 C.1.1 C.1.2.1 dX19_taskDone_113 rfl rfl ?_
          obtain ⟨q8, hD⟩ := g_ck hD
          refine mr_iald C hw (by decide) tf_751 q8 dX19_taskDone_114 ?_
          refine lv_iconst (v := 1) C.1.1 C.1.2.1 dX19_taskDone_115 (by decide) ?_
          refine lv_iadd C.1.1 C.1.2.1 dX19_taskDone_116 ?_
          obtain ⟨q9, hD⟩ := g_ck hD
          obtain ⟨M10, eM10, hD⟩ := g_let hD
          refine mr_iast C hw (by decide) tf_751 q9 dX19_taskDone_117 (fun H locs hw => ?_)
          replace hw : mw_W G ad NF TF FF M10 L5 H locs := by rw [eM10]; exact hw
          exact hb118 v2 v3 v4 M10 L5 _ _ ls hD hw (lv_sub hl [0, 1, 2, 3] rfl)
  have hb69 : ∀ (v2 : Int32) (v3 : Int32) (M : mwM) (L : mwL) (H : Heap) (locs : List Loc) (ls : Array Slot), fX19_taskDone_b69 fu a1 v2 v3 M L = some (M0, L0) → mw_W G ad NF TF FF M L H locs → lv_has ls 5 [(0, .ref (ad 732)), (2, .int v2), (3, .int v3)] → W p l e ({ frames := 8, cells := 0, slots := 0, locals := 196 }) s m [.ref (ad 732), .int a1].toArray below meth c H locs 0 0 (MQ below (mw_Qv G ad NF TF FF (mw_eqV M0 L0)) [.ref (ad 732), .int a1].toArray s 0 0 (mw_fr G)) (F0 m 69 ls []) := by
    intro v2 v3 M L H locs ls hD hw hl
    unfold fX19_taskDone_b69 at hD
    refine lv_iconst (v := 0) C.1.1 C.1.2.1 dX19_taskDone_69 (by decide) ?_
    refine lv_istore (lv' := [(4, .int 0), (0, .ref (ad 732)), (2, .int v2), (3, .int v3)]) C.1.1 C.1.2.1 dX19_taskDone_70 hl (by decide) rfl (fun ls hl => ?_)
    exact hh72 fu v2 v3 0 M L _ _ ls hD hw (lv_sub hl [1, 2, 3, 0] rfl)
  unfold DX19_taskDone at hD
  refine lv_aload_n C.1.1 C.1.2.1 dX19_taskDone_0 rfl (lv_at hl 0 rfl) ?_
  refine mr_getR C hw kc_19 32 (by decide) tf_732 ff_732_32 wd_2813 dX19_taskDone_1 (by decide) rfl ?_
  refine lv_iload_n C.1.1 C.1.2.1 dX19_taskDone_4 rfl (lv_at hl 1 rfl) ?_
  refine lv_dup2_11 C.1.1 C.1.2.1 dX19_taskDone_5 rfl rfl ?_
  obtain ⟨q12, hD⟩ := g_ck hD
  refine mr_iald C hw (by decide) tf_748 q12 dX19_taskDone_6 ?_
  refine lv_iconst (v := 1) C.1.1 C.1.2.1 dX19_taskDone_7 (by decide) ?_
  refine lv_iadd C.1.1 C.1.2.1 dX19_taskDone_8 ?_
  obtain ⟨q13, hD⟩ := g_ck hD
  obtain ⟨M14, eM14, hD⟩ := g_let hD
  refine mr_iast C hw (by decide) tf_748 q13 dX19_taskDone_9 (fun H locs hw => ?_)
  replace hw : mw_W G ad NF TF FF M14 L H locs := by rw [eM14]; exact hw
  refine lv_aload_n C.1.1 C.1.2.1 dX19_taskDone_10 rfl (lv_at hl 0 rfl) ?_
  refine mr_getR C hw kc_19 31 (by decide) tf_732 ff_732_31 wd_2812 dX19_taskDone_11 (by decide) rfl ?_
  refine lv_iload_n C.1.1 C.1.2.1 dX19_taskDone_14 rfl (lv_at hl 1 rfl) ?_
  obtain ⟨q15, hD⟩ := g_ck hD
  refine mr_iald C hw (by decide) tf_747 q15 dX19_taskDone_15 ?_
  obtain ⟨x16, ex16, hD⟩ := g_let hD
  refine W.eq (g2 := F0 m 16 ls (.int x16 :: [])) (by rw [ex16]) ?_
  refine lv_istore_n (lv' := [(2, .int x16), (0, .ref (ad 732)), (1, .int a1)]) C.1.1 C.1.2.1 dX19_taskDone_16 rfl hl (by decide) rfl (fun ls hl => ?_)
  refine lv_iload_n C.1.1 C.1.2.1 dX19_taskDone_17 rfl (lv_at hl 0 rfl) ?_
  refine lv_if_ge (tgt := 22) C.1.1 C.1.2.1 dX19_taskDone_18 (by decide) (fun c17 => ?_) (fun c17 => ?_)
  · replace hD := g_pos c17 hD
    refine lv_aload_n C.1.1 C.1.2.1 dX19_taskDone_22 rfl (lv_at hl 1 rfl) ?_
    refine mr_getR C hw kc_19 37 (by decide) tf_732 ff_732_37 wd_2818 dX19_taskDone_23 (by decide) rfl ?_
    refine lv_iload_n C.1.1 C.1.2.1 dX19_taskDone_26 rfl (lv_at hl 0 rfl) ?_
    obtain ⟨q18, hD⟩ := g_ck hD
    refine mr_iald C hw (by decide) tf_752 q18 dX19_taskDone_27 ?_
    obtain ⟨x19, ex19, hD⟩ := g_let hD
    refine W.eq (g2 := F0 m 28 ls (.int x19 :: [])) (by rw [ex19]) ?_
    refine lv_istore_n (lv' := [(3, .int x19), (2, .int x16), (0, .ref (ad 732)), (1, .int a1)]) C.1.1 C.1.2.1 dX19_taskDone_28 rfl hl (by decide) rfl (fun ls hl => ?_)
    refine lv_aload_n C.1.1 C.1.2.1 dX19_taskDone_29 rfl (lv_at hl 2 rfl) ?_
    refine mr_getR C hw kc_19 37 (by decide) tf_732 ff_732_37 wd_2818 dX19_taskDone_30 (by decide) rfl ?_
    refine lv_iload_n C.1.1 C.1.2.1 dX19_taskDone_33 rfl (lv_at hl 1 rfl) ?_
    refine lv_iconst (v := 0) C.1.1 C.1.2.1 dX19_taskDone_34 (by decide) ?_
    obtain ⟨q20, hD⟩ := g_ck hD
    obtain ⟨M21, eM21, hD⟩ := g_let hD
    refine mr_iast C hw (by decide) tf_752 q20 dX19_taskDone_35 (fun H locs hw => ?_)
    replace hw : mw_W G ad NF TF FF M21 L H locs := by rw [eM21]; exact hw
    refine lv_iload_n C.1.1 C.1.2.1 dX19_taskDone_36 rfl (lv_at hl 0 rfl) ?_
    refine lv_if_ne (tgt := 69) C.1.1 C.1.2.1 dX19_taskDone_37 (by decide) (fun c22 => ?_) (fun c22 => ?_)
    · replace hD := g_neg c22 hD
      exact hb69 x16 x19 M21 L _ _ ls hD hw (lv_sub hl [2, 1, 0] rfl)
    · replace hD := g_pos c22 hD
      refine lv_aload_n C.1.1 C.1.2.1 dX19_taskDone_40 rfl (lv_at hl 2 rfl) ?_
      refine mr_getR C hw kc_19 82 (by decide) tf_732 ff_732_82 wd_2863 dX19_taskDone_41 (by decide) rfl ?_
      refine lv_iload_n C.1.1 C.1.2.1 dX19_taskDone_44 rfl (lv_at hl 1 rfl) ?_
      obtain ⟨q23, hD⟩ := g_ck hD
      refine mr_aald C hw (by decide) tf_922 (by decide) (by decide) rfl rfl q23 (fr_922 _ (g_lt q23)) dX19_taskDone_45 ?_
      refine lv_iconst (v := 0) C.1.1 C.1.2.1 dX19_taskDone_46 (by decide) ?_
      refine lv_aload_n C.1.1 C.1.2.1 dX19_taskDone_47 rfl (lv_at hl 2 rfl) ?_
      refine mr_getI C hw kc_19 83 (by decide) tf_732 wd_2864 dX19_taskDone_48 (by decide) rfl ?_
      refine lv_i2l C.1.1 C.1.2.1 dX19_taskDone_51 rfl ?_
      obtain ⟨r26, M24, L25, h1, hD⟩ := g_b3 hD
      refine md_cvI (As := [.int 0, .long ((M21 732 83).toInt64)]) (rest := []) C hw (tX13_event l G ad fu ((964 + 53 * x16.toNatClampNeg)) 0 ((M21 732 83).toInt64) M21 L h1 (isMc_of (g_lt q23))) kc_13 (Mc_N0 (isMc_of (g_lt q23))) (Mc_T0 (isMc_of (g_lt q23))) wd_4062 cwX13_event ⟨Nat.le_of_ble_eq_true rfl, Nat.le_of_ble_eq_true rfl⟩ rfl hl.1 (Nat.le_of_ble_eq_true rfl) dX19_taskDone_52 rfl rfl ⟨Nat.zero_le _, Nat.zero_le _⟩ rfl (fun H locs hw => ?_)
      refine lv_iconst (v := (-1)) C.1.1 C.1.2.1 dX19_taskDone_55 (by decide) ?_
      refine lv_icmp_ne (tgt := 69) C.1.1 C.1.2.1 dX19_taskDone_56 (by decide) (fun c27 => ?_) (fun c27 => ?_)
      · replace hD := g_neg c27 hD
        exact hb69 x16 x19 M24 L25 _ _ ls hD hw (lv_sub hl [2, 1, 0] rfl)
      · replace hD := g_pos c27 hD
        refine lv_aload_n C.1.1 C.1.2.1 dX19_taskDone_59 rfl (lv_at hl 2 rfl) ?_
        refine mr_getR C hw kc_19 36 (by decide) tf_732 ff_732_36 wd_2817 dX19_taskDone_60 (by decide) rfl ?_
        refine lv_iload_n C.1.1 C.1.2.1 dX19_taskDone_63 rfl (lv_at hl 1 rfl) ?_
        refine lv_dup2_11 C.1.1 C.1.2.1 dX19_taskDone_64 rfl rfl ?_
        obtain ⟨q28, hD⟩ := g_ck hD
        refine mr_iald C hw (by decide) tf_751 q28 dX19_taskDone_65 ?_
        refine lv_iconst (v := 1) C.1.1 C.1.2.1 dX19_taskDone_66 (by decide) ?_
        refine lv_iadd C.1.1 C.1.2.1 dX19_taskDone_67 ?_
        obtain ⟨q29, hD⟩ := g_ck hD
        obtain ⟨M30, eM30, hD⟩ := g_let hD
        refine mr_iast C hw (by decide) tf_751 q29 dX19_taskDone_68 (fun H locs hw => ?_)
        replace hw : mw_W G ad NF TF FF M30 L25 H locs := by rw [eM30]; exact hw
        exact hb69 x16 x19 M30 L25 _ _ ls hD hw (lv_sub hl [2, 1, 0] rfl)
  · replace hD := g_neg c17 hD
    exact mr_vret C hr hlocks hw (Option.some.inj hD) dX19_taskDone_21

theorem dX19_microsecond_0 : decode cX19_microsecond 0 = .ok (.iconst 0, 1) := by decide +kernel
theorem dX19_microsecond_1 : decode cX19_microsecond 1 = .ok (.istore_n 1, 1) := by decide +kernel
theorem dX19_microsecond_2 : decode cX19_microsecond 2 = .ok (.iload_n 1, 1) := by decide +kernel
theorem dX19_microsecond_3 : decode cX19_microsecond 3 = .ok (.aload_n 0, 1) := by decide +kernel
theorem dX19_microsecond_4 : decode cX19_microsecond 4 = .ok (.getfield 568, 3) := by decide +kernel
theorem dX19_microsecond_7 : decode cX19_microsecond 7 = .ok (.if_icmp .ge 49, 3) := by decide +kernel
theorem dX19_microsecond_10 : decode cX19_microsecond 10 = .ok (.aload_n 0, 1) := by decide +kernel
theorem dX19_microsecond_11 : decode cX19_microsecond 11 = .ok (.getfield 600, 3) := by decide +kernel
theorem dX19_microsecond_14 : decode cX19_microsecond 14 = .ok (.ifCond .le 42, 3) := by decide +kernel
theorem dX19_microsecond_17 : decode cX19_microsecond 17 = .ok (.aload_n 0, 1) := by decide +kernel
theorem dX19_microsecond_18 : decode cX19_microsecond 18 = .ok (.getfield 600, 3) := by decide +kernel
theorem dX19_microsecond_21 : decode cX19_microsecond 21 = .ok (.aload_n 0, 1) := by decide +kernel
theorem dX19_microsecond_22 : decode cX19_microsecond 22 = .ok (.getfield 159, 3) := by decide +kernel
theorem dX19_microsecond_25 : decode cX19_microsecond 25 = .ok (.iload_n 1, 1) := by decide +kernel
theorem dX19_microsecond_26 : decode cX19_microsecond 26 = .ok (.iaload, 1) := by decide +kernel
theorem dX19_microsecond_27 : decode cX19_microsecond 27 = .ok (.irem, 1) := by decide +kernel
theorem dX19_microsecond_28 : decode cX19_microsecond 28 = .ok (.ifCond .ne 22, 3) := by decide +kernel
theorem dX19_microsecond_31 : decode cX19_microsecond 31 = .ok (.aload_n 0, 1) := by decide +kernel
theorem dX19_microsecond_32 : decode cX19_microsecond 32 = .ok (.getfield 221, 3) := by decide +kernel
theorem dX19_microsecond_35 : decode cX19_microsecond 35 = .ok (.aload_n 0, 1) := by decide +kernel
theorem dX19_microsecond_36 : decode cX19_microsecond 36 = .ok (.getfield 150, 3) := by decide +kernel
theorem dX19_microsecond_39 : decode cX19_microsecond 39 = .ok (.iload_n 1, 1) := by decide +kernel
theorem dX19_microsecond_40 : decode cX19_microsecond 40 = .ok (.iaload, 1) := by decide +kernel
theorem dX19_microsecond_41 : decode cX19_microsecond 41 = .ok (.baload, 1) := by decide +kernel
theorem dX19_microsecond_42 : decode cX19_microsecond 42 = .ok (.ifCond .ne 8, 3) := by decide +kernel
theorem dX19_microsecond_45 : decode cX19_microsecond 45 = .ok (.aload_n 0, 1) := by decide +kernel
theorem dX19_microsecond_46 : decode cX19_microsecond 46 = .ok (.iload_n 1, 1) := by decide +kernel
theorem dX19_microsecond_47 : decode cX19_microsecond 47 = .ok (.invokevirtual 786, 3) := by decide +kernel
theorem dX19_microsecond_50 : decode cX19_microsecond 50 = .ok (.iinc 1 1, 3) := by decide +kernel
theorem dX19_microsecond_53 : decode cX19_microsecond 53 = .ok (.goto (-51), 3) := by decide +kernel
theorem dX19_microsecond_56 : decode cX19_microsecond 56 = .ok (.aload_n 0, 1) := by decide +kernel
theorem dX19_microsecond_57 : decode cX19_microsecond 57 = .ok (.getfield 184, 3) := by decide +kernel
theorem dX19_microsecond_60 : decode cX19_microsecond 60 = .ok (.iconst 1, 1) := by decide +kernel
theorem dX19_microsecond_61 : decode cX19_microsecond 61 = .ok (.invokevirtual 788, 3) := by decide +kernel
theorem dX19_microsecond_64 : decode cX19_microsecond 64 = .ok (.istore_n 1, 1) := by decide +kernel
theorem dX19_microsecond_65 : decode cX19_microsecond 65 = .ok (.iconst 0, 1) := by decide +kernel
theorem dX19_microsecond_66 : decode cX19_microsecond 66 = .ok (.istore_n 2, 1) := by decide +kernel
theorem dX19_microsecond_67 : decode cX19_microsecond 67 = .ok (.iload_n 2, 1) := by decide +kernel
theorem dX19_microsecond_68 : decode cX19_microsecond 68 = .ok (.aload_n 0, 1) := by decide +kernel
theorem dX19_microsecond_69 : decode cX19_microsecond 69 = .ok (.getfield 448, 3) := by decide +kernel
theorem dX19_microsecond_72 : decode cX19_microsecond 72 = .ok (.if_icmp .ge 25, 3) := by decide +kernel
theorem dX19_microsecond_75 : decode cX19_microsecond 75 = .ok (.aload_n 0, 1) := by decide +kernel
theorem dX19_microsecond_76 : decode cX19_microsecond 76 = .ok (.getfield 227, 3) := by decide +kernel
theorem dX19_microsecond_79 : decode cX19_microsecond 79 = .ok (.iload_n 2, 1) := by decide +kernel
theorem dX19_microsecond_80 : decode cX19_microsecond 80 = .ok (.aload_n 0, 1) := by decide +kernel
theorem dX19_microsecond_81 : decode cX19_microsecond 81 = .ok (.getfield 177, 3) := by decide +kernel
theorem dX19_microsecond_84 : decode cX19_microsecond 84 = .ok (.iload_n 2, 1) := by decide +kernel
theorem dX19_microsecond_85 : decode cX19_microsecond 85 = .ok (.iconst 1, 1) := by decide +kernel
theorem dX19_microsecond_86 : decode cX19_microsecond 86 = .ok (.iadd, 1) := by decide +kernel
theorem dX19_microsecond_87 : decode cX19_microsecond 87 = .ok (.invokevirtual 791, 3) := by decide +kernel
theorem dX19_microsecond_90 : decode cX19_microsecond 90 = .ok (.lastore, 1) := by decide +kernel
theorem dX19_microsecond_91 : decode cX19_microsecond 91 = .ok (.iinc 2 1, 3) := by decide +kernel
theorem dX19_microsecond_94 : decode cX19_microsecond 94 = .ok (.goto (-27), 3) := by decide +kernel
theorem dX19_microsecond_97 : decode cX19_microsecond 97 = .ok (.aload_n 0, 1) := by decide +kernel
theorem dX19_microsecond_98 : decode cX19_microsecond 98 = .ok (.getfield 177, 3) := by decide +kernel
theorem dX19_microsecond_101 : decode cX19_microsecond 101 = .ok (.lconst 1, 1) := by decide +kernel
theorem dX19_microsecond_102 : decode cX19_microsecond 102 = .ok (.invokevirtual 794, 3) := by decide +kernel
theorem dX19_microsecond_105 : decode cX19_microsecond 105 = .ok (.istore_n 2, 1) := by decide +kernel
theorem dX19_microsecond_106 : decode cX19_microsecond 106 = .ok (.aload_n 0, 1) := by decide +kernel
theorem dX19_microsecond_107 : decode cX19_microsecond 107 = .ok (.dup, 1) := by decide +kernel
theorem dX19_microsecond_108 : decode cX19_microsecond 108 = .ok (.getfield 600, 3) := by decide +kernel
theorem dX19_microsecond_111 : decode cX19_microsecond 111 = .ok (.iconst 1, 1) := by decide +kernel
theorem dX19_microsecond_112 : decode cX19_microsecond 112 = .ok (.iadd, 1) := by decide +kernel
theorem dX19_microsecond_113 : decode cX19_microsecond 113 = .ok (.putfield 600, 3) := by decide +kernel
theorem dX19_microsecond_116 : decode cX19_microsecond 116 = .ok (.iconst 0, 1) := by decide +kernel
theorem dX19_microsecond_117 : decode cX19_microsecond 117 = .ok (.istore_n 3, 1) := by decide +kernel
theorem dX19_microsecond_118 : decode cX19_microsecond 118 = .ok (.iload_n 3, 1) := by decide +kernel
theorem dX19_microsecond_119 : decode cX19_microsecond 119 = .ok (.aload_n 0, 1) := by decide +kernel
theorem dX19_microsecond_120 : decode cX19_microsecond 120 = .ok (.getfield 435, 3) := by decide +kernel
theorem dX19_microsecond_123 : decode cX19_microsecond 123 = .ok (.if_icmp .gt 14, 3) := by decide +kernel
theorem dX19_microsecond_126 : decode cX19_microsecond 126 = .ok (.aload_n 0, 1) := by decide +kernel
theorem dX19_microsecond_127 : decode cX19_microsecond 127 = .ok (.iload_n 3, 1) := by decide +kernel
theorem dX19_microsecond_128 : decode cX19_microsecond 128 = .ok (.invokevirtual 796, 3) := by decide +kernel
theorem dX19_microsecond_131 : decode cX19_microsecond 131 = .ok (.iinc 3 1, 3) := by decide +kernel
theorem dX19_microsecond_134 : decode cX19_microsecond 134 = .ok (.goto (-16), 3) := by decide +kernel
theorem dX19_microsecond_137 : decode cX19_microsecond 137 = .ok (.iconst 0, 1) := by decide +kernel
theorem dX19_microsecond_138 : decode cX19_microsecond 138 = .ok (.istore_n 3, 1) := by decide +kernel
theorem dX19_microsecond_139 : decode cX19_microsecond 139 = .ok (.iload_n 3, 1) := by decide +kernel
theorem dX19_microsecond_140 : decode cX19_microsecond 140 = .ok (.aload_n 0, 1) := by decide +kernel
theorem dX19_microsecond_141 : decode cX19_microsecond 141 = .ok (.getfield 448, 3) := by decide +kernel
theorem dX19_microsecond_144 : decode cX19_microsecond 144 = .ok (.if_icmp .ge 55, 3) := by decide +kernel
theorem dX19_microsecond_147 : decode cX19_microsecond 147 = .ok (.aload_n 0, 1) := by decide +kernel
theorem dX19_microsecond_148 : decode cX19_microsecond 148 = .ok (.getfield 177, 3) := by decide +kernel
theorem dX19_microsecond_151 : decode cX19_microsecond 151 = .ok (.iload_n 3, 1) := by decide +kernel
theorem dX19_microsecond_152 : decode cX19_microsecond 152 = .ok (.iconst 1, 1) := by decide +kernel
theorem dX19_microsecond_153 : decode cX19_microsecond 153 = .ok (.iadd, 1) := by decide +kernel
theorem dX19_microsecond_154 : decode cX19_microsecond 154 = .ok (.invokevirtual 791, 3) := by decide +kernel
theorem dX19_microsecond_157 : decode cX19_microsecond 157 = .ok (.lstore 4, 2) := by decide +kernel
theorem dX19_microsecond_159 : decode cX19_microsecond 159 = .ok (.lload 4, 2) := by decide +kernel
theorem dX19_microsecond_161 : decode cX19_microsecond 161 = .ok (.aload_n 0, 1) := by decide +kernel
theorem dX19_microsecond_162 : decode cX19_microsecond 162 = .ok (.getfield 227, 3) := by decide +kernel
theorem dX19_microsecond_165 : decode cX19_microsecond 165 = .ok (.iload_n 3, 1) := by decide +kernel
theorem dX19_microsecond_166 : decode cX19_microsecond 166 = .ok (.laload, 1) := by decide +kernel
theorem dX19_microsecond_167 : decode cX19_microsecond 167 = .ok (.lcmp, 1) := by decide +kernel
theorem dX19_microsecond_168 : decode cX19_microsecond 168 = .ok (.ifCond .le 25, 3) := by decide +kernel
theorem dX19_microsecond_171 : decode cX19_microsecond 171 = .ok (.lload 4, 2) := by decide +kernel
theorem dX19_microsecond_173 : decode cX19_microsecond 173 = .ok (.aload_n 0, 1) := by decide +kernel
theorem dX19_microsecond_174 : decode cX19_microsecond 174 = .ok (.getfield 49, 3) := by decide +kernel
theorem dX19_microsecond_177 : decode cX19_microsecond 177 = .ok (.iload_n 3, 1) := by decide +kernel
theorem dX19_microsecond_178 : decode cX19_microsecond 178 = .ok (.iaload, 1) := by decide +kernel
theorem dX19_microsecond_179 : decode cX19_microsecond 179 = .ok (.iconst 1, 1) := by decide +kernel
theorem dX19_microsecond_180 : decode cX19_microsecond 180 = .ok (.iadd, 1) := by decide +kernel
theorem dX19_microsecond_181 : decode cX19_microsecond 181 = .ok (.i2l, 1) := by decide +kernel
theorem dX19_microsecond_182 : decode cX19_microsecond 182 = .ok (.lrem, 1) := by decide +kernel
theorem dX19_microsecond_183 : decode cX19_microsecond 183 = .ok (.lconst 0, 1) := by decide +kernel
theorem dX19_microsecond_184 : decode cX19_microsecond 184 = .ok (.lcmp, 1) := by decide +kernel
theorem dX19_microsecond_185 : decode cX19_microsecond 185 = .ok (.ifCond .ne 8, 3) := by decide +kernel
theorem dX19_microsecond_188 : decode cX19_microsecond 188 = .ok (.aload_n 0, 1) := by decide +kernel
theorem dX19_microsecond_189 : decode cX19_microsecond 189 = .ok (.iload_n 3, 1) := by decide +kernel
theorem dX19_microsecond_190 : decode cX19_microsecond 190 = .ok (.invokevirtual 799, 3) := by decide +kernel
theorem dX19_microsecond_193 : decode cX19_microsecond 193 = .ok (.iinc 3 1, 3) := by decide +kernel
theorem dX19_microsecond_196 : decode cX19_microsecond 196 = .ok (.goto (-57), 3) := by decide +kernel
theorem dX19_microsecond_199 : decode cX19_microsecond 199 = .ok (.iconst 0, 1) := by decide +kernel
theorem dX19_microsecond_200 : decode cX19_microsecond 200 = .ok (.istore_n 3, 1) := by decide +kernel
theorem dX19_microsecond_201 : decode cX19_microsecond 201 = .ok (.iload_n 3, 1) := by decide +kernel
theorem dX19_microsecond_202 : decode cX19_microsecond 202 = .ok (.aload_n 0, 1) := by decide +kernel
theorem dX19_microsecond_203 : decode cX19_microsecond 203 = .ok (.getfield 558, 3) := by decide +kernel
theorem dX19_microsecond_206 : decode cX19_microsecond 206 = .ok (.if_icmp .ge 68, 3) := by decide +kernel
theorem dX19_microsecond_209 : decode cX19_microsecond 209 = .ok (.aload_n 0, 1) := by decide +kernel
theorem dX19_microsecond_210 : decode cX19_microsecond 210 = .ok (.getfield 600, 3) := by decide +kernel
theorem dX19_microsecond_213 : decode cX19_microsecond 213 = .ok (.i2l, 1) := by decide +kernel
theorem dX19_microsecond_214 : decode cX19_microsecond 214 = .ok (.aload_n 0, 1) := by decide +kernel
theorem dX19_microsecond_215 : decode cX19_microsecond 215 = .ok (.getfield 147, 3) := by decide +kernel
theorem dX19_microsecond_218 : decode cX19_microsecond 218 = .ok (.iload_n 3, 1) := by decide +kernel
theorem dX19_microsecond_219 : decode cX19_microsecond 219 = .ok (.laload, 1) := by decide +kernel
theorem dX19_microsecond_220 : decode cX19_microsecond 220 = .ok (.lsub, 1) := by decide +kernel
theorem dX19_microsecond_221 : decode cX19_microsecond 221 = .ok (.ldc2_w 802, 3) := by decide +kernel
theorem dX19_microsecond_224 : decode cX19_microsecond 224 = .ok (.aload_n 0, 1) := by decide +kernel
theorem dX19_microsecond_225 : decode cX19_microsecond 225 = .ok (.getfield 103, 3) := by decide +kernel
theorem dX19_microsecond_228 : decode cX19_microsecond 228 = .ok (.aload_n 0, 1) := by decide +kernel
theorem dX19_microsecond_229 : decode cX19_microsecond 229 = .ok (.getfield 138, 3) := by decide +kernel
theorem dX19_microsecond_232 : decode cX19_microsecond 232 = .ok (.iload_n 3, 1) := by decide +kernel
theorem dX19_microsecond_233 : decode cX19_microsecond 233 = .ok (.iaload, 1) := by decide +kernel
theorem dX19_microsecond_234 : decode cX19_microsecond 234 = .ok (.iaload, 1) := by decide +kernel
theorem dX19_microsecond_235 : decode cX19_microsecond 235 = .ok (.i2l, 1) := by decide +kernel
theorem dX19_microsecond_236 : decode cX19_microsecond 236 = .ok (.lmul, 1) := by decide +kernel
theorem dX19_microsecond_237 : decode cX19_microsecond 237 = .ok (.lcmp, 1) := by decide +kernel
theorem dX19_microsecond_238 : decode cX19_microsecond 238 = .ok (.ifCond .lt 30, 3) := by decide +kernel
theorem dX19_microsecond_241 : decode cX19_microsecond 241 = .ok (.aload_n 0, 1) := by decide +kernel
theorem dX19_microsecond_242 : decode cX19_microsecond 242 = .ok (.getfield 147, 3) := by decide +kernel
theorem dX19_microsecond_245 : decode cX19_microsecond 245 = .ok (.iload_n 3, 1) := by decide +kernel
theorem dX19_microsecond_246 : decode cX19_microsecond 246 = .ok (.aload_n 0, 1) := by decide +kernel
theorem dX19_microsecond_247 : decode cX19_microsecond 247 = .ok (.getfield 600, 3) := by decide +kernel
theorem dX19_microsecond_250 : decode cX19_microsecond 250 = .ok (.i2l, 1) := by decide +kernel
theorem dX19_microsecond_251 : decode cX19_microsecond 251 = .ok (.lastore, 1) := by decide +kernel
theorem dX19_microsecond_252 : decode cX19_microsecond 252 = .ok (.aload_n 0, 1) := by decide +kernel
theorem dX19_microsecond_253 : decode cX19_microsecond 253 = .ok (.getfield 205, 3) := by decide +kernel
theorem dX19_microsecond_256 : decode cX19_microsecond 256 = .ok (.aload_n 0, 1) := by decide +kernel
theorem dX19_microsecond_257 : decode cX19_microsecond 257 = .ok (.getfield 144, 3) := by decide +kernel
theorem dX19_microsecond_260 : decode cX19_microsecond 260 = .ok (.iload_n 3, 1) := by decide +kernel
theorem dX19_microsecond_261 : decode cX19_microsecond 261 = .ok (.iaload, 1) := by decide +kernel
theorem dX19_microsecond_262 : decode cX19_microsecond 262 = .ok (.iconst 1, 1) := by decide +kernel
theorem dX19_microsecond_263 : decode cX19_microsecond 263 = .ok (.invokevirtual 702, 3) := by decide +kernel
theorem dX19_microsecond_266 : decode cX19_microsecond 266 = .ok (.istore 4, 2) := by decide +kernel
theorem dX19_microsecond_268 : decode cX19_microsecond 268 = .ok (.iinc 3 1, 3) := by decide +kernel
theorem dX19_microsecond_271 : decode cX19_microsecond 271 = .ok (.goto (-70), 3) := by decide +kernel
theorem dX19_microsecond_274 : decode cX19_microsecond 274 = .ok (.aload_n 0, 1) := by decide +kernel
theorem dX19_microsecond_275 : decode cX19_microsecond 275 = .ok (.invokevirtual 804, 3) := by decide +kernel
theorem dX19_microsecond_278 : decode cX19_microsecond 278 = .ok (.return_, 1) := by decide +kernel
theorem cwX19_microsecond : mw_cwV yX19_microsecond cX19_microsecond 6 (none) 0 := ⟨⟨wd_13, wd_3545, by decide +kernel⟩, wd_3544, sl_215⟩
noncomputable def fX19_microsecond_b268 (fu : Nat) (r201 : (Int32 × mwM × mwL) → Option (mwM × mwL)) (v3 : Int32) (M : mwM) (L : mwL) : Option (mwM × mwL) :=
  mlet (v3 + 1) (fun x55 => r201 (x55, M, L))
noncomputable def fX19_microsecond_i201 (fu : Nat) (r201 : (Int32 × mwM × mwL) → Option (mwM × mwL)) (v3 : Int32) (M : mwM) (L : mwL) : Option (mwM × mwL) :=
  (if (M 732 62) ≤ v3 then mb2 (DX19_transferred fu M L) (fun M43 L44 => some (M43, L44)) else mck v3 30 (mck v3 30 (mck (M 775 v3.toNatClampNeg) 40 ((if (lg_cmp (((M 732 83).toInt64) - (L 778 v3.toNatClampNeg)) (3 * ((M 764 (M 775 v3.toNatClampNeg).toNatClampNeg).toInt64))) < 0 then fX19_microsecond_b268 fu r201 v3 M L else mck v3 30 (mlet (mset L 778 (v3.toNatClampNeg) ((M 732 83).toInt64)) (fun L50 => mck v3 30 (mb3 (DX18_event fu (M 777 v3.toNatClampNeg) 1 M L50) (fun r54 M52 L53 => fX19_microsecond_b268 fu r201 v3 M52 L53)))))))))
noncomputable def fX19_microsecond_h201 (fu : Nat) : Nat → (Int32 × mwM × mwL) → Option (mwM × mwL) := mloop (fun r201 s => fX19_microsecond_i201 fu r201 s.1 s.2.1 s.2.2)
noncomputable def fX19_microsecond_b193 (fu : Nat) (r139 : (Int32 × mwM × mwL) → Option (mwM × mwL)) (v3 : Int32) (M : mwM) (L : mwL) : Option (mwM × mwL) :=
  mlet (v3 + 1) (fun x41 => r139 (x41, M, L))
noncomputable def fX19_microsecond_i139 (fu : Nat) (r139 : (Int32 × mwM × mwL) → Option (mwM × mwL)) (v3 : Int32) (M : mwM) (L : mwL) : Option (mwM × mwL) :=
  (if (M 732 24) ≤ v3 then fX19_microsecond_h201 fu fu (0, M, L) else mb3 (DX15_used fu (v3 + 1) M L) (fun r33 M31 L32 => mck v3 12 ((if (lg_cmp r33 (L32 925 v3.toNatClampNeg)) ≤ 0 then fX19_microsecond_b193 fu r139 v3 M31 L32 else mck v3 12 (mnzL (((M31 746 v3.toNatClampNeg) + 1).toInt64) ((if (lg_cmp (r33 - r33 / (((M31 746 v3.toNatClampNeg) + 1).toInt64) * (((M31 746 v3.toNatClampNeg) + 1).toInt64)) 0) = 0 then mb2 (DX19_taskDone fu v3 M31 L32) (fun M39 L40 => fX19_microsecond_b193 fu r139 v3 M39 L40) else fX19_microsecond_b193 fu r139 v3 M31 L32)))))))
noncomputable def fX19_microsecond_h139 (fu : Nat) : Nat → (Int32 × mwM × mwL) → Option (mwM × mwL) := mloop (fun r139 s => fX19_microsecond_i139 fu r139 s.1 s.2.1 s.2.2)
noncomputable def fX19_microsecond_i118 (fu : Nat) (r118 : (Int32 × mwM × mwL) → Option (mwM × mwL)) (v3 : Int32) (M : mwM) (L : mwL) : Option (mwM × mwL) :=
  (if (M 732 19) < v3 then fX19_microsecond_h139 fu fu (0, M, L) else mb2 (DX19_lookAt fu v3 M L) (fun M27 L28 => mlet (v3 + 1) (fun x29 => r118 (x29, M27, L28))))
noncomputable def fX19_microsecond_h118 (fu : Nat) : Nat → (Int32 × mwM × mwL) → Option (mwM × mwL) := mloop (fun r118 s => fX19_microsecond_i118 fu r118 s.1 s.2.1 s.2.2)
noncomputable def fX19_microsecond_i67 (fu : Nat) (r67 : (Int32 × mwM × mwL) → Option (mwM × mwL)) (v2 : Int32) (M : mwM) (L : mwL) : Option (mwM × mwL) :=
  (if (M 732 24) ≤ v2 then mb3 (DX15_run fu 1 M L) (fun r18 M16 L17 => mlet (mset M16 732 83 ((M16 732 83) + 1)) (fun M19 => fX19_microsecond_h118 fu fu (0, M19, L17))) else mb3 (DX15_used fu (v2 + 1) M L) (fun r22 M20 L21 => mck v2 12 (mlet (mset L21 925 (v2.toNatClampNeg) r22) (fun L24 => mlet (v2 + 1) (fun x25 => r67 (x25, M20, L24))))))
noncomputable def fX19_microsecond_h67 (fu : Nat) : Nat → (Int32 × mwM × mwL) → Option (mwM × mwL) := mloop (fun r67 s => fX19_microsecond_i67 fu r67 s.1 s.2.1 s.2.2)
noncomputable def fX19_microsecond_b56 (fu : Nat) (M : mwM) (L : mwL) : Option (mwM × mwL) :=
  mb3 (DX12_run fu 1 M L) (fun r14 M12 L13 => fX19_microsecond_h67 fu fu (0, M12, L13))
noncomputable def fX19_microsecond_b50 (fu : Nat) (r2 : (Int32 × mwM × mwL) → Option (mwM × mwL)) (v1 : Int32) (M : mwM) (L : mwL) : Option (mwM × mwL) :=
  mlet (v1 + 1) (fun x11 => r2 (x11, M, L))
noncomputable def fX19_microsecond_i2 (fu : Nat) (r2 : (Int32 × mwM × mwL) → Option (mwM × mwL)) (v1 : Int32) (M : mwM) (L : mwL) : Option (mwM × mwL) :=
  (if (M 732 67) ≤ v1 then fX19_microsecond_b56 fu M L else (if (M 732 83) ≤ 0 then fX19_microsecond_b56 fu M L else mck v1 40 (mnz (M 782 v1.toNatClampNeg) ((if ((M 732 83) - (M 732 83) / (M 782 v1.toNatClampNeg) * (M 782 v1.toNatClampNeg)) = 0 then mck v1 40 (mck (M 779 v1.toNatClampNeg) 6 ((if (M 923 (M 779 v1.toNatClampNeg).toNatClampNeg) = 0 then mb2 (DX19_send fu v1 M L) (fun M9 L10 => fX19_microsecond_b50 fu r2 v1 M9 L10) else fX19_microsecond_b50 fu r2 v1 M L))) else fX19_microsecond_b50 fu r2 v1 M L)))))
noncomputable def fX19_microsecond_h2 (fu : Nat) : Nat → (Int32 × mwM × mwL) → Option (mwM × mwL) := mloop (fun r2 s => fX19_microsecond_i2 fu r2 s.1 s.2.1 s.2.2)
noncomputable def DX19_microsecond (fu : Nat) (M : mwM) (L : mwL) : Option (mwM × mwL) :=
  fX19_microsecond_h2 fu fu (0, M, L)
set_option maxHeartbeats 4000000 in
set_option maxRecDepth 100000 in
theorem tX19_microsecond (l : Launch) (G : mwG) (ad : Nat → Nat) (fu : Nat) (M : mwM) (L : mwL) {M0 : mwM} {L0 : mwL} (hD : DX19_microsecond fu M L = some (M0, L0)) : Met l yX19_microsecond (Cond.code yX19_microsecond cX19_microsecond 6 (none) :: GT) ({ frames := 9, cells := 0, slots := 0, locals := 229 }) (mw_Pre G ad NF TF FF M L [.ref (ad 732)]) (mw_Qv G ad NF TF FF (mw_eqV M0 L0)) 0 0 (mw_fr G) := by
  refine mw_enter (by decide) (Nat.le_of_ble_eq_true rfl) ?_
  intro p e s m below meth c ls C hr hlocks hnm hw hl
  have hl : lv_has ls 6 [(0, .ref (ad 732))] := hl
  have hh201 : ∀ (f : Nat) (v3 : Int32) (M : mwM) (L : mwL) (H : Heap) (locs : List Loc) (ls : Array Slot), fX19_microsecond_h201 fu f (v3, M, L) = some (M0, L0) → mw_W G ad NF TF FF M L H locs → lv_has ls 6 [(0, .ref (ad 732)), (3, .int v3)] → W p l e ({ frames := 9, cells := 0, slots := 0, locals := 229 }) s m [.ref (ad 732)].toArray below meth c H locs 0 0 (MQ below (mw_Qv G ad NF TF FF (mw_eqV M0 L0)) [.ref (ad 732)].toArray s 0 0 (mw_fr G)) (F0 m 201 ls []) := by
    intro f
    induction f with
    | zero => intro v3 M L H locs ls hD; cases hD
    | succ f201 ih201 =>
      intro v3 M L H locs ls hD hw hl
      replace hD : fX19_microsecond_i201 fu (fX19_microsecond_h201 fu f201) v3 M L = some (M0, L0) := hD
      have hb268 : ∀ (v3 : Int32) (M : mwM) (L : mwL) (H : Heap) (locs : List Loc) (ls : Array Slot), fX19_microsecond_b268 fu (fX19_microsecond_h201 fu f201) v3 M L = some (M0, L0) → mw_W G ad NF TF FF M L H locs → lv_has ls 6 [(0, .ref (ad 732)), (3, .int v3)] → W p l e ({ frames := 9, cells := 0, slots := 0, locals := 229 }) s m [.ref (ad 732)].toArray below meth c H locs 0 0 (MQ below (mw_Qv G ad NF TF FF (mw_eqV M0 L0)) [.ref (ad 732)].toArray s 0 0 (mw_fr G)) (F0 m 268 ls []) := by
        intro v3 M L H locs ls hD hw hl
        unfold fX19_microsecond_b268 at hD
        obtain ⟨x55, ex55, hD⟩ := g_let hD
        refine lv_iinc (v := x55) (lv' := [(3, .int x55), (0, .ref (ad 732))]) C.1.1 C.1.2.1 dX19_microsecond_268 hl (k := 1) rfl (by rw [ex55]; rfl) (by decide) rfl (fun ls hl => ?_)
        refine lv_goto (tgt := 201) C.1.1 C.1.2.1 dX19_microsecond_271 (by decide) ?_
        exact ih201 x55 M L _ _ ls hD hw (lv_sub hl [1, 0] rfl)
      unfold fX19_microsecond_i201 at hD
      refine lv_iload_n C.1.1 C.1.2.1 dX19_microsecond_201 rfl (lv_at hl 1 rfl) ?_
      refine lv_aload_n C.1.1 C.1.2.1 dX19_microsecond_202 rfl (lv_at hl 0 rfl) ?_
      refine mr_getI C hw kc_19 62 (by decide) tf_732 wd_2843 dX19_microsecond_203 (by decide) rfl ?_
      refine lv_icmp_ge (tgt := 274) C.1.1 C.1.2.1 dX19_microsecond_206 (by decide) (fun c42 => ?_) (fun c42 => ?_)
      · replace hD := g_pos c42 hD
        refine lv_aload_n C.1.1 C.1.2.1 dX19_microsecond_274 rfl (lv_at hl 0 rfl) ?_
        obtain ⟨M43, L44, h1, hD⟩ := g_b2 hD
        refine md_cvV (As := []) (rest := []) C hw (tX19_transferred l G ad fu M L h1) kc_19 (by decide) tf_732 wd_4147 cwX19_transferred ⟨Nat.le_of_ble_eq_true rfl, Nat.le_of_ble_eq_true rfl⟩ rfl hl.1 (Nat.le_of_ble_eq_true rfl) dX19_microsecond_275 rfl rfl ⟨Nat.zero_le _, Nat.zero_le _⟩ rfl (fun H locs hw => ?_)
        exact mr_vret C hr hlocks hw (Option.some.inj hD) dX19_microsecond_278
      · replace hD := g_neg c42 hD
        refine lv_aload_n C.1.1 C.1.2.1 dX19_microsecond_209 rfl (lv_at hl 0 rfl) ?_
        refine mr_getI C hw kc_19 83 (by decide) tf_732 wd_2864 dX19_microsecond_210 (by decide) rfl ?_
        refine lv_i2l C.1.1 C.1.2.1 dX19_microsecond_213 rfl ?_
        refine lv_aload_n C.1.1 C.1.2.1 dX19_microsecond_214 rfl (lv_at hl 0 rfl) ?_
        refine mr_getR C hw kc_19 66 (by decide) tf_732 ff_732_66 wd_2847 dX19_microsecond_215 (by decide) rfl ?_
        refine lv_iload_n C.1.1 C.1.2.1 dX19_microsecond_218 rfl (lv_at hl 1 rfl) ?_
        obtain ⟨q45, hD⟩ := g_ck hD
        refine mr_lald C hw (by decide) tf_778 q45 dX19_microsecond_219 ?_
        refine lv_lsub C.1.1 C.1.2.1 dX19_microsecond_220 ?_
        refine lv_ldc2 (v := 3) C.1.1 C.1.2.1 C.1.2.2.2.1 (C.1.2.2.2.2 _ wd_4146) dX19_microsecond_221 ?_
        refine lv_aload_n C.1.1 C.1.2.1 dX19_microsecond_224 rfl (lv_at hl 0 rfl) ?_
        refine mr_getR C hw kc_19 50 (by decide) tf_732 ff_732_50 wd_2831 dX19_microsecond_225 (by decide) rfl ?_
        refine lv_aload_n C.1.1 C.1.2.1 dX19_microsecond_228 rfl (lv_at hl 0 rfl) ?_
        refine mr_getR C hw kc_19 63 (by decide) tf_732 ff_732_63 wd_2844 dX19_microsecond_229 (by decide) rfl ?_
        refine lv_iload_n C.1.1 C.1.2.1 dX19_microsecond_232 rfl (lv_at hl 1 rfl) ?_
        obtain ⟨q46, hD⟩ := g_ck hD
        refine mr_iald C hw (by decide) tf_775 q46 dX19_microsecond_233 ?_
        obtain ⟨q47, hD⟩ := g_ck hD
        refine mr_iald C hw (by decide) tf_764 q47 dX19_microsecond_234 ?_
        refine lv_i2l C.1.1 C.1.2.1 dX19_microsecond_235 rfl ?_
        refine lv_lmul C.1.1 C.1.2.1 dX19_microsecond_236 ?_
        refine W.lcmp C.1.1 C.1.2.1 dX19_microsecond_237 ?_
        refine lv_if_lt (tgt := 268) C.1.1 C.1.2.1 dX19_microsecond_238 (by decide) (fun c48 => ?_) (fun c48 => ?_)
        · replace hD := g_pos c48 hD
          exact hb268 v3 M L _ _ ls hD hw (lv_sub hl [0, 1] rfl)
        · replace hD := g_neg c48 hD
          refine lv_aload_n C.1.1 C.1.2.1 dX19_microsecond_241 rfl (lv_at hl 0 rfl) ?_
          refine mr_getR C hw kc_19 66 (by decide) tf_732 ff_732_66 wd_2847 dX19_microsecond_242 (by decide) rfl ?_
          refine lv_iload_n C.1.1 C.1.2.1 dX19_microsecond_245 rfl (lv_at hl 1 rfl) ?_
          refine lv_aload_n C.1.1 C.1.2.1 dX19_microsecond_246 rfl (lv_at hl 0 rfl) ?_
          refine mr_getI C hw kc_19 83 (by decide) tf_732 wd_2864 dX19_microsecond_247 (by decide) rfl ?_
          refine lv_i2l C.1.1 C.1.2.1 dX19_microsecond_250 rfl ?_
          obtain ⟨q49, hD⟩ := g_ck hD
          obtain ⟨L50, eL50, hD⟩ := g_let hD
          refine mr_last C hw (by decide) tf_778 q49 dX19_microsecond_251 (fun H locs hw => ?_)
          replace hw : mw_W G ad NF TF FF M L50 H locs := by rw [eL50]; exact hw
          refine lv_aload_n C.1.1 C.1.2.1 dX19_microsecond_252 rfl (lv_at hl 0 rfl) ?_
          refine mr_getR C hw kc_19 80 (by decide) tf_732 ff_732_80 wd_2861 dX19_microsecond_253 (by decide) rfl ?_
          refine lv_aload_n C.1.1 C.1.2.1 dX19_microsecond_256 rfl (lv_at hl 0 rfl) ?_
          refine mr_getR C hw kc_19 65 (by decide) tf_732 ff_732_65 wd_2846 dX19_microsecond_257 (by decide) rfl ?_
          refine lv_iload_n C.1.1 C.1.2.1 dX19_microsecond_260 rfl (lv_at hl 1 rfl) ?_
          obtain ⟨q51, hD⟩ := g_ck hD
          refine mr_iald C hw (by decide) tf_777 q51 dX19_microsecond_261 ?_
          refine lv_iconst (v := 1) C.1.1 C.1.2.1 dX19_microsecond_262 (by decide) ?_
          obtain ⟨r54, M52, L53, h1, hD⟩ := g_b3 hD
          refine md_cvI (As := [.int (M 777 v3.toNatClampNeg), .int 1]) (rest := []) C hw (tX18_event l G ad fu (M 777 v3.toNatClampNeg) 1 M L50 h1) kc_18 (by decide) tf_902 wd_3880 cwX18_event ⟨Nat.le_of_ble_eq_true rfl, Nat.le_of_ble_eq_true rfl⟩ rfl hl.1 (Nat.le_of_ble_eq_true rfl) dX19_microsecond_263 rfl rfl ⟨Nat.zero_le _, Nat.zero_le _⟩ rfl (fun H locs hw => ?_)
          refine lv_istore (lv' := [(4, .int r54), (0, .ref (ad 732)), (3, .int v3)]) C.1.1 C.1.2.1 dX19_microsecond_266 hl (by decide) rfl (fun ls hl => ?_)
          exact hb268 v3 M52 L53 _ _ ls hD hw (lv_sub hl [1, 2] rfl)
  have hh139 : ∀ (f : Nat) (v3 : Int32) (M : mwM) (L : mwL) (H : Heap) (locs : List Loc) (ls : Array Slot), fX19_microsecond_h139 fu f (v3, M, L) = some (M0, L0) → mw_W G ad NF TF FF M L H locs → lv_has ls 6 [(0, .ref (ad 732)), (3, .int v3)] → W p l e ({ frames := 9, cells := 0, slots := 0, locals := 229 }) s m [.ref (ad 732)].toArray below meth c H locs 0 0 (MQ below (mw_Qv G ad NF TF FF (mw_eqV M0 L0)) [.ref (ad 732)].toArray s 0 0 (mw_fr G)) (F0 m 139 ls []) := by
    intro f
    induction f with
    | zero => intro v3 M L H locs ls hD; cases hD
    | succ f139 ih139 =>
      intro v3 M L H locs ls hD hw hl
      replace hD : fX19_microsecond_i139 fu (fX19_microsecond_h139 fu f139) v3 M L = some (M0, L0) := hD
      have hb193 : ∀ (v3 : Int32) (M : mwM) (L : mwL) (H : Heap) (locs : List Loc) (ls : Array Slot), fX19_microsecond_b193 fu (fX19_microsecond_h139 fu f139) v3 M L = some (M0, L0) → mw_W G ad NF TF FF M L H locs → lv_has ls 6 [(0, .ref (ad 732)), (3, .int v3)] → W p l e ({ frames := 9, cells := 0, slots := 0, locals := 229 }) s m [.ref (ad 732)].toArray below meth c H locs 0 0 (MQ below (mw_Qv G ad NF TF FF (mw_eqV M0 L0)) [.ref (ad 732)].toArray s 0 0 (mw_fr G)) (F0 m 193 ls []) := by
        intro v3 M L H locs ls hD hw hl
        unfold fX19_microsecond_b193 at hD
        obtain ⟨x41, ex41, hD⟩ := g_let hD
        refine lv_iinc (v := x41) (lv' := [(3, .int x41), (0, .ref (ad 732))]) C.1.1 C.1.2.1 dX19_microsecond_193 hl (k := 1) rfl (by rw [ex41]; rfl) (by decide) rfl (fun ls hl => ?_)
        refine lv_goto (tgt := 139) C.1.1 C.1.2.1 dX19_microsecond_196 (by decide) ?_
        exact ih139 x41 M L _ _ ls hD hw (lv_sub hl [1, 0] rfl)
      unfold fX19_microsecond_i139 at hD
      refine lv_iload_n C.1.1 C.1.2.1 dX19_microsecond_139 rfl (lv_at hl 1 rfl) ?_
      refine lv_aload_n C.1.1 C.1.2.1 dX19_microsecond_140 rfl (lv_at hl 0 rfl) ?_
      refine mr_getI C hw kc_19 24 (by decide) tf_732 wd_2805 dX19_microsecond_141 (by decide) rfl ?_
      refine lv_icmp_ge (tgt := 199) C.1.1 C.1.2.1 dX19_microsecond_144 (by decide) (fun c30 => ?_) (fun c30 => ?_)
      · replace hD := g_pos c30 hD
        refine lv_iconst (v := 0) C.1.1 C.1.2.1 dX19_microsecond_199 (by decide) ?_
        refine lv_istore_n (lv' := [(3, .int 0), (0, .ref (ad 732))]) C.1.1 C.1.2.1 dX19_microsecond_200 rfl hl (by decide) rfl (fun ls hl => ?_)
        exact hh201 fu 0 M L _ _ ls hD hw (lv_sub hl [1, 0] rfl)
      · replace hD := g_neg c30 hD
        refine lv_aload_n C.1.1 C.1.2.1 dX19_microsecond_147 rfl (lv_at hl 0 rfl) ?_
        refine mr_getR C hw kc_19 76 (by decide) tf_732 ff_732_76 wd_2857 dX19_microsecond_148 (by decide) rfl ?_
        refine lv_iload_n C.1.1 C.1.2.1 dX19_microsecond_151 rfl (lv_at hl 1 rfl) ?_
        refine lv_iconst (v := 1) C.1.1 C.1.2.1 dX19_microsecond_152 (by decide) ?_
        refine lv_iadd C.1.1 C.1.2.1 dX19_microsecond_153 ?_
        obtain ⟨r33, M31, L32, h1, hD⟩ := g_b3 hD
        refine md_cvL (As := [.int (v3 + 1)]) (rest := []) C hw (tX15_used l G ad fu (v3 + 1) M L h1) kc_15 (by decide) tf_787 wd_3768 cwX15_used ⟨Nat.le_of_ble_eq_true rfl, Nat.le_of_ble_eq_true rfl⟩ rfl hl.1 (Nat.le_of_ble_eq_true rfl) dX19_microsecond_154 rfl rfl ⟨Nat.zero_le _, Nat.zero_le _⟩ rfl (fun H locs hw => ?_)
        refine lv_lstore (lv' := [(4, .long r33), (0, .ref (ad 732)), (3, .int v3)]) C.1.1 C.1.2.1 dX19_microsecond_157 hl (by decide) rfl (fun ls hl => ?_)
        refine lv_lload C.1.1 C.1.2.1 dX19_microsecond_159 (lv_at hl 0 rfl) ?_
        refine lv_aload_n C.1.1 C.1.2.1 dX19_microsecond_161 rfl (lv_at hl 1 rfl) ?_
        refine mr_getR C hw kc_19 86 (by decide) tf_732 ff_732_86 wd_2867 dX19_microsecond_162 (by decide) rfl ?_
        refine lv_iload_n C.1.1 C.1.2.1 dX19_microsecond_165 rfl (lv_at hl 2 rfl) ?_
        obtain ⟨q34, hD⟩ := g_ck hD
        refine mr_lald C hw (by decide) tf_925 q34 dX19_microsecond_166 ?_
        refine W.lcmp C.1.1 C.1.2.1 dX19_microsecond_167 ?_
        refine lv_if_le (tgt := 193) C.1.1 C.1.2.1 dX19_microsecond_168 (by decide) (fun c35 => ?_) (fun c35 => ?_)
        · replace hD := g_pos c35 hD
          exact hb193 v3 M31 L32 _ _ ls hD hw (lv_sub hl [1, 2] rfl)
        · replace hD := g_neg c35 hD
          refine lv_lload C.1.1 C.1.2.1 dX19_microsecond_171 (lv_at hl 0 rfl) ?_
          refine lv_aload_n C.1.1 C.1.2.1 dX19_microsecond_173 rfl (lv_at hl 1 rfl) ?_
          refine mr_getR C hw kc_19 30 (by decide) tf_732 ff_732_30 wd_2811 dX19_microsecond_174 (by decide) rfl ?_
          refine lv_iload_n C.1.1 C.1.2.1 dX19_microsecond_177 rfl (lv_at hl 2 rfl) ?_
          obtain ⟨q36, hD⟩ := g_ck hD
          refine mr_iald C hw (by decide) tf_746 q36 dX19_microsecond_178 ?_
          refine lv_iconst (v := 1) C.1.1 C.1.2.1 dX19_microsecond_179 (by decide) ?_
          refine lv_iadd C.1.1 C.1.2.1 dX19_microsecond_180 ?_
          refine lv_i2l C.1.1 C.1.2.1 dX19_microsecond_181 rfl ?_
          obtain ⟨q37, hD⟩ := g_nzL hD
          refine lv_lrem C.1.1 C.1.2.1 dX19_microsecond_182 q37 ?_
          refine lv_lconst (v := 0) C.1.1 C.1.2.1 dX19_microsecond_183 (by decide) ?_
          refine W.lcmp C.1.1 C.1.2.1 dX19_microsecond_184 ?_
          refine lv_if_ne (tgt := 193) C.1.1 C.1.2.1 dX19_microsecond_185 (by decide) (fun c38 => ?_) (fun c38 => ?_)
          · replace hD := g_neg c38 hD
            exact hb193 v3 M31 L32 _ _ ls hD hw (lv_sub hl [1, 2] rfl)
          · replace hD := g_pos c38 hD
            refine lv_aload_n C.1.1 C.1.2.1 dX19_microsecond_188 rfl (lv_at hl 1 rfl) ?_
            refine lv_iload_n C.1.1 C.1.2.1 dX19_microsecond_189 rfl (lv_at hl 2 rfl) ?_
            obtain ⟨M39, L40, h1, hD⟩ := g_b2 hD
            refine md_cvV (As := [.int v3]) (rest := []) C hw (tX19_taskDone l G ad fu v3 M31 L32 h1) kc_19 (by decide) tf_732 wd_4058 cwX19_taskDone ⟨Nat.le_of_ble_eq_true rfl, Nat.le_of_ble_eq_true rfl⟩ rfl hl.1 (Nat.le_of_ble_eq_true rfl) dX19_microsecond_190 rfl rfl ⟨Nat.zero_le _, Nat.zero_le _⟩ rfl (fun H locs hw => ?_)
            exact hb193 v3 M39 L40 _ _ ls hD hw (lv_sub hl [1, 2] rfl)
  have hh118 : ∀ (f : Nat) (v3 : Int32) (M : mwM) (L : mwL) (H : Heap) (locs : List Loc) (ls : Array Slot), fX19_microsecond_h118 fu f (v3, M, L) = some (M0, L0) → mw_W G ad NF TF FF M L H locs → lv_has ls 6 [(0, .ref (ad 732)), (3, .int v3)] → W p l e ({ frames := 9, cells := 0, slots := 0, locals := 229 }) s m [.ref (ad 732)].toArray below meth c H locs 0 0 (MQ below (mw_Qv G ad NF TF FF (mw_eqV M0 L0)) [.ref (ad 732)].toArray s 0 0 (mw_fr G)) (F0 m 118 ls []) := by
    intro f
    induction f with
    | zero => intro v3 M L H locs ls hD; cases hD
    | succ f118 ih118 =>
      intro v3 M L H locs ls hD hw hl
      replace hD : fX19_microsecond_i118 fu (fX19_microsecond_h118 fu f118) v3 M L = some (M0, L0) := hD
      unfold fX19_microsecond_i118 at hD
      refine lv_iload_n C.1.1 C.1.2.1 dX19_microsecond_118 rfl (lv_at hl 1 rfl) ?_
      refine lv_aload_n C.1.1 C.1.2.1 dX19_microsecond_119 rfl (lv_at hl 0 rfl) ?_
      refine mr_getI C hw kc_19 19 (by decide) tf_732 wd_2800 dX19_microsecond_120 (by decide) rfl ?_
      refine lv_icmp_gt (tgt := 137) C.1.1 C.1.2.1 dX19_microsecond_123 (by decide) (fun c26 => ?_) (fun c26 => ?_)
      · replace hD := g_pos c26 hD
        refine lv_iconst (v := 0) C.1.1 C.1.2.1 dX19_microsecond_137 (by decide) ?_
        refine lv_istore_n (lv' := [(3, .int 0), (0, .ref (ad 732))]) C.1.1 C.1.2.1 dX19_microsecond_138 rfl hl (by decide) rfl (fun ls hl => ?_)
        exact hh139 fu 0 M L _ _ ls hD hw (lv_sub hl [1, 0] rfl)
      · replace hD := g_neg c26 hD
        refine lv_aload_n C.1.1 C.1.2.1 dX19_microsecond_126 rfl (lv_at hl 0 rfl) ?_
        refine lv_iload_n C.1.1 C.1.2.1 dX19_microsecond_127 rfl (lv_at hl 1 rfl) ?_
        obtain ⟨M27, L28, h1, hD⟩ := g_b2 hD
        refine md_cvV (As := [.int v3]) (rest := []) C hw (tX19_lookAt l G ad fu v3 M L h1) kc_19 (by decide) tf_732 wd_3854 cwX19_lookAt ⟨Nat.le_of_ble_eq_true rfl, Nat.le_of_ble_eq_true rfl⟩ rfl hl.1 (Nat.le_of_ble_eq_true rfl) dX19_microsecond_128 rfl rfl ⟨Nat.zero_le _, Nat.zero_le _⟩ rfl (fun H locs hw => ?_)
        obtain ⟨x29, ex29, hD⟩ := g_let hD
        refine lv_iinc (v := x29) (lv' := [(3, .int x29), (0, .ref (ad 732))]) C.1.1 C.1.2.1 dX19_microsecond_131 hl (k := 1) rfl (by rw [ex29]; rfl) (by decide) rfl (fun ls hl => ?_)
        refine lv_goto (tgt := 118) C.1.1 C.1.2.1 dX19_microsecond_134 (by decide) ?_
        exact ih118 x29 M27 L28 _ _ ls hD hw (lv_sub hl [1, 0] rfl)
  have hh67 : ∀ (f : Nat) (v2 : Int32) (M : mwM) (L : mwL) (H : Heap) (locs : List Loc) (ls : Array Slot), fX19_microsecond_h67 fu f (v2, M, L) = some (M0, L0) → mw_W G ad NF TF FF M L H locs → lv_has ls 6 [(0, .ref (ad 732)), (2, .int v2)] → W p l e ({ frames := 9, cells := 0, slots := 0, locals := 229 }) s m [.ref (ad 732)].toArray below meth c H locs 0 0 (MQ below (mw_Qv G ad NF TF FF (mw_eqV M0 L0)) [.ref (ad 732)].toArray s 0 0 (mw_fr G)) (F0 m 67 ls []) := by
    intro f
    induction f with
    | zero => intro v2 M L H locs ls hD; cases hD
    | succ f67 ih67 =>
      intro v2 M L H locs ls hD hw hl
      replace hD : fX19_microsecond_i67 fu (fX19_microsecond_h67 fu f67) v2 M L = some (M0, L0) := hD
      unfold fX19_microsecond_i67 at hD
      refine lv_iload_n C.1.1 C.1.2.1 dX19_microsecond_67 rfl (lv_at hl 1 rfl) ?_
      refine lv_aload_n C.1.1 C.1.2.1 dX19_microsecond_68 rfl (lv_at hl 0 rfl) ?_
      refine mr_getI C hw kc_19 24 (by decide) tf_732 wd_2805 dX19_microsecond_69 (by decide) rfl ?_
      refine lv_icmp_ge (tgt := 97) C.1.1 C.1.2.1 dX19_microsecond_72 (by decide) (fun c15 => ?_) (fun c15 => ?_)
      · replace hD := g_pos c15 hD
        refine lv_aload_n C.1.1 C.1.2.1 dX19_microsecond_97 rfl (lv_at hl 0 rfl) ?_
        refine mr_getR C hw kc_19 76 (by decide) tf_732 ff_732_76 wd_2857 dX19_microsecond_98 (by decide) rfl ?_
        refine lv_lconst (v := 1) C.1.1 C.1.2.1 dX19_microsecond_101 (by decide) ?_
        obtain ⟨r18, M16, L17, h1, hD⟩ := g_b3 hD
        refine md_cvI (As := [.long 1]) (rest := []) C hw (tX15_run l G ad fu 1 M L h1) kc_15 (by decide) tf_787 wd_3773 cwX15_run ⟨Nat.le_of_ble_eq_true rfl, Nat.le_of_ble_eq_true rfl⟩ rfl hl.1 (Nat.le_of_ble_eq_true rfl) dX19_microsecond_102 rfl rfl ⟨Nat.zero_le _, Nat.zero_le _⟩ rfl (fun H locs hw => ?_)
        refine lv_istore_n (lv' := [(2, .int r18), (0, .ref (ad 732))]) C.1.1 C.1.2.1 dX19_microsecond_105 rfl hl (by decide) rfl (fun ls hl => ?_)
        refine lv_aload_n C.1.1 C.1.2.1 dX19_microsecond_106 rfl (lv_at hl 1 rfl) ?_
        refine lv_dup C.1.1 C.1.2.1 dX19_microsecond_107 rfl ?_
        refine mr_getI C hw kc_19 83 (by decide) tf_732 wd_2864 dX19_microsecond_108 (by decide) rfl ?_
        refine lv_iconst (v := 1) C.1.1 C.1.2.1 dX19_microsecond_111 (by decide) ?_
        refine lv_iadd C.1.1 C.1.2.1 dX19_microsecond_112 ?_
        obtain ⟨M19, eM19, hD⟩ := g_let hD
        refine mr_putI C hw kc_19 83 (by decide) tf_732 wd_2864 dX19_microsecond_113 (by decide) rfl rfl rfl rfl (fun H locs hw => ?_)
        replace hw : mw_W G ad NF TF FF M19 L17 H locs := by rw [eM19]; exact hw
        refine lv_iconst (v := 0) C.1.1 C.1.2.1 dX19_microsecond_116 (by decide) ?_
        refine lv_istore_n (lv' := [(3, .int 0), (2, .int r18), (0, .ref (ad 732))]) C.1.1 C.1.2.1 dX19_microsecond_117 rfl hl (by decide) rfl (fun ls hl => ?_)
        exact hh118 fu 0 M19 L17 _ _ ls hD hw (lv_sub hl [2, 0] rfl)
      · replace hD := g_neg c15 hD
        refine lv_aload_n C.1.1 C.1.2.1 dX19_microsecond_75 rfl (lv_at hl 0 rfl) ?_
        refine mr_getR C hw kc_19 86 (by decide) tf_732 ff_732_86 wd_2867 dX19_microsecond_76 (by decide) rfl ?_
        refine lv_iload_n C.1.1 C.1.2.1 dX19_microsecond_79 rfl (lv_at hl 1 rfl) ?_
        refine lv_aload_n C.1.1 C.1.2.1 dX19_microsecond_80 rfl (lv_at hl 0 rfl) ?_
        refine mr_getR C hw kc_19 76 (by decide) tf_732 ff_732_76 wd_2857 dX19_microsecond_81 (by decide) rfl ?_
        refine lv_iload_n C.1.1 C.1.2.1 dX19_microsecond_84 rfl (lv_at hl 1 rfl) ?_
        refine lv_iconst (v := 1) C.1.1 C.1.2.1 dX19_microsecond_85 (by decide) ?_
        refine lv_iadd C.1.1 C.1.2.1 dX19_microsecond_86 ?_
        obtain ⟨r22, M20, L21, h1, hD⟩ := g_b3 hD
        refine md_cvL (As := [.int (v2 + 1)]) (rest := [.int v2, .ref (ad 925)]) C hw (tX15_used l G ad fu (v2 + 1) M L h1) kc_15 (by decide) tf_787 wd_3768 cwX15_used ⟨Nat.le_of_ble_eq_true rfl, Nat.le_of_ble_eq_true rfl⟩ rfl hl.1 (Nat.le_of_ble_eq_true rfl) dX19_microsecond_87 rfl rfl ⟨Nat.zero_le _, Nat.zero_le _⟩ rfl (fun H locs hw => ?_)
        obtain ⟨q23, hD⟩ := g_ck hD
        obtain ⟨L24, eL24, hD⟩ := g_let hD
        refine mr_last C hw (by decide) tf_925 q23 dX19_microsecond_90 (fun H locs hw => ?_)
        replace hw : mw_W G ad NF TF FF M20 L24 H locs := by rw [eL24]; exact hw
        obtain ⟨x25, ex25, hD⟩ := g_let hD
        refine lv_iinc (v := x25) (lv' := [(2, .int x25), (0, .ref (ad 732))]) C.1.1 C.1.2.1 dX19_microsecond_91 hl (k := 1) rfl (by rw [ex25]; rfl) (by decide) rfl (fun ls hl => ?_)
        refine lv_goto (tgt := 67) C.1.1 C.1.2.1 dX19_microsecond_94 (by decide) ?_
        exact ih67 x25 M20 L24 _ _ ls hD hw (lv_sub hl [1, 0] rfl)
  have hb56 : ∀ (M : mwM) (L : mwL) (H : Heap) (locs : List Loc) (ls : Array Slot), fX19_microsecond_b56 fu M L = some (M0, L0) → mw_W G ad NF TF FF M L H locs → lv_has ls 6 [(0, .ref (ad 732))] → W p l e ({ frames := 9, cells := 0, slots := 0, locals := 229 }) s m [.ref (ad 732)].toArray below meth c H locs 0 0 (MQ below (mw_Qv G ad NF TF FF (mw_eqV M0 L0)) [.ref (ad 732)].toArray s 0 0 (mw_fr G)) (F0 m 56 ls []) := by
    intro M L H locs ls hD hw hl
    unfold fX19_microsecond_b56 at hD
    refine lv_aload_n C.1.1 C.1.2.1 dX19_microsecond_56 rfl (lv_at hl 0 rfl) ?_
    refine mr_getR C hw kc_19 77 (by decide) tf_732 ff_732_77 wd_2858 dX19_microsecond_57 (by decide) rfl ?_
    refine lv_iconst (v := 1) C.1.1 C.1.2.1 dX19_microsecond_60 (by decide) ?_
    obtain ⟨r14, M12, L13, h1, hD⟩ := g_b3 hD
    refine md_cvI (As := [.int 1]) (rest := []) C hw (tX12_run l G ad fu 1 M L h1) kc_12 (by decide) tf_821 wd_3642 cwX12_run ⟨Nat.le_of_ble_eq_true rfl, Nat.le_of_ble_eq_true rfl⟩ rfl hl.1 (Nat.le_of_ble_eq_true rfl) dX19_microsecond_61 rfl rfl ⟨Nat.zero_le _, Nat.zero_le _⟩ rfl (fun H locs hw => ?_)
    refine lv_istore_n (lv' := [(1, .int r14), (0, .ref (ad 732))]) C.1.1 C.1.2.1 dX19_microsecond_64 rfl hl (by decide) rfl (fun ls hl => ?_)
    refine lv_iconst (v := 0) C.1.1 C.1.2.1 dX19_microsecond_65 (by decide) ?_
    refine lv_istore_n (lv' := [(2, .int 0), (1, .int r14), (0, .ref (ad 732))]) C.1.1 C.1.2.1 dX19_microsecond_66 rfl hl (by decide) rfl (fun ls hl => ?_)
    exact hh67 fu 0 M12 L13 _ _ ls hD hw (lv_sub hl [2, 0] rfl)
  have hh2 : ∀ (f : Nat) (v1 : Int32) (M : mwM) (L : mwL) (H : Heap) (locs : List Loc) (ls : Array Slot), fX19_microsecond_h2 fu f (v1, M, L) = some (M0, L0) → mw_W G ad NF TF FF M L H locs → lv_has ls 6 [(0, .ref (ad 732)), (1, .int v1)] → W p l e ({ frames := 9, cells := 0, slots := 0, locals := 229 }) s m [.ref (ad 732)].toArray below meth c H locs 0 0 (MQ below (mw_Qv G ad NF TF FF (mw_eqV M0 L0)) [.ref (ad 732)].toArray s 0 0 (mw_fr G)) (F0 m 2 ls []) := by
    intro f
    induction f with
    | zero => intro v1 M L H locs ls hD; cases hD
    | succ f2 ih2 =>
      intro v1 M L H locs ls hD hw hl
      replace hD : fX19_microsecond_i2 fu (fX19_microsecond_h2 fu f2) v1 M L = some (M0, L0) := hD
      have hb50 : ∀ (v1 : Int32) (M : mwM) (L : mwL) (H : Heap) (locs : List Loc) (ls : Array Slot), fX19_microsecond_b50 fu (fX19_microsecond_h2 fu f2) v1 M L = some (M0, L0) → mw_W G ad NF TF FF M L H locs → lv_has ls 6 [(0, .ref (ad 732)), (1, .int v1)] → W p l e ({ frames := 9, cells := 0, slots := 0, locals := 229 }) s m [.ref (ad 732)].toArray below meth c H locs 0 0 (MQ below (mw_Qv G ad NF TF FF (mw_eqV M0 L0)) [.ref (ad 732)].toArray s 0 0 (mw_fr G)) (F0 m 50 ls []) := by
        intro v1 M L H locs ls hD hw hl
        unfold fX19_microsecond_b50 at hD
        obtain ⟨x11, ex11, hD⟩ := g_let hD
        refine lv_iinc (v := x11) (lv' := [(1, .int x11), (0, .ref (ad 732))]) C.1.1 C.1.2.1 dX19_microsecond_50 hl (k := 1) rfl (by rw [ex11]; rfl) (by decide) rfl (fun ls hl => ?_)
        refine lv_goto (tgt := 2) C.1.1 C.1.2.1 dX19_microsecond_53 (by decide) ?_
        exact ih2 x11 M L _ _ ls hD hw (lv_sub hl [1, 0] rfl)
      unfold fX19_microsecond_i2 at hD
      refine lv_iload_n C.1.1 C.1.2.1 dX19_microsecond_2 rfl (lv_at hl 1 rfl) ?_
      refine lv_aload_n C.1.1 C.1.2.1 dX19_microsecond_3 rfl (lv_at hl 0 rfl) ?_
      refine mr_getI C hw kc_19 67 (by decide) tf_732 wd_2848 dX19_microsecond_4 (by decide) rfl ?_
      refine lv_icmp_ge (tgt := 56) C.1.1 C.1.2.1 dX19_microsecond_7 (by decide) (fun c1 => ?_) (fun c1 => ?_)
      · replace hD := g_pos c1 hD
        exact hb56 M L _ _ ls hD hw (lv_sub hl [0] rfl)
      · replace hD := g_neg c1 hD
        refine lv_aload_n C.1.1 C.1.2.1 dX19_microsecond_10 rfl (lv_at hl 0 rfl) ?_
        refine mr_getI C hw kc_19 83 (by decide) tf_732 wd_2864 dX19_microsecond_11 (by decide) rfl ?_
        refine lv_if_le (tgt := 56) C.1.1 C.1.2.1 dX19_microsecond_14 (by decide) (fun c2 => ?_) (fun c2 => ?_)
        · replace hD := g_pos c2 hD
          exact hb56 M L _ _ ls hD hw (lv_sub hl [0] rfl)
        · replace hD := g_neg c2 hD
          refine lv_aload_n C.1.1 C.1.2.1 dX19_microsecond_17 rfl (lv_at hl 0 rfl) ?_
          refine mr_getI C hw kc_19 83 (by decide) tf_732 wd_2864 dX19_microsecond_18 (by decide) rfl ?_
          refine lv_aload_n C.1.1 C.1.2.1 dX19_microsecond_21 rfl (lv_at hl 0 rfl) ?_
          refine mr_getR C hw kc_19 71 (by decide) tf_732 ff_732_71 wd_2852 dX19_microsecond_22 (by decide) rfl ?_
          refine lv_iload_n C.1.1 C.1.2.1 dX19_microsecond_25 rfl (lv_at hl 1 rfl) ?_
          obtain ⟨q3, hD⟩ := g_ck hD
          refine mr_iald C hw (by decide) tf_782 q3 dX19_microsecond_26 ?_
          obtain ⟨q4, hD⟩ := g_nz hD
          refine lv_irem C.1.1 C.1.2.1 dX19_microsecond_27 q4 ?_
          refine lv_if_ne (tgt := 50) C.1.1 C.1.2.1 dX19_microsecond_28 (by decide) (fun c5 => ?_) (fun c5 => ?_)
          · replace hD := g_neg c5 hD
            exact hb50 v1 M L _ _ ls hD hw (lv_sub hl [0, 1] rfl)
          · replace hD := g_pos c5 hD
            refine lv_aload_n C.1.1 C.1.2.1 dX19_microsecond_31 rfl (lv_at hl 0 rfl) ?_
            refine mr_getR C hw kc_19 84 (by decide) tf_732 ff_732_84 wd_2865 dX19_microsecond_32 (by decide) rfl ?_
            refine lv_aload_n C.1.1 C.1.2.1 dX19_microsecond_35 rfl (lv_at hl 0 rfl) ?_
            refine mr_getR C hw kc_19 68 (by decide) tf_732 ff_732_68 wd_2849 dX19_microsecond_36 (by decide) rfl ?_
            refine lv_iload_n C.1.1 C.1.2.1 dX19_microsecond_39 rfl (lv_at hl 1 rfl) ?_
            obtain ⟨q6, hD⟩ := g_ck hD
            refine mr_iald C hw (by decide) tf_779 q6 dX19_microsecond_40 ?_
            obtain ⟨q7, hD⟩ := g_ck hD
            refine mr_zald C hw (by decide) tf_923 q7 dX19_microsecond_41 ?_
            refine lv_if_ne (tgt := 50) C.1.1 C.1.2.1 dX19_microsecond_42 (by decide) (fun c8 => ?_) (fun c8 => ?_)
            · replace hD := g_neg c8 hD
              exact hb50 v1 M L _ _ ls hD hw (lv_sub hl [0, 1] rfl)
            · replace hD := g_pos c8 hD
              refine lv_aload_n C.1.1 C.1.2.1 dX19_microsecond_45 rfl (lv_at hl 0 rfl) ?_
              refine lv_iload_n C.1.1 C.1.2.1 dX19_microsecond_46 rfl (lv_at hl 1 rfl) ?_
              obtain ⟨M9, L10, h1, hD⟩ := g_b2 hD
              refine md_cvV (As := [.int v1]) (rest := []) C hw (tX19_send l G ad fu v1 M L h1) kc_19 (by decide) tf_732 wd_3546 cwX19_send ⟨Nat.le_of_ble_eq_true rfl, Nat.le_of_ble_eq_true rfl⟩ rfl hl.1 (Nat.le_of_ble_eq_true rfl) dX19_microsecond_47 rfl rfl ⟨Nat.zero_le _, Nat.zero_le _⟩ rfl (fun H locs hw => ?_)
              exact hb50 v1 M9 L10 _ _ ls hD hw (lv_sub hl [0, 1] rfl)
  unfold DX19_microsecond at hD
  refine lv_iconst (v := 0) C.1.1 C.1.2.1 dX19_microsecond_0 (by decide) ?_
  refine lv_istore_n (lv' := [(1, .int 0), (0, .ref (ad 732))]) C.1.1 C.1.2.1 dX19_microsecond_1 rfl hl (by decide) rfl (fun ls hl => ?_)
  exact hh2 fu 0 M L _ _ ls hD hw (lv_sub hl [1, 0] rfl)

theorem dX19_run_0 : decode cX19_run 0 = .ok (.aload_n 0, 1) := by decide +kernel
theorem dX19_run_1 : decode cX19_run 1 = .ok (.iload_n 1, 1) := by decide +kernel
theorem dX19_run_2 : decode cX19_run 2 = .ok (.ifCond .ge 7, 3) := by decide +kernel
theorem dX19_run_5 : decode cX19_run 5 = .ok (.iconst 1, 1) := by decide +kernel
theorem dX19_run_6 : decode cX19_run 6 = .ok (.goto 27, 3) := by decide +kernel
theorem dX19_run_9 : decode cX19_run 9 = .ok (.aload_n 0, 1) := by decide +kernel
theorem dX19_run_10 : decode cX19_run 10 = .ok (.getfield 630, 3) := by decide +kernel
theorem dX19_run_13 : decode cX19_run 13 = .ok (.ifCond .eq 15, 3) := by decide +kernel
theorem dX19_run_16 : decode cX19_run 16 = .ok (.iload_n 1, 1) := by decide +kernel
theorem dX19_run_17 : decode cX19_run 17 = .ok (.sipush 20000, 3) := by decide +kernel
theorem dX19_run_20 : decode cX19_run 20 = .ok (.aload_n 0, 1) := by decide +kernel
theorem dX19_run_21 : decode cX19_run 21 = .ok (.getfield 600, 3) := by decide +kernel
theorem dX19_run_24 : decode cX19_run 24 = .ok (.isub, 1) := by decide +kernel
theorem dX19_run_25 : decode cX19_run 25 = .ok (.if_icmp .le 7, 3) := by decide +kernel
theorem dX19_run_28 : decode cX19_run 28 = .ok (.iconst 2, 1) := by decide +kernel
theorem dX19_run_29 : decode cX19_run 29 = .ok (.goto 4, 3) := by decide +kernel
theorem dX19_run_32 : decode cX19_run 32 = .ok (.iconst 0, 1) := by decide +kernel
theorem dX19_run_33 : decode cX19_run 33 = .ok (.putfield 289, 3) := by decide +kernel
theorem dX19_run_36 : decode cX19_run 36 = .ok (.aload_n 0, 1) := by decide +kernel
theorem dX19_run_37 : decode cX19_run 37 = .ok (.getfield 289, 3) := by decide +kernel
theorem dX19_run_40 : decode cX19_run 40 = .ok (.ifCond .le 5, 3) := by decide +kernel
theorem dX19_run_43 : decode cX19_run 43 = .ok (.iconst 0, 1) := by decide +kernel
theorem dX19_run_44 : decode cX19_run 44 = .ok (.ireturn, 1) := by decide +kernel
theorem dX19_run_45 : decode cX19_run 45 = .ok (.aload_n 0, 1) := by decide +kernel
theorem dX19_run_46 : decode cX19_run 46 = .ok (.getfield 184, 3) := by decide +kernel
theorem dX19_run_49 : decode cX19_run 49 = .ok (.iconst (-1), 1) := by decide +kernel
theorem dX19_run_50 : decode cX19_run 50 = .ok (.iconst 0, 1) := by decide +kernel
theorem dX19_run_51 : decode cX19_run 51 = .ok (.invokevirtual 807, 3) := by decide +kernel
theorem dX19_run_54 : decode cX19_run 54 = .ok (.istore_n 2, 1) := by decide +kernel
theorem dX19_run_55 : decode cX19_run 55 = .ok (.iconst 0, 1) := by decide +kernel
theorem dX19_run_56 : decode cX19_run 56 = .ok (.istore_n 3, 1) := by decide +kernel
theorem dX19_run_57 : decode cX19_run 57 = .ok (.iload_n 3, 1) := by decide +kernel
theorem dX19_run_58 : decode cX19_run 58 = .ok (.iload_n 1, 1) := by decide +kernel
theorem dX19_run_59 : decode cX19_run 59 = .ok (.if_icmp .ge 13, 3) := by decide +kernel
theorem dX19_run_62 : decode cX19_run 62 = .ok (.aload_n 0, 1) := by decide +kernel
theorem dX19_run_63 : decode cX19_run 63 = .ok (.invokevirtual 809, 3) := by decide +kernel
theorem dX19_run_66 : decode cX19_run 66 = .ok (.iinc 3 1, 3) := by decide +kernel
theorem dX19_run_69 : decode cX19_run 69 = .ok (.goto (-12), 3) := by decide +kernel
theorem dX19_run_72 : decode cX19_run 72 = .ok (.aload_n 0, 1) := by decide +kernel
theorem dX19_run_73 : decode cX19_run 73 = .ok (.getfield 184, 3) := by decide +kernel
theorem dX19_run_76 : decode cX19_run 76 = .ok (.iconst (-1), 1) := by decide +kernel
theorem dX19_run_77 : decode cX19_run 77 = .ok (.iconst 0, 1) := by decide +kernel
theorem dX19_run_78 : decode cX19_run 78 = .ok (.invokevirtual 807, 3) := by decide +kernel
theorem dX19_run_81 : decode cX19_run 81 = .ok (.iload_n 2, 1) := by decide +kernel
theorem dX19_run_82 : decode cX19_run 82 = .ok (.isub, 1) := by decide +kernel
theorem dX19_run_83 : decode cX19_run 83 = .ok (.ireturn, 1) := by decide +kernel
theorem cwX19_run : mw_cwV yX19_run cX19_run 4 ((some .int)) 1 := ⟨⟨wd_13, wd_3537, by decide +kernel⟩, wd_3535, wd_3536⟩
noncomputable def fX19_run_i57 (fu : Nat) (a1 : Int32) (r57 : (Int32 × Int32 × mwM × mwL) → Option (Int32 × mwM × mwL)) (v2 : Int32) (v3 : Int32) (M : mwM) (L : mwL) : Option (Int32 × mwM × mwL) :=
  (if a1 ≤ v3 then mb3 (DX12_done fu ((-1)) 0 M L) (fun r9 M7 L8 => some (r9 - v2, M7, L8)) else mb2 (DX19_microsecond fu M L) (fun M10 L11 => mlet (v3 + 1) (fun x12 => r57 (v2, x12, M10, L11))))
noncomputable def fX19_run_h57 (fu : Nat) (a1 : Int32) : Nat → (Int32 × Int32 × mwM × mwL) → Option (Int32 × mwM × mwL) := mloop (fun r57 s => fX19_run_i57 fu a1 r57 s.1 s.2.1 s.2.2.1 s.2.2.2)
noncomputable def fX19_run_b33 (fu : Nat) (a1 : Int32) (s1 : Int32) (M : mwM) (L : mwL) : Option (Int32 × mwM × mwL) :=
  mlet (mset M 732 0 s1) (fun M1 => (if (M1 732 0) ≤ 0 then mb3 (DX12_done fu ((-1)) 0 M1 L) (fun r5 M3 L4 => fX19_run_h57 fu a1 fu (r5, 0, M3, L4)) else some (0, M1, L)))
noncomputable def fX19_run_b28 (fu : Nat) (a1 : Int32) (M : mwM) (L : mwL) : Option (Int32 × mwM × mwL) :=
  fX19_run_b33 fu a1 2 M L
noncomputable def DX19_run (fu : Nat) (a1 : Int32) (M : mwM) (L : mwL) : Option (Int32 × mwM × mwL) :=
  (if 0 ≤ a1 then (if (M 732 4) = 0 then fX19_run_b28 fu a1 M L else (if a1 ≤ (20000 - (M 732 83)) then fX19_run_b33 fu a1 0 M L else fX19_run_b28 fu a1 M L)) else fX19_run_b33 fu a1 1 M L)
set_option maxHeartbeats 4000000 in
set_option maxRecDepth 100000 in
theorem tX19_run (l : Launch) (G : mwG) (ad : Nat → Nat) (fu : Nat) (a1 : Int32) (M : mwM) (L : mwL) {r0 : Int32} {M0 : mwM} {L0 : mwL} (hD : DX19_run fu a1 M L = some (r0, M0, L0)) : Met l yX19_run (Cond.code yX19_run cX19_run 4 ((some .int)) :: GT) ({ frames := 10, cells := 0, slots := 0, locals := 254 }) (mw_Pre G ad NF TF FF M L [.ref (ad 732), .int a1]) (mw_Qi G ad NF TF FF (mw_eqI r0 M0 L0)) 0 0 (mw_fr G) := by
  refine mw_enter (by decide) (Nat.le_of_ble_eq_true rfl) ?_
  intro p e s m below meth c ls C hr hlocks hnm hw hl
  have hl : lv_has ls 4 [(0, .ref (ad 732)), (1, .int a1)] := hl
  have hh57 : ∀ (f : Nat) (v2 : Int32) (v3 : Int32) (M : mwM) (L : mwL) (H : Heap) (locs : List Loc) (ls : Array Slot), fX19_run_h57 fu a1 f (v2, v3, M, L) = some (r0, M0, L0) → mw_W G ad NF TF FF M L H locs → lv_has ls 4 [(0, .ref (ad 732)), (1, .int a1), (2, .int v2), (3, .int v3)] → W p l e ({ frames := 10, cells := 0, slots := 0, locals := 254 }) s m [.ref (ad 732), .int a1].toArray below meth c H locs 0 0 (MQ below (mw_Qi G ad NF TF FF (mw_eqI r0 M0 L0)) [.ref (ad 732), .int a1].toArray s 0 0 (mw_fr G)) (F0 m 57 ls []) := by
    intro f
    induction f with
    | zero => intro v2 v3 M L H locs ls hD; cases hD
    | succ f57 ih57 =>
      intro v2 v3 M L H locs ls hD hw hl
      replace hD : fX19_run_i57 fu a1 (fX19_run_h57 fu a1 f57) v2 v3 M L = some (r0, M0, L0) := hD
      unfold fX19_run_i57 at hD
      refine lv_iload_n C.1.1 C.1.2.1 dX19_run_57 rfl (lv_at hl 3 rfl) ?_
      refine lv_iload_n C.1.1 C.1.2.1 dX19_run_58 rfl (lv_at hl 1 rfl) ?_
      refine lv_icmp_ge (tgt := 72) C.1.1 C.1.2.1 dX19_run_59 (by decide) (fun c6 => ?_) (fun c6 => ?_)
      · replace hD := g_pos c6 hD
        refine lv_aload_n C.1.1 C.1.2.1 dX19_run_72 rfl (lv_at hl 0 rfl) ?_
        refine mr_getR C hw kc_19 77 (by decide) tf_732 ff_732_77 wd_2858 dX19_run_73 (by decide) rfl ?_
        refine lv_iconst (v := (-1)) C.1.1 C.1.2.1 dX19_run_76 (by decide) ?_
        refine lv_iconst (v := 0) C.1.1 C.1.2.1 dX19_run_77 (by decide) ?_
        obtain ⟨r9, M7, L8, h1, hD⟩ := g_b3 hD
        refine md_cvI (As := [.int ((-1)), .int 0]) (rest := []) C hw (tX12_done l G ad fu ((-1)) 0 M L h1) kc_12 (by decide) tf_821 wd_3538 cwX12_done ⟨Nat.le_of_ble_eq_true rfl, Nat.le_of_ble_eq_true rfl⟩ rfl hl.1 (Nat.le_of_ble_eq_true rfl) dX19_run_78 rfl rfl ⟨Nat.zero_le _, Nat.zero_le _⟩ rfl (fun H locs hw => ?_)
        refine lv_iload_n C.1.1 C.1.2.1 dX19_run_81 rfl (lv_at hl 2 rfl) ?_
        refine lv_isub C.1.1 C.1.2.1 dX19_run_82 ?_
        exact mr_iret C hr hlocks hw rfl (Option.some.inj hD) dX19_run_83
      · replace hD := g_neg c6 hD
        refine lv_aload_n C.1.1 C.1.2.1 dX19_run_62 rfl (lv_at hl 0 rfl) ?_
        obtain ⟨M10, L11, h1, hD⟩ := g_b2 hD
        refine md_cvV (As := []) (rest := []) C hw (tX19_microsecond l G ad fu M L h1) kc_19 (by decide) tf_732 wd_3542 cwX19_microsecond ⟨Nat.le_of_ble_eq_true rfl, Nat.le_of_ble_eq_true rfl⟩ rfl hl.1 (Nat.le_of_ble_eq_true rfl) dX19_run_63 rfl rfl ⟨Nat.zero_le _, Nat.zero_le _⟩ rfl (fun H locs hw => ?_)
        obtain ⟨x12, ex12, hD⟩ := g_let hD
        refine lv_iinc (v := x12) (lv' := [(3, .int x12), (0, .ref (ad 732)), (1, .int a1), (2, .int v2)]) C.1.1 C.1.2.1 dX19_run_66 hl (k := 3) rfl (by rw [ex12]; rfl) (by decide) rfl (fun ls hl => ?_)
        refine lv_goto (tgt := 57) C.1.1 C.1.2.1 dX19_run_69 (by decide) ?_
        exact ih57 v2 x12 M10 L11 _ _ ls hD hw (lv_sub hl [1, 2, 3, 0] rfl)
  have hb33 : ∀ (s1 : Int32) (M : mwM) (L : mwL) (H : Heap) (locs : List Loc) (ls : Array Slot), fX19_run_b33 fu a1 s1 M L = some (r0, M0, L0) → mw_W G ad NF TF FF M L H locs → lv_has ls 4 [(0, .ref (ad 732)), (1, .int a1)] → W p l e ({ frames := 10, cells := 0, slots := 0, locals := 254 }) s m [.ref (ad 732), .int a1].toArray below meth c H locs 0 0 (MQ below (mw_Qi G ad NF TF FF (mw_eqI r0 M0 L0)) [.ref (ad 732), .int a1].toArray s 0 0 (mw_fr G)) (F0 m 33 ls [.int s1, .ref (ad 732)]) := by
    intro s1 M L H locs ls hD hw hl
    unfold fX19_run_b33 at hD
    obtain ⟨M1, eM1, hD⟩ := g_let hD
    refine mr_putI C hw kc_19 0 (by decide) tf_732 wd_2781 dX19_run_33 (by decide) rfl rfl rfl rfl (fun H locs hw => ?_)
    replace hw : mw_W G ad NF TF FF M1 L H locs := by rw [eM1]; exact hw
    refine lv_aload_n C.1.1 C.1.2.1 dX19_run_36 rfl (lv_at hl 0 rfl) ?_
    refine mr_getI C hw kc_19 0 (by decide) tf_732 wd_2781 dX19_run_37 (by decide) rfl ?_
    refine lv_if_le (tgt := 45) C.1.1 C.1.2.1 dX19_run_40 (by decide) (fun c2 => ?_) (fun c2 => ?_)
    · replace hD := g_pos c2 hD
      refine lv_aload_n C.1.1 C.1.2.1 dX19_run_45 rfl (lv_at hl 0 rfl) ?_
      refine mr_getR C hw kc_19 77 (by decide) tf_732 ff_732_77 wd_2858 dX19_run_46 (by decide) rfl ?_
      refine lv_iconst (v := (-1)) C.1.1 C.1.2.1 dX19_run_49 (by decide) ?_
      refine lv_iconst (v := 0) C.1.1 C.1.2.1 dX19_run_50 (by decide) ?_
      obtain ⟨r5, M3, L4, h1, hD⟩ := g_b3 hD
      refine md_cvI (As := [.int ((-1)), .int 0]) (rest := []) C hw (tX12_done l G ad fu ((-1)) 0 M1 L h1) kc_12 (by decide) tf_821 wd_3538 cwX12_done ⟨Nat.le_of_ble_eq_true rfl, Nat.le_of_ble_eq_true rfl⟩ rfl hl.1 (Nat.le_of_ble_eq_true rfl) dX19_run_51 rfl rfl ⟨Nat.zero_le _, Nat.zero_le _⟩ rfl (fun H locs hw => ?_)
      refine lv_istore_n (lv' := [(2, .int r5), (0, .ref (ad 732)), (1, .int a1)]) C.1.1 C.1.2.1 dX19_run_54 rfl hl (by decide) rfl (fun ls hl => ?_)
      refine lv_iconst (v := 0) C.1.1 C.1.2.1 dX19_run_55 (by decide) ?_
      refine lv_istore_n (lv' := [(3, .int 0), (2, .int r5), (0, .ref (ad 732)), (1, .int a1)]) C.1.1 C.1.2.1 dX19_run_56 rfl hl (by decide) rfl (fun ls hl => ?_)
      exact hh57 fu r5 0 M3 L4 _ _ ls hD hw (lv_sub hl [2, 3, 1, 0] rfl)
    · replace hD := g_neg c2 hD
      refine lv_iconst (v := 0) C.1.1 C.1.2.1 dX19_run_43 (by decide) ?_
      exact mr_iret C hr hlocks hw rfl (Option.some.inj hD) dX19_run_44
  have hb28 : ∀ (M : mwM) (L : mwL) (H : Heap) (locs : List Loc) (ls : Array Slot), fX19_run_b28 fu a1 M L = some (r0, M0, L0) → mw_W G ad NF TF FF M L H locs → lv_has ls 4 [(0, .ref (ad 732)), (1, .int a1)] → W p l e ({ frames := 10, cells := 0, slots := 0, locals := 254 }) s m [.ref (ad 732), .int a1].toArray below meth c H locs 0 0 (MQ below (mw_Qi G ad NF TF FF (mw_eqI r0 M0 L0)) [.ref (ad 732), .int a1].toArray s 0 0 (mw_fr G)) (F0 m 28 ls [.ref (ad 732)]) := by
    intro M L H locs ls hD hw hl
    unfold fX19_run_b28 at hD
    refine lv_iconst (v := 2) C.1.1 C.1.2.1 dX19_run_28 (by decide) ?_
    refine lv_goto (tgt := 33) C.1.1 C.1.2.1 dX19_run_29 (by decide) ?_
    exact hb33 2 M L _ _ ls hD hw (lv_sub hl [0, 1] rfl)
  unfold DX19_run at hD
  refine lv_aload_n C.1.1 C.1.2.1 dX19_run_0 rfl (lv_at hl 0 rfl) ?_
  refine lv_iload_n C.1.1 C.1.2.1 dX19_run_1 rfl (lv_at hl 1 rfl) ?_
  refine lv_if_ge (tgt := 9) C.1.1 C.1.2.1 dX19_run_2 (by decide) (fun c13 => ?_) (fun c13 => ?_)
  · replace hD := g_pos c13 hD
    refine lv_aload_n C.1.1 C.1.2.1 dX19_run_9 rfl (lv_at hl 0 rfl) ?_
    refine mr_getI C hw kc_19 4 (by decide) tf_732 wd_2785 dX19_run_10 (by decide) rfl ?_
    refine lv_if_eq (tgt := 28) C.1.1 C.1.2.1 dX19_run_13 (by decide) (fun c14 => ?_) (fun c14 => ?_)
    · replace hD := g_pos c14 hD
      exact hb28 M L _ _ ls hD hw (lv_sub hl [0, 1] rfl)
    · replace hD := g_neg c14 hD
      refine lv_iload_n C.1.1 C.1.2.1 dX19_run_16 rfl (lv_at hl 1 rfl) ?_
      refine lv_sipush (v := 20000) C.1.1 C.1.2.1 dX19_run_17 (by decide) ?_
      refine lv_aload_n C.1.1 C.1.2.1 dX19_run_20 rfl (lv_at hl 0 rfl) ?_
      refine mr_getI C hw kc_19 83 (by decide) tf_732 wd_2864 dX19_run_21 (by decide) rfl ?_
      refine lv_isub C.1.1 C.1.2.1 dX19_run_24 ?_
      refine lv_icmp_le (tgt := 32) C.1.1 C.1.2.1 dX19_run_25 (by decide) (fun c15 => ?_) (fun c15 => ?_)
      · replace hD := g_pos c15 hD
        refine lv_iconst (v := 0) C.1.1 C.1.2.1 dX19_run_32 (by decide) ?_
        exact hb33 0 M L _ _ ls hD hw (lv_sub hl [0, 1] rfl)
      · replace hD := g_neg c15 hD
        exact hb28 M L _ _ ls hD hw (lv_sub hl [0, 1] rfl)
  · replace hD := g_neg c13 hD
    refine lv_iconst (v := 1) C.1.1 C.1.2.1 dX19_run_5 (by decide) ?_
    refine lv_goto (tgt := 33) C.1.1 C.1.2.1 dX19_run_6 (by decide) ?_
    exact hb33 1 M L _ _ ls hD hw (lv_sub hl [0, 1] rfl)

theorem dX19_place_0 : decode cX19_place 0 = .ok (.aload_n 0, 1) := by decide +kernel
theorem dX19_place_1 : decode cX19_place 1 = .ok (.iconst 0, 1) := by decide +kernel
theorem dX19_place_2 : decode cX19_place 2 = .ok (.putfield 289, 3) := by decide +kernel
theorem dX19_place_5 : decode cX19_place 5 = .ok (.aload_n 0, 1) := by decide +kernel
theorem dX19_place_6 : decode cX19_place 6 = .ok (.getfield 634, 3) := by decide +kernel
theorem dX19_place_9 : decode cX19_place 9 = .ok (.ireturn, 1) := by decide +kernel
theorem cwX19_place : mw_cwV yX19_place cX19_place 1 ((some .int)) 0 := ⟨⟨wd_13, wd_4189, by decide +kernel⟩, wd_4187, wd_4188⟩
noncomputable def DX19_place (fu : Nat) (M : mwM) (L : mwL) : Option (Int32 × mwM × mwL) :=
  mlet (mset M 732 0 0) (fun M1 => some (M1 732 5, M1, L))
set_option maxHeartbeats 4000000 in
set_option maxRecDepth 100000 in
theorem tX19_place (l : Launch) (G : mwG) (ad : Nat → Nat) (fu : Nat) (M : mwM) (L : mwL) {r0 : Int32} {M0 : mwM} {L0 : mwL} (hD : DX19_place fu M L = some (r0, M0, L0)) : Met l yX19_place (Cond.code yX19_place cX19_place 1 ((some .int)) :: GT) ({ frames := 0, cells := 0, slots := 0, locals := 0 }) (mw_Pre G ad NF TF FF M L [.ref (ad 732)]) (mw_Qi G ad NF TF FF (mw_eqI r0 M0 L0)) 0 0 (mw_fr G) := by
  refine mw_enter (by decide) (Nat.le_of_ble_eq_true rfl) ?_
  intro p e s m below meth c ls C hr hlocks hnm hw hl
  have hl : lv_has ls 1 [(0, .ref (ad 732))] := hl
  unfold DX19_place at hD
  refine lv_aload_n C.1.1 C.1.2.1 dX19_place_0 rfl (lv_at hl 0 rfl) ?_
  refine lv_iconst (v := 0) C.1.1 C.1.2.1 dX19_place_1 (by decide) ?_
  obtain ⟨M1, eM1, hD⟩ := g_let hD
  refine mr_putI C hw kc_19 0 (by decide) tf_732 wd_2781 dX19_place_2 (by decide) rfl rfl rfl rfl (fun H locs hw => ?_)
  replace hw : mw_W G ad NF TF FF M1 L H locs := by rw [eM1]; exact hw
  refine lv_aload_n C.1.1 C.1.2.1 dX19_place_5 rfl (lv_at hl 0 rfl) ?_
  refine mr_getI C hw kc_19 5 (by decide) tf_732 wd_2786 dX19_place_6 (by decide) rfl ?_
  exact mr_iret C hr hlocks hw rfl (Option.some.inj hD) dX19_place_9

theorem dX19_count_0 : decode cX19_count 0 = .ok (.aload_n 0, 1) := by decide +kernel
theorem dX19_count_1 : decode cX19_count 1 = .ok (.iload_n 1, 1) := by decide +kernel
theorem dX19_count_2 : decode cX19_count 2 = .ok (.ifCond .lt 9, 3) := by decide +kernel
theorem dX19_count_5 : decode cX19_count 5 = .ok (.iload_n 1, 1) := by decide +kernel
theorem dX19_count_6 : decode cX19_count 6 = .ok (.bipush 6, 2) := by decide +kernel
theorem dX19_count_8 : decode cX19_count 8 = .ok (.if_icmp .le 7, 3) := by decide +kernel
theorem dX19_count_11 : decode cX19_count 11 = .ok (.iconst 1, 1) := by decide +kernel
theorem dX19_count_12 : decode cX19_count 12 = .ok (.goto 15, 3) := by decide +kernel
theorem dX19_count_15 : decode cX19_count 15 = .ok (.aload_n 0, 1) := by decide +kernel
theorem dX19_count_16 : decode cX19_count 16 = .ok (.getfield 630, 3) := by decide +kernel
theorem dX19_count_19 : decode cX19_count 19 = .ok (.ifCond .ne 7, 3) := by decide +kernel
theorem dX19_count_22 : decode cX19_count 22 = .ok (.iconst 2, 1) := by decide +kernel
theorem dX19_count_23 : decode cX19_count 23 = .ok (.goto 4, 3) := by decide +kernel
theorem dX19_count_26 : decode cX19_count 26 = .ok (.iconst 0, 1) := by decide +kernel
theorem dX19_count_27 : decode cX19_count 27 = .ok (.putfield 289, 3) := by decide +kernel
theorem dX19_count_30 : decode cX19_count 30 = .ok (.aload_n 0, 1) := by decide +kernel
theorem dX19_count_31 : decode cX19_count 31 = .ok (.getfield 289, 3) := by decide +kernel
theorem dX19_count_34 : decode cX19_count 34 = .ok (.ifCond .le 5, 3) := by decide +kernel
theorem dX19_count_37 : decode cX19_count 37 = .ok (.iconst 0, 1) := by decide +kernel
theorem dX19_count_38 : decode cX19_count 38 = .ok (.ireturn, 1) := by decide +kernel
theorem dX19_count_39 : decode cX19_count 39 = .ok (.iload_n 1, 1) := by decide +kernel
theorem dX19_count_40 : decode cX19_count 40 = .ok (.iconst 2, 1) := by decide +kernel
theorem dX19_count_41 : decode cX19_count 41 = .ok (.if_icmp .ge 19, 3) := by decide +kernel
theorem dX19_count_44 : decode cX19_count 44 = .ok (.iload_n 1, 1) := by decide +kernel
theorem dX19_count_45 : decode cX19_count 45 = .ok (.ifCond .ne 10, 3) := by decide +kernel
theorem dX19_count_48 : decode cX19_count 48 = .ok (.aload_n 0, 1) := by decide +kernel
theorem dX19_count_49 : decode cX19_count 49 = .ok (.getfield 435, 3) := by decide +kernel
theorem dX19_count_52 : decode cX19_count 52 = .ok (.goto 7, 3) := by decide +kernel
theorem dX19_count_55 : decode cX19_count 55 = .ok (.aload_n 0, 1) := by decide +kernel
theorem dX19_count_56 : decode cX19_count 56 = .ok (.getfield 448, 3) := by decide +kernel
theorem dX19_count_59 : decode cX19_count 59 = .ok (.ireturn, 1) := by decide +kernel
theorem dX19_count_60 : decode cX19_count 60 = .ok (.iload_n 1, 1) := by decide +kernel
theorem dX19_count_61 : decode cX19_count 61 = .ok (.iconst 4, 1) := by decide +kernel
theorem dX19_count_62 : decode cX19_count 62 = .ok (.if_icmp .ge 20, 3) := by decide +kernel
theorem dX19_count_65 : decode cX19_count 65 = .ok (.iload_n 1, 1) := by decide +kernel
theorem dX19_count_66 : decode cX19_count 66 = .ok (.iconst 2, 1) := by decide +kernel
theorem dX19_count_67 : decode cX19_count 67 = .ok (.if_icmp .ne 10, 3) := by decide +kernel
theorem dX19_count_70 : decode cX19_count 70 = .ok (.aload_n 0, 1) := by decide +kernel
theorem dX19_count_71 : decode cX19_count 71 = .ok (.getfield 456, 3) := by decide +kernel
theorem dX19_count_74 : decode cX19_count 74 = .ok (.goto 7, 3) := by decide +kernel
theorem dX19_count_77 : decode cX19_count 77 = .ok (.aload_n 0, 1) := by decide +kernel
theorem dX19_count_78 : decode cX19_count 78 = .ok (.getfield 541, 3) := by decide +kernel
theorem dX19_count_81 : decode cX19_count 81 = .ok (.ireturn, 1) := by decide +kernel
theorem dX19_count_82 : decode cX19_count 82 = .ok (.iload_n 1, 1) := by decide +kernel
theorem dX19_count_83 : decode cX19_count 83 = .ok (.iconst 4, 1) := by decide +kernel
theorem dX19_count_84 : decode cX19_count 84 = .ok (.if_icmp .ne 10, 3) := by decide +kernel
theorem dX19_count_87 : decode cX19_count 87 = .ok (.aload_n 0, 1) := by decide +kernel
theorem dX19_count_88 : decode cX19_count 88 = .ok (.getfield 568, 3) := by decide +kernel
theorem dX19_count_91 : decode cX19_count 91 = .ok (.goto 19, 3) := by decide +kernel
theorem dX19_count_94 : decode cX19_count 94 = .ok (.iload_n 1, 1) := by decide +kernel
theorem dX19_count_95 : decode cX19_count 95 = .ok (.iconst 5, 1) := by decide +kernel
theorem dX19_count_96 : decode cX19_count 96 = .ok (.if_icmp .ne 10, 3) := by decide +kernel
theorem dX19_count_99 : decode cX19_count 99 = .ok (.aload_n 0, 1) := by decide +kernel
theorem dX19_count_100 : decode cX19_count 100 = .ok (.getfield 555, 3) := by decide +kernel
theorem dX19_count_103 : decode cX19_count 103 = .ok (.goto 7, 3) := by decide +kernel
theorem dX19_count_106 : decode cX19_count 106 = .ok (.aload_n 0, 1) := by decide +kernel
theorem dX19_count_107 : decode cX19_count 107 = .ok (.getfield 558, 3) := by decide +kernel
theorem dX19_count_110 : decode cX19_count 110 = .ok (.ireturn, 1) := by decide +kernel
theorem cwX19_count : mw_cwV yX19_count cX19_count 2 ((some .int)) 1 := ⟨⟨wd_13, wd_4193, by decide +kernel⟩, wd_4191, wd_4192⟩
noncomputable def fX19_count_b110 (fu : Nat) (a1 : Int32) (s0 : Int32) (M : mwM) (L : mwL) : Option (Int32 × mwM × mwL) :=
  some (s0, M, L)
noncomputable def fX19_count_b81 (fu : Nat) (a1 : Int32) (s0 : Int32) (M : mwM) (L : mwL) : Option (Int32 × mwM × mwL) :=
  some (s0, M, L)
noncomputable def fX19_count_b59 (fu : Nat) (a1 : Int32) (s0 : Int32) (M : mwM) (L : mwL) : Option (Int32 × mwM × mwL) :=
  some (s0, M, L)
noncomputable def fX19_count_b27 (fu : Nat) (a1 : Int32) (s1 : Int32) (M : mwM) (L : mwL) : Option (Int32 × mwM × mwL) :=
  mlet (mset M 732 0 s1) (fun M1 => (if (M1 732 0) ≤ 0 then (if 2 ≤ a1 then (if 4 ≤ a1 then (if a1 = 4 then fX19_count_b110 fu a1 (M1 732 67) M1 L else (if a1 = 5 then fX19_count_b110 fu a1 (M1 732 55) M1 L else fX19_count_b110 fu a1 (M1 732 62) M1 L)) else (if a1 = 2 then fX19_count_b81 fu a1 (M1 732 33) M1 L else fX19_count_b81 fu a1 (M1 732 45) M1 L)) else (if a1 = 0 then fX19_count_b59 fu a1 (M1 732 19) M1 L else fX19_count_b59 fu a1 (M1 732 24) M1 L)) else some (0, M1, L)))
noncomputable def fX19_count_b11 (fu : Nat) (a1 : Int32) (M : mwM) (L : mwL) : Option (Int32 × mwM × mwL) :=
  fX19_count_b27 fu a1 1 M L
noncomputable def DX19_count (fu : Nat) (a1 : Int32) (M : mwM) (L : mwL) : Option (Int32 × mwM × mwL) :=
  (if a1 < 0 then fX19_count_b11 fu a1 M L else (if a1 ≤ 6 then (if (M 732 4) = 0 then fX19_count_b27 fu a1 2 M L else fX19_count_b27 fu a1 0 M L) else fX19_count_b11 fu a1 M L))
set_option maxHeartbeats 4000000 in
set_option maxRecDepth 100000 in
theorem tX19_count (l : Launch) (G : mwG) (ad : Nat → Nat) (fu : Nat) (a1 : Int32) (M : mwM) (L : mwL) {r0 : Int32} {M0 : mwM} {L0 : mwL} (hD : DX19_count fu a1 M L = some (r0, M0, L0)) : Met l yX19_count (Cond.code yX19_count cX19_count 2 ((some .int)) :: GT) ({ frames := 0, cells := 0, slots := 0, locals := 0 }) (mw_Pre G ad NF TF FF M L [.ref (ad 732), .int a1]) (mw_Qi G ad NF TF FF (mw_eqI r0 M0 L0)) 0 0 (mw_fr G) := by
  refine mw_enter (by decide) (Nat.le_of_ble_eq_true rfl) ?_
  intro p e s m below meth c ls C hr hlocks hnm hw hl
  have hl : lv_has ls 2 [(0, .ref (ad 732)), (1, .int a1)] := hl
  have hb110 : ∀ (s0 : Int32) (M : mwM) (L : mwL) (H : Heap) (locs : List Loc) (ls : Array Slot), fX19_count_b110 fu a1 s0 M L = some (r0, M0, L0) → mw_W G ad NF TF FF M L H locs → lv_has ls 2 [] → W p l e ({ frames := 0, cells := 0, slots := 0, locals := 0 }) s m [.ref (ad 732), .int a1].toArray below meth c H locs 0 0 (MQ below (mw_Qi G ad NF TF FF (mw_eqI r0 M0 L0)) [.ref (ad 732), .int a1].toArray s 0 0 (mw_fr G)) (F0 m 110 ls [.int s0]) := by
    intro s0 M L H locs ls hD hw hl
    unfold fX19_count_b110 at hD
    exact mr_iret C hr hlocks hw rfl (Option.some.inj hD) dX19_count_110
  have hb81 : ∀ (s0 : Int32) (M : mwM) (L : mwL) (H : Heap) (locs : List Loc) (ls : Array Slot), fX19_count_b81 fu a1 s0 M L = some (r0, M0, L0) → mw_W G ad NF TF FF M L H locs → lv_has ls 2 [] → W p l e ({ frames := 0, cells := 0, slots := 0, locals := 0 }) s m [.ref (ad 732), .int a1].toArray below meth c H locs 0 0 (MQ below (mw_Qi G ad NF TF FF (mw_eqI r0 M0 L0)) [.ref (ad 732), .int a1].toArray s 0 0 (mw_fr G)) (F0 m 81 ls [.int s0]) := by
    intro s0 M L H locs ls hD hw hl
    unfold fX19_count_b81 at hD
    exact mr_iret C hr hlocks hw rfl (Option.some.inj hD) dX19_count_81
  have hb59 : ∀ (s0 : Int32) (M : mwM) (L : mwL) (H : Heap) (locs : List Loc) (ls : Array Slot), fX19_count_b59 fu a1 s0 M L = some (r0, M0, L0) → mw_W G ad NF TF FF M L H locs → lv_has ls 2 [] → W p l e ({ frames := 0, cells := 0, slots := 0, locals := 0 }) s m [.ref (ad 732), .int a1].toArray below meth c H locs 0 0 (MQ below (mw_Qi G ad NF TF FF (mw_eqI r0 M0 L0)) [.ref (ad 732), .int a1].toArray s 0 0 (mw_fr G)) (F0 m 59 ls [.int s0]) := by
    intro s0 M L H locs ls hD hw hl
    unfold fX19_count_b59 at hD
    exact mr_iret C hr hlocks hw rfl (Option.some.inj hD) dX19_count_59
  have hb27 : ∀ (s1 : Int32) (M : mwM) (L : mwL) (H : Heap) (locs : List Loc) (ls : Array Slot), fX19_count_b27 fu a1 s1 M L = some (r0, M0, L0) → mw_W G ad NF TF FF M L H locs → lv_has ls 2 [(0, .ref (ad 732)), (1, .int a1)] → W p l e ({ frames := 0, cells := 0, slots := 0, locals := 0 }) s m [.ref (ad 732), .int a1].toArray below meth c H locs 0 0 (MQ below (mw_Qi G ad NF TF FF (mw_eqI r0 M0 L0)) [.ref (ad 732), .int a1].toArray s 0 0 (mw_fr G)) (F0 m 27 ls [.int s1, .ref (ad 732)]) := by
    intro s1 M L H locs ls hD hw hl
    unfold fX19_count_b27 at hD
    obtain ⟨M1, eM1, hD⟩ := g_let hD
    refine mr_putI C hw kc_19 0 (by decide) tf_732 wd_2781 dX19_count_27 (by decide) rfl rfl rfl rfl (fun H locs hw => ?_)
    replace hw : mw_W G ad NF TF FF M1 L H locs := by rw [eM1]; exact hw
    refine lv_aload_n C.1.1 C.1.2.1 dX19_count_30 rfl (lv_at hl 0 rfl) ?_
    refine mr_getI C hw kc_19 0 (by decide) tf_732 wd_2781 dX19_count_31 (by decide) rfl ?_
    refine lv_if_le (tgt := 39) C.1.1 C.1.2.1 dX19_count_34 (by decide) (fun c2 => ?_) (fun c2 => ?_)
    · replace hD := g_pos c2 hD
      refine lv_iload_n C.1.1 C.1.2.1 dX19_count_39 rfl (lv_at hl 1 rfl) ?_
      refine lv_iconst (v := 2) C.1.1 C.1.2.1 dX19_count_40 (by decide) ?_
      refine lv_icmp_ge (tgt := 60) C.1.1 C.1.2.1 dX19_count_41 (by decide) (fun c3 => ?_) (fun c3 => ?_)
      · replace hD := g_pos c3 hD
        refine lv_iload_n C.1.1 C.1.2.1 dX19_count_60 rfl (lv_at hl 1 rfl) ?_
        refine lv_iconst (v := 4) C.1.1 C.1.2.1 dX19_count_61 (by decide) ?_
        refine lv_icmp_ge (tgt := 82) C.1.1 C.1.2.1 dX19_count_62 (by decide) (fun c4 => ?_) (fun c4 => ?_)
        · replace hD := g_pos c4 hD
          refine lv_iload_n C.1.1 C.1.2.1 dX19_count_82 rfl (lv_at hl 1 rfl) ?_
          refine lv_iconst (v := 4) C.1.1 C.1.2.1 dX19_count_83 (by decide) ?_
          refine lv_icmp_ne (tgt := 94) C.1.1 C.1.2.1 dX19_count_84 (by decide) (fun c5 => ?_) (fun c5 => ?_)
          · replace hD := g_neg c5 hD
            refine lv_iload_n C.1.1 C.1.2.1 dX19_count_94 rfl (lv_at hl 1 rfl) ?_
            refine lv_iconst (v := 5) C.1.1 C.1.2.1 dX19_count_95 (by decide) ?_
            refine lv_icmp_ne (tgt := 106) C.1.1 C.1.2.1 dX19_count_96 (by decide) (fun c6 => ?_) (fun c6 => ?_)
            · replace hD := g_neg c6 hD
              refine lv_aload_n C.1.1 C.1.2.1 dX19_count_106 rfl (lv_at hl 0 rfl) ?_
              refine mr_getI C hw kc_19 62 (by decide) tf_732 wd_2843 dX19_count_107 (by decide) rfl ?_
              exact hb110 (M1 732 62) M1 L _ _ ls hD hw (lv_sub hl [] rfl)
            · replace hD := g_pos c6 hD
              refine lv_aload_n C.1.1 C.1.2.1 dX19_count_99 rfl (lv_at hl 0 rfl) ?_
              refine mr_getI C hw kc_19 55 (by decide) tf_732 wd_2836 dX19_count_100 (by decide) rfl ?_
              refine lv_goto (tgt := 110) C.1.1 C.1.2.1 dX19_count_103 (by decide) ?_
              exact hb110 (M1 732 55) M1 L _ _ ls hD hw (lv_sub hl [] rfl)
          · replace hD := g_pos c5 hD
            refine lv_aload_n C.1.1 C.1.2.1 dX19_count_87 rfl (lv_at hl 0 rfl) ?_
            refine mr_getI C hw kc_19 67 (by decide) tf_732 wd_2848 dX19_count_88 (by decide) rfl ?_
            refine lv_goto (tgt := 110) C.1.1 C.1.2.1 dX19_count_91 (by decide) ?_
            exact hb110 (M1 732 67) M1 L _ _ ls hD hw (lv_sub hl [] rfl)
        · replace hD := g_neg c4 hD
          refine lv_iload_n C.1.1 C.1.2.1 dX19_count_65 rfl (lv_at hl 1 rfl) ?_
          refine lv_iconst (v := 2) C.1.1 C.1.2.1 dX19_count_66 (by decide) ?_
          refine lv_icmp_ne (tgt := 77) C.1.1 C.1.2.1 dX19_count_67 (by decide) (fun c7 => ?_) (fun c7 => ?_)
          · replace hD := g_neg c7 hD
            refine lv_aload_n C.1.1 C.1.2.1 dX19_count_77 rfl (lv_at hl 0 rfl) ?_
            refine mr_getI C hw kc_19 45 (by decide) tf_732 wd_2826 dX19_count_78 (by decide) rfl ?_
            exact hb81 (M1 732 45) M1 L _ _ ls hD hw (lv_sub hl [] rfl)
          · replace hD := g_pos c7 hD
            refine lv_aload_n C.1.1 C.1.2.1 dX19_count_70 rfl (lv_at hl 0 rfl) ?_
            refine mr_getI C hw kc_19 33 (by decide) tf_732 wd_2814 dX19_count_71 (by decide) rfl ?_
            refine lv_goto (tgt := 81) C.1.1 C.1.2.1 dX19_count_74 (by decide) ?_
            exact hb81 (M1 732 33) M1 L _ _ ls hD hw (lv_sub hl [] rfl)
      · replace hD := g_neg c3 hD
        refine lv_iload_n C.1.1 C.1.2.1 dX19_count_44 rfl (lv_at hl 1 rfl) ?_
        refine lv_if_ne (tgt := 55) C.1.1 C.1.2.1 dX19_count_45 (by decide) (fun c8 => ?_) (fun c8 => ?_)
        · replace hD := g_neg c8 hD
          refine lv_aload_n C.1.1 C.1.2.1 dX19_count_55 rfl (lv_at hl 0 rfl) ?_
          refine mr_getI C hw kc_19 24 (by decide) tf_732 wd_2805 dX19_count_56 (by decide) rfl ?_
          exact hb59 (M1 732 24) M1 L _ _ ls hD hw (lv_sub hl [] rfl)
        · replace hD := g_pos c8 hD
          refine lv_aload_n C.1.1 C.1.2.1 dX19_count_48 rfl (lv_at hl 0 rfl) ?_
          refine mr_getI C hw kc_19 19 (by decide) tf_732 wd_2800 dX19_count_49 (by decide) rfl ?_
          refine lv_goto (tgt := 59) C.1.1 C.1.2.1 dX19_count_52 (by decide) ?_
          exact hb59 (M1 732 19) M1 L _ _ ls hD hw (lv_sub hl [] rfl)
    · replace hD := g_neg c2 hD
      refine lv_iconst (v := 0) C.1.1 C.1.2.1 dX19_count_37 (by decide) ?_
      exact mr_iret C hr hlocks hw rfl (Option.some.inj hD) dX19_count_38
  have hb11 : ∀ (M : mwM) (L : mwL) (H : Heap) (locs : List Loc) (ls : Array Slot), fX19_count_b11 fu a1 M L = some (r0, M0, L0) → mw_W G ad NF TF FF M L H locs → lv_has ls 2 [(0, .ref (ad 732)), (1, .int a1)] → W p l e ({ frames := 0, cells := 0, slots := 0, locals := 0 }) s m [.ref (ad 732), .int a1].toArray below meth c H locs 0 0 (MQ below (mw_Qi G ad NF TF FF (mw_eqI r0 M0 L0)) [.ref (ad 732), .int a1].toArray s 0 0 (mw_fr G)) (F0 m 11 ls [.ref (ad 732)]) := by
    intro M L H locs ls hD hw hl
    unfold fX19_count_b11 at hD
    refine lv_iconst (v := 1) C.1.1 C.1.2.1 dX19_count_11 (by decide) ?_
    refine lv_goto (tgt := 27) C.1.1 C.1.2.1 dX19_count_12 (by decide) ?_
    exact hb27 1 M L _ _ ls hD hw (lv_sub hl [0, 1] rfl)
  unfold DX19_count at hD
  refine lv_aload_n C.1.1 C.1.2.1 dX19_count_0 rfl (lv_at hl 0 rfl) ?_
  refine lv_iload_n C.1.1 C.1.2.1 dX19_count_1 rfl (lv_at hl 1 rfl) ?_
  refine lv_if_lt (tgt := 11) C.1.1 C.1.2.1 dX19_count_2 (by decide) (fun c9 => ?_) (fun c9 => ?_)
  · replace hD := g_pos c9 hD
    exact hb11 M L _ _ ls hD hw (lv_sub hl [0, 1] rfl)
  · replace hD := g_neg c9 hD
    refine lv_iload_n C.1.1 C.1.2.1 dX19_count_5 rfl (lv_at hl 1 rfl) ?_
    refine lv_bipush (v := 6) C.1.1 C.1.2.1 dX19_count_6 (by decide) ?_
    refine lv_icmp_le (tgt := 15) C.1.1 C.1.2.1 dX19_count_8 (by decide) (fun c10 => ?_) (fun c10 => ?_)
    · replace hD := g_pos c10 hD
      refine lv_aload_n C.1.1 C.1.2.1 dX19_count_15 rfl (lv_at hl 0 rfl) ?_
      refine mr_getI C hw kc_19 4 (by decide) tf_732 wd_2785 dX19_count_16 (by decide) rfl ?_
      refine lv_if_ne (tgt := 26) C.1.1 C.1.2.1 dX19_count_19 (by decide) (fun c11 => ?_) (fun c11 => ?_)
      · replace hD := g_neg c11 hD
        refine lv_iconst (v := 0) C.1.1 C.1.2.1 dX19_count_26 (by decide) ?_
        exact hb27 0 M L _ _ ls hD hw (lv_sub hl [0, 1] rfl)
      · replace hD := g_pos c11 hD
        refine lv_iconst (v := 2) C.1.1 C.1.2.1 dX19_count_22 (by decide) ?_
        refine lv_goto (tgt := 27) C.1.1 C.1.2.1 dX19_count_23 (by decide) ?_
        exact hb27 2 M L _ _ ls hD hw (lv_sub hl [0, 1] rfl)
    · replace hD := g_neg c10 hD
      exact hb11 M L _ _ ls hD hw (lv_sub hl [0, 1] rfl)

theorem dX19_frame_0 : decode cX19_frame 0 = .ok (.aload_n 0, 1) := by decide +kernel
theorem dX19_frame_1 : decode cX19_frame 1 = .ok (.aload_n 0, 1) := by decide +kernel
theorem dX19_frame_2 : decode cX19_frame 2 = .ok (.getfield 630, 3) := by decide +kernel
theorem dX19_frame_5 : decode cX19_frame 5 = .ok (.ifCond .eq 15, 3) := by decide +kernel
theorem dX19_frame_8 : decode cX19_frame 8 = .ok (.iload_n 1, 1) := by decide +kernel
theorem dX19_frame_9 : decode cX19_frame 9 = .ok (.ifCond .lt 11, 3) := by decide +kernel
theorem dX19_frame_12 : decode cX19_frame 12 = .ok (.iload_n 1, 1) := by decide +kernel
theorem dX19_frame_13 : decode cX19_frame 13 = .ok (.aload_n 0, 1) := by decide +kernel
theorem dX19_frame_14 : decode cX19_frame 14 = .ok (.getfield 568, 3) := by decide +kernel
theorem dX19_frame_17 : decode cX19_frame 17 = .ok (.if_icmp .lt 7, 3) := by decide +kernel
theorem dX19_frame_20 : decode cX19_frame 20 = .ok (.iconst 1, 1) := by decide +kernel
theorem dX19_frame_21 : decode cX19_frame 21 = .ok (.goto 17, 3) := by decide +kernel
theorem dX19_frame_24 : decode cX19_frame 24 = .ok (.iload_n 2, 1) := by decide +kernel
theorem dX19_frame_25 : decode cX19_frame 25 = .ok (.ifCond .lt 8, 3) := by decide +kernel
theorem dX19_frame_28 : decode cX19_frame 28 = .ok (.iload_n 2, 1) := by decide +kernel
theorem dX19_frame_29 : decode cX19_frame 29 = .ok (.iconst 4, 1) := by decide +kernel
theorem dX19_frame_30 : decode cX19_frame 30 = .ok (.if_icmp .le 7, 3) := by decide +kernel
theorem dX19_frame_33 : decode cX19_frame 33 = .ok (.iconst 2, 1) := by decide +kernel
theorem dX19_frame_34 : decode cX19_frame 34 = .ok (.goto 4, 3) := by decide +kernel
theorem dX19_frame_37 : decode cX19_frame 37 = .ok (.iconst 0, 1) := by decide +kernel
theorem dX19_frame_38 : decode cX19_frame 38 = .ok (.putfield 289, 3) := by decide +kernel
theorem dX19_frame_41 : decode cX19_frame 41 = .ok (.aload_n 0, 1) := by decide +kernel
theorem dX19_frame_42 : decode cX19_frame 42 = .ok (.getfield 289, 3) := by decide +kernel
theorem dX19_frame_45 : decode cX19_frame 45 = .ok (.ifCond .le 5, 3) := by decide +kernel
theorem dX19_frame_48 : decode cX19_frame 48 = .ok (.iconst 0, 1) := by decide +kernel
theorem dX19_frame_49 : decode cX19_frame 49 = .ok (.ireturn, 1) := by decide +kernel
theorem dX19_frame_50 : decode cX19_frame 50 = .ok (.iload_n 2, 1) := by decide +kernel
theorem dX19_frame_51 : decode cX19_frame 51 = .ok (.ifCond .ne 16, 3) := by decide +kernel
theorem dX19_frame_54 : decode cX19_frame 54 = .ok (.bipush 64, 2) := by decide +kernel
theorem dX19_frame_56 : decode cX19_frame 56 = .ok (.bipush 8, 2) := by decide +kernel
theorem dX19_frame_58 : decode cX19_frame 58 = .ok (.aload_n 0, 1) := by decide +kernel
theorem dX19_frame_59 : decode cX19_frame 59 = .ok (.getfield 165, 3) := by decide +kernel
theorem dX19_frame_62 : decode cX19_frame 62 = .ok (.iload_n 1, 1) := by decide +kernel
theorem dX19_frame_63 : decode cX19_frame 63 = .ok (.iaload, 1) := by decide +kernel
theorem dX19_frame_64 : decode cX19_frame 64 = .ok (.imul, 1) := by decide +kernel
theorem dX19_frame_65 : decode cX19_frame 65 = .ok (.iadd, 1) := by decide +kernel
theorem dX19_frame_66 : decode cX19_frame 66 = .ok (.ireturn, 1) := by decide +kernel
theorem dX19_frame_67 : decode cX19_frame 67 = .ok (.iload_n 2, 1) := by decide +kernel
theorem dX19_frame_68 : decode cX19_frame 68 = .ok (.iconst 1, 1) := by decide +kernel
theorem dX19_frame_69 : decode cX19_frame 69 = .ok (.if_icmp .ne 10, 3) := by decide +kernel
theorem dX19_frame_72 : decode cX19_frame 72 = .ok (.aload_n 0, 1) := by decide +kernel
theorem dX19_frame_73 : decode cX19_frame 73 = .ok (.getfield 150, 3) := by decide +kernel
theorem dX19_frame_76 : decode cX19_frame 76 = .ok (.iload_n 1, 1) := by decide +kernel
theorem dX19_frame_77 : decode cX19_frame 77 = .ok (.iaload, 1) := by decide +kernel
theorem dX19_frame_78 : decode cX19_frame 78 = .ok (.ireturn, 1) := by decide +kernel
theorem dX19_frame_79 : decode cX19_frame 79 = .ok (.iload_n 2, 1) := by decide +kernel
theorem dX19_frame_80 : decode cX19_frame 80 = .ok (.iconst 2, 1) := by decide +kernel
theorem dX19_frame_81 : decode cX19_frame 81 = .ok (.if_icmp .ne 10, 3) := by decide +kernel
theorem dX19_frame_84 : decode cX19_frame 84 = .ok (.aload_n 0, 1) := by decide +kernel
theorem dX19_frame_85 : decode cX19_frame 85 = .ok (.getfield 159, 3) := by decide +kernel
theorem dX19_frame_88 : decode cX19_frame 88 = .ok (.iload_n 1, 1) := by decide +kernel
theorem dX19_frame_89 : decode cX19_frame 89 = .ok (.iaload, 1) := by decide +kernel
theorem dX19_frame_90 : decode cX19_frame 90 = .ok (.ireturn, 1) := by decide +kernel
theorem dX19_frame_91 : decode cX19_frame 91 = .ok (.iload_n 2, 1) := by decide +kernel
theorem dX19_frame_92 : decode cX19_frame 92 = .ok (.iconst 3, 1) := by decide +kernel
theorem dX19_frame_93 : decode cX19_frame 93 = .ok (.if_icmp .ne 12, 3) := by decide +kernel
theorem dX19_frame_96 : decode cX19_frame 96 = .ok (.aload_n 0, 1) := by decide +kernel
theorem dX19_frame_97 : decode cX19_frame 97 = .ok (.getfield 162, 3) := by decide +kernel
theorem dX19_frame_100 : decode cX19_frame 100 = .ok (.iload_n 1, 1) := by decide +kernel
theorem dX19_frame_101 : decode cX19_frame 101 = .ok (.iaload, 1) := by decide +kernel
theorem dX19_frame_102 : decode cX19_frame 102 = .ok (.goto 9, 3) := by decide +kernel
theorem dX19_frame_105 : decode cX19_frame 105 = .ok (.aload_n 0, 1) := by decide +kernel
theorem dX19_frame_106 : decode cX19_frame 106 = .ok (.getfield 168, 3) := by decide +kernel
theorem dX19_frame_109 : decode cX19_frame 109 = .ok (.iload_n 1, 1) := by decide +kernel
theorem dX19_frame_110 : decode cX19_frame 110 = .ok (.iaload, 1) := by decide +kernel
theorem dX19_frame_111 : decode cX19_frame 111 = .ok (.ireturn, 1) := by decide +kernel
theorem cwX19_frame : mw_cwV yX19_frame cX19_frame 3 ((some .int)) 2 := ⟨⟨wd_13, wd_4197, by decide +kernel⟩, wd_4195, wd_4196⟩
noncomputable def fX19_frame_b111 (fu : Nat) (a1 : Int32) (a2 : Int32) (s0 : Int32) (M : mwM) (L : mwL) : Option (Int32 × mwM × mwL) :=
  some (s0, M, L)
noncomputable def fX19_frame_b38 (fu : Nat) (a1 : Int32) (a2 : Int32) (s1 : Int32) (M : mwM) (L : mwL) : Option (Int32 × mwM × mwL) :=
  mlet (mset M 732 0 s1) (fun M1 => (if (M1 732 0) ≤ 0 then (if a2 = 0 then mck a1 40 (some (64 + (8 * (M1 784 a1.toNatClampNeg)), M1, L)) else (if a2 = 1 then mck a1 40 (some (M1 779 a1.toNatClampNeg, M1, L)) else (if a2 = 2 then mck a1 40 (some (M1 782 a1.toNatClampNeg, M1, L)) else (if a2 = 3 then mck a1 40 (fX19_frame_b111 fu a1 a2 (M1 783 a1.toNatClampNeg) M1 L) else mck a1 40 (fX19_frame_b111 fu a1 a2 (M1 785 a1.toNatClampNeg) M1 L))))) else some (0, M1, L)))
noncomputable def fX19_frame_b20 (fu : Nat) (a1 : Int32) (a2 : Int32) (M : mwM) (L : mwL) : Option (Int32 × mwM × mwL) :=
  fX19_frame_b38 fu a1 a2 1 M L
noncomputable def fX19_frame_b33 (fu : Nat) (a1 : Int32) (a2 : Int32) (M : mwM) (L : mwL) : Option (Int32 × mwM × mwL) :=
  fX19_frame_b38 fu a1 a2 2 M L
noncomputable def DX19_frame (fu : Nat) (a1 : Int32) (a2 : Int32) (M : mwM) (L : mwL) : Option (Int32 × mwM × mwL) :=
  (if (M 732 4) = 0 then fX19_frame_b20 fu a1 a2 M L else (if a1 < 0 then fX19_frame_b20 fu a1 a2 M L else (if a1 < (M 732 67) then (if a2 < 0 then fX19_frame_b33 fu a1 a2 M L else (if a2 ≤ 4 then fX19_frame_b38 fu a1 a2 0 M L else fX19_frame_b33 fu a1 a2 M L)) else fX19_frame_b20 fu a1 a2 M L)))
set_option maxHeartbeats 4000000 in
set_option maxRecDepth 100000 in
theorem tX19_frame (l : Launch) (G : mwG) (ad : Nat → Nat) (fu : Nat) (a1 : Int32) (a2 : Int32) (M : mwM) (L : mwL) {r0 : Int32} {M0 : mwM} {L0 : mwL} (hD : DX19_frame fu a1 a2 M L = some (r0, M0, L0)) : Met l yX19_frame (Cond.code yX19_frame cX19_frame 3 ((some .int)) :: GT) ({ frames := 0, cells := 0, slots := 0, locals := 0 }) (mw_Pre G ad NF TF FF M L [.ref (ad 732), .int a1, .int a2]) (mw_Qi G ad NF TF FF (mw_eqI r0 M0 L0)) 0 0 (mw_fr G) := by
  refine mw_enter (by decide) (Nat.le_of_ble_eq_true rfl) ?_
  intro p e s m below meth c ls C hr hlocks hnm hw hl
  have hl : lv_has ls 3 [(0, .ref (ad 732)), (1, .int a1), (2, .int a2)] := hl
  have hb111 : ∀ (s0 : Int32) (M : mwM) (L : mwL) (H : Heap) (locs : List Loc) (ls : Array Slot), fX19_frame_b111 fu a1 a2 s0 M L = some (r0, M0, L0) → mw_W G ad NF TF FF M L H locs → lv_has ls 3 [] → W p l e ({ frames := 0, cells := 0, slots := 0, locals := 0 }) s m [.ref (ad 732), .int a1, .int a2].toArray below meth c H locs 0 0 (MQ below (mw_Qi G ad NF TF FF (mw_eqI r0 M0 L0)) [.ref (ad 732), .int a1, .int a2].toArray s 0 0 (mw_fr G)) (F0 m 111 ls [.int s0]) := by
    intro s0 M L H locs ls hD hw hl
    unfold fX19_frame_b111 at hD
    exact mr_iret C hr hlocks hw rfl (Option.some.inj hD) dX19_frame_111
  have hb38 : ∀ (s1 : Int32) (M : mwM) (L : mwL) (H : Heap) (locs : List Loc) (ls : Array Slot), fX19_frame_b38 fu a1 a2 s1 M L = some (r0, M0, L0) → mw_W G ad NF TF FF M L H locs → lv_has ls 3 [(0, .ref (ad 732)), (1, .int a1), (2, .int a2)] → W p l e ({ frames := 0, cells := 0, slots := 0, locals := 0 }) s m [.ref (ad 732), .int a1, .int a2].toArray below meth c H locs 0 0 (MQ below (mw_Qi G ad NF TF FF (mw_eqI r0 M0 L0)) [.ref (ad 732), .int a1, .int a2].toArray s 0 0 (mw_fr G)) (F0 m 38 ls [.int s1, .ref (ad 732)]) := by
    intro s1 M L H locs ls hD hw hl
    unfold fX19_frame_b38 at hD
    obtain ⟨M1, eM1, hD⟩ := g_let hD
    refine mr_putI C hw kc_19 0 (by decide) tf_732 wd_2781 dX19_frame_38 (by decide) rfl rfl rfl rfl (fun H locs hw => ?_)
    replace hw : mw_W G ad NF TF FF M1 L H locs := by rw [eM1]; exact hw
    refine lv_aload_n C.1.1 C.1.2.1 dX19_frame_41 rfl (lv_at hl 0 rfl) ?_
    refine mr_getI C hw kc_19 0 (by decide) tf_732 wd_2781 dX19_frame_42 (by decide) rfl ?_
    refine lv_if_le (tgt := 50) C.1.1 C.1.2.1 dX19_frame_45 (by decide) (fun c2 => ?_) (fun c2 => ?_)
    · replace hD := g_pos c2 hD
      refine lv_iload_n C.1.1 C.1.2.1 dX19_frame_50 rfl (lv_at hl 2 rfl) ?_
      refine lv_if_ne (tgt := 67) C.1.1 C.1.2.1 dX19_frame_51 (by decide) (fun c3 => ?_) (fun c3 => ?_)
      · replace hD := g_neg c3 hD
        refine lv_iload_n C.1.1 C.1.2.1 dX19_frame_67 rfl (lv_at hl 2 rfl) ?_
        refine lv_iconst (v := 1) C.1.1 C.1.2.1 dX19_frame_68 (by decide) ?_
        refine lv_icmp_ne (tgt := 79) C.1.1 C.1.2.1 dX19_frame_69 (by decide) (fun c4 => ?_) (fun c4 => ?_)
        · replace hD := g_neg c4 hD
          refine lv_iload_n C.1.1 C.1.2.1 dX19_frame_79 rfl (lv_at hl 2 rfl) ?_
          refine lv_iconst (v := 2) C.1.1 C.1.2.1 dX19_frame_80 (by decide) ?_
          refine lv_icmp_ne (tgt := 91) C.1.1 C.1.2.1 dX19_frame_81 (by decide) (fun c5 => ?_) (fun c5 => ?_)
          · replace hD := g_neg c5 hD
            refine lv_iload_n C.1.1 C.1.2.1 dX19_frame_91 rfl (lv_at hl 2 rfl) ?_
            refine lv_iconst (v := 3) C.1.1 C.1.2.1 dX19_frame_92 (by decide) ?_
            refine lv_icmp_ne (tgt := 105) C.1.1 C.1.2.1 dX19_frame_93 (by decide) (fun c6 => ?_) (fun c6 => ?_)
            · replace hD := g_neg c6 hD
              refine lv_aload_n C.1.1 C.1.2.1 dX19_frame_105 rfl (lv_at hl 0 rfl) ?_
              refine mr_getR C hw kc_19 74 (by decide) tf_732 ff_732_74 wd_2855 dX19_frame_106 (by decide) rfl ?_
              refine lv_iload_n C.1.1 C.1.2.1 dX19_frame_109 rfl (lv_at hl 1 rfl) ?_
              obtain ⟨q7, hD⟩ := g_ck hD
              refine mr_iald C hw (by decide) tf_785 q7 dX19_frame_110 ?_
              exact hb111 (M1 785 a1.toNatClampNeg) M1 L _ _ ls hD hw (lv_sub hl [] rfl)
            · replace hD := g_pos c6 hD
              refine lv_aload_n C.1.1 C.1.2.1 dX19_frame_96 rfl (lv_at hl 0 rfl) ?_
              refine mr_getR C hw kc_19 72 (by decide) tf_732 ff_732_72 wd_2853 dX19_frame_97 (by decide) rfl ?_
              refine lv_iload_n C.1.1 C.1.2.1 dX19_frame_100 rfl (lv_at hl 1 rfl) ?_
              obtain ⟨q8, hD⟩ := g_ck hD
              refine mr_iald C hw (by decide) tf_783 q8 dX19_frame_101 ?_
              refine lv_goto (tgt := 111) C.1.1 C.1.2.1 dX19_frame_102 (by decide) ?_
              exact hb111 (M1 783 a1.toNatClampNeg) M1 L _ _ ls hD hw (lv_sub hl [] rfl)
          · replace hD := g_pos c5 hD
            refine lv_aload_n C.1.1 C.1.2.1 dX19_frame_84 rfl (lv_at hl 0 rfl) ?_
            refine mr_getR C hw kc_19 71 (by decide) tf_732 ff_732_71 wd_2852 dX19_frame_85 (by decide) rfl ?_
            refine lv_iload_n C.1.1 C.1.2.1 dX19_frame_88 rfl (lv_at hl 1 rfl) ?_
            obtain ⟨q9, hD⟩ := g_ck hD
            refine mr_iald C hw (by decide) tf_782 q9 dX19_frame_89 ?_
            exact mr_iret C hr hlocks hw rfl (Option.some.inj hD) dX19_frame_90
        · replace hD := g_pos c4 hD
          refine lv_aload_n C.1.1 C.1.2.1 dX19_frame_72 rfl (lv_at hl 0 rfl) ?_
          refine mr_getR C hw kc_19 68 (by decide) tf_732 ff_732_68 wd_2849 dX19_frame_73 (by decide) rfl ?_
          refine lv_iload_n C.1.1 C.1.2.1 dX19_frame_76 rfl (lv_at hl 1 rfl) ?_
          obtain ⟨q10, hD⟩ := g_ck hD
          refine mr_iald C hw (by decide) tf_779 q10 dX19_frame_77 ?_
          exact mr_iret C hr hlocks hw rfl (Option.some.inj hD) dX19_frame_78
      · replace hD := g_pos c3 hD
        refine lv_bipush (v := 64) C.1.1 C.1.2.1 dX19_frame_54 (by decide) ?_
        refine lv_bipush (v := 8) C.1.1 C.1.2.1 dX19_frame_56 (by decide) ?_
        refine lv_aload_n C.1.1 C.1.2.1 dX19_frame_58 rfl (lv_at hl 0 rfl) ?_
        refine mr_getR C hw kc_19 73 (by decide) tf_732 ff_732_73 wd_2854 dX19_frame_59 (by decide) rfl ?_
        refine lv_iload_n C.1.1 C.1.2.1 dX19_frame_62 rfl (lv_at hl 1 rfl) ?_
        obtain ⟨q11, hD⟩ := g_ck hD
        refine mr_iald C hw (by decide) tf_784 q11 dX19_frame_63 ?_
        refine lv_imul C.1.1 C.1.2.1 dX19_frame_64 ?_
        refine lv_iadd C.1.1 C.1.2.1 dX19_frame_65 ?_
        exact mr_iret C hr hlocks hw rfl (Option.some.inj hD) dX19_frame_66
    · replace hD := g_neg c2 hD
      refine lv_iconst (v := 0) C.1.1 C.1.2.1 dX19_frame_48 (by decide) ?_
      exact mr_iret C hr hlocks hw rfl (Option.some.inj hD) dX19_frame_49
  have hb20 : ∀ (M : mwM) (L : mwL) (H : Heap) (locs : List Loc) (ls : Array Slot), fX19_frame_b20 fu a1 a2 M L = some (r0, M0, L0) → mw_W G ad NF TF FF M L H locs → lv_has ls 3 [(0, .ref (ad 732)), (1, .int a1), (2, .int a2)] → W p l e ({ frames := 0, cells := 0, slots := 0, locals := 0 }) s m [.ref (ad 732), .int a1, .int a2].toArray below meth c H locs 0 0 (MQ below (mw_Qi G ad NF TF FF (mw_eqI r0 M0 L0)) [.ref (ad 732), .int a1, .int a2].toArray s 0 0 (mw_fr G)) (F0 m 20 ls [.ref (ad 732)]) := by
    intro M L H locs ls hD hw hl
    unfold fX19_frame_b20 at hD
    refine lv_iconst (v := 1) C.1.1 C.1.2.1 dX19_frame_20 (by decide) ?_
    refine lv_goto (tgt := 38) C.1.1 C.1.2.1 dX19_frame_21 (by decide) ?_
    exact hb38 1 M L _ _ ls hD hw (lv_sub hl [0, 1, 2] rfl)
  have hb33 : ∀ (M : mwM) (L : mwL) (H : Heap) (locs : List Loc) (ls : Array Slot), fX19_frame_b33 fu a1 a2 M L = some (r0, M0, L0) → mw_W G ad NF TF FF M L H locs → lv_has ls 3 [(0, .ref (ad 732)), (1, .int a1), (2, .int a2)] → W p l e ({ frames := 0, cells := 0, slots := 0, locals := 0 }) s m [.ref (ad 732), .int a1, .int a2].toArray below meth c H locs 0 0 (MQ below (mw_Qi G ad NF TF FF (mw_eqI r0 M0 L0)) [.ref (ad 732), .int a1, .int a2].toArray s 0 0 (mw_fr G)) (F0 m 33 ls [.ref (ad 732)]) := by
    intro M L H locs ls hD hw hl
    unfold fX19_frame_b33 at hD
    refine lv_iconst (v := 2) C.1.1 C.1.2.1 dX19_frame_33 (by decide) ?_
    refine lv_goto (tgt := 38) C.1.1 C.1.2.1 dX19_frame_34 (by decide) ?_
    exact hb38 2 M L _ _ ls hD hw (lv_sub hl [0, 1, 2] rfl)
  unfold DX19_frame at hD
  refine lv_aload_n C.1.1 C.1.2.1 dX19_frame_0 rfl (lv_at hl 0 rfl) ?_
  refine lv_aload_n C.1.1 C.1.2.1 dX19_frame_1 rfl (lv_at hl 0 rfl) ?_
  refine mr_getI C hw kc_19 4 (by decide) tf_732 wd_2785 dX19_frame_2 (by decide) rfl ?_
  refine lv_if_eq (tgt := 20) C.1.1 C.1.2.1 dX19_frame_5 (by decide) (fun c12 => ?_) (fun c12 => ?_)
  · replace hD := g_pos c12 hD
    exact hb20 M L _ _ ls hD hw (lv_sub hl [0, 1, 2] rfl)
  · replace hD := g_neg c12 hD
    refine lv_iload_n C.1.1 C.1.2.1 dX19_frame_8 rfl (lv_at hl 1 rfl) ?_
    refine lv_if_lt (tgt := 20) C.1.1 C.1.2.1 dX19_frame_9 (by decide) (fun c13 => ?_) (fun c13 => ?_)
    · replace hD := g_pos c13 hD
      exact hb20 M L _ _ ls hD hw (lv_sub hl [0, 1, 2] rfl)
    · replace hD := g_neg c13 hD
      refine lv_iload_n C.1.1 C.1.2.1 dX19_frame_12 rfl (lv_at hl 1 rfl) ?_
      refine lv_aload_n C.1.1 C.1.2.1 dX19_frame_13 rfl (lv_at hl 0 rfl) ?_
      refine mr_getI C hw kc_19 67 (by decide) tf_732 wd_2848 dX19_frame_14 (by decide) rfl ?_
      refine lv_icmp_lt (tgt := 24) C.1.1 C.1.2.1 dX19_frame_17 (by decide) (fun c14 => ?_) (fun c14 => ?_)
      · replace hD := g_pos c14 hD
        refine lv_iload_n C.1.1 C.1.2.1 dX19_frame_24 rfl (lv_at hl 2 rfl) ?_
        refine lv_if_lt (tgt := 33) C.1.1 C.1.2.1 dX19_frame_25 (by decide) (fun c15 => ?_) (fun c15 => ?_)
        · replace hD := g_pos c15 hD
          exact hb33 M L _ _ ls hD hw (lv_sub hl [0, 1, 2] rfl)
        · replace hD := g_neg c15 hD
          refine lv_iload_n C.1.1 C.1.2.1 dX19_frame_28 rfl (lv_at hl 2 rfl) ?_
          refine lv_iconst (v := 4) C.1.1 C.1.2.1 dX19_frame_29 (by decide) ?_
          refine lv_icmp_le (tgt := 37) C.1.1 C.1.2.1 dX19_frame_30 (by decide) (fun c16 => ?_) (fun c16 => ?_)
          · replace hD := g_pos c16 hD
            refine lv_iconst (v := 0) C.1.1 C.1.2.1 dX19_frame_37 (by decide) ?_
            exact hb38 0 M L _ _ ls hD hw (lv_sub hl [0, 1, 2] rfl)
          · replace hD := g_neg c16 hD
            exact hb33 M L _ _ ls hD hw (lv_sub hl [0, 1, 2] rfl)
      · replace hD := g_neg c14 hD
        exact hb20 M L _ _ ls hD hw (lv_sub hl [0, 1, 2] rfl)

theorem dX19_signal_0 : decode cX19_signal 0 = .ok (.aload_n 0, 1) := by decide +kernel
theorem dX19_signal_1 : decode cX19_signal 1 = .ok (.aload_n 0, 1) := by decide +kernel
theorem dX19_signal_2 : decode cX19_signal 2 = .ok (.getfield 630, 3) := by decide +kernel
theorem dX19_signal_5 : decode cX19_signal 5 = .ok (.ifCond .eq 15, 3) := by decide +kernel
theorem dX19_signal_8 : decode cX19_signal 8 = .ok (.iload_n 1, 1) := by decide +kernel
theorem dX19_signal_9 : decode cX19_signal 9 = .ok (.ifCond .lt 11, 3) := by decide +kernel
theorem dX19_signal_12 : decode cX19_signal 12 = .ok (.iload_n 1, 1) := by decide +kernel
theorem dX19_signal_13 : decode cX19_signal 13 = .ok (.aload_n 0, 1) := by decide +kernel
theorem dX19_signal_14 : decode cX19_signal 14 = .ok (.getfield 541, 3) := by decide +kernel
theorem dX19_signal_17 : decode cX19_signal 17 = .ok (.if_icmp .lt 7, 3) := by decide +kernel
theorem dX19_signal_20 : decode cX19_signal 20 = .ok (.iconst 1, 1) := by decide +kernel
theorem dX19_signal_21 : decode cX19_signal 21 = .ok (.goto 4, 3) := by decide +kernel
theorem dX19_signal_24 : decode cX19_signal 24 = .ok (.iconst 0, 1) := by decide +kernel
theorem dX19_signal_25 : decode cX19_signal 25 = .ok (.putfield 289, 3) := by decide +kernel
theorem dX19_signal_28 : decode cX19_signal 28 = .ok (.aload_n 0, 1) := by decide +kernel
theorem dX19_signal_29 : decode cX19_signal 29 = .ok (.getfield 289, 3) := by decide +kernel
theorem dX19_signal_32 : decode cX19_signal 32 = .ok (.ifCond .le 5, 3) := by decide +kernel
theorem dX19_signal_35 : decode cX19_signal 35 = .ok (.iconst 0, 1) := by decide +kernel
theorem dX19_signal_36 : decode cX19_signal 36 = .ok (.ireturn, 1) := by decide +kernel
theorem dX19_signal_37 : decode cX19_signal 37 = .ok (.iload_n 2, 1) := by decide +kernel
theorem dX19_signal_38 : decode cX19_signal 38 = .ok (.ifCond .eq 12, 3) := by decide +kernel
theorem dX19_signal_41 : decode cX19_signal 41 = .ok (.aload_n 0, 1) := by decide +kernel
theorem dX19_signal_42 : decode cX19_signal 42 = .ok (.getfield 116, 3) := by decide +kernel
theorem dX19_signal_45 : decode cX19_signal 45 = .ok (.iload_n 1, 1) := by decide +kernel
theorem dX19_signal_46 : decode cX19_signal 46 = .ok (.iaload, 1) := by decide +kernel
theorem dX19_signal_47 : decode cX19_signal 47 = .ok (.goto 9, 3) := by decide +kernel
theorem dX19_signal_50 : decode cX19_signal 50 = .ok (.aload_n 0, 1) := by decide +kernel
theorem dX19_signal_51 : decode cX19_signal 51 = .ok (.getfield 113, 3) := by decide +kernel
theorem dX19_signal_54 : decode cX19_signal 54 = .ok (.iload_n 1, 1) := by decide +kernel
theorem dX19_signal_55 : decode cX19_signal 55 = .ok (.iaload, 1) := by decide +kernel
theorem dX19_signal_56 : decode cX19_signal 56 = .ok (.ireturn, 1) := by decide +kernel
theorem cwX19_signal : mw_cwV yX19_signal cX19_signal 3 ((some .int)) 2 := ⟨⟨wd_13, wd_4201, by decide +kernel⟩, wd_4199, wd_4200⟩
noncomputable def fX19_signal_b56 (fu : Nat) (a1 : Int32) (a2 : Int32) (s0 : Int32) (M : mwM) (L : mwL) : Option (Int32 × mwM × mwL) :=
  some (s0, M, L)
noncomputable def fX19_signal_b25 (fu : Nat) (a1 : Int32) (a2 : Int32) (s1 : Int32) (M : mwM) (L : mwL) : Option (Int32 × mwM × mwL) :=
  mlet (mset M 732 0 s1) (fun M1 => (if (M1 732 0) ≤ 0 then (if a2 = 0 then mck a1 40 (fX19_signal_b56 fu a1 a2 (M1 767 a1.toNatClampNeg) M1 L) else mck a1 40 (fX19_signal_b56 fu a1 a2 (M1 768 a1.toNatClampNeg) M1 L)) else some (0, M1, L)))
noncomputable def fX19_signal_b20 (fu : Nat) (a1 : Int32) (a2 : Int32) (M : mwM) (L : mwL) : Option (Int32 × mwM × mwL) :=
  fX19_signal_b25 fu a1 a2 1 M L
noncomputable def DX19_signal (fu : Nat) (a1 : Int32) (a2 : Int32) (M : mwM) (L : mwL) : Option (Int32 × mwM × mwL) :=
  (if (M 732 4) = 0 then fX19_signal_b20 fu a1 a2 M L else (if a1 < 0 then fX19_signal_b20 fu a1 a2 M L else (if a1 < (M 732 45) then fX19_signal_b25 fu a1 a2 0 M L else fX19_signal_b20 fu a1 a2 M L)))
set_option maxHeartbeats 4000000 in
set_option maxRecDepth 100000 in
theorem tX19_signal (l : Launch) (G : mwG) (ad : Nat → Nat) (fu : Nat) (a1 : Int32) (a2 : Int32) (M : mwM) (L : mwL) {r0 : Int32} {M0 : mwM} {L0 : mwL} (hD : DX19_signal fu a1 a2 M L = some (r0, M0, L0)) : Met l yX19_signal (Cond.code yX19_signal cX19_signal 3 ((some .int)) :: GT) ({ frames := 0, cells := 0, slots := 0, locals := 0 }) (mw_Pre G ad NF TF FF M L [.ref (ad 732), .int a1, .int a2]) (mw_Qi G ad NF TF FF (mw_eqI r0 M0 L0)) 0 0 (mw_fr G) := by
  refine mw_enter (by decide) (Nat.le_of_ble_eq_true rfl) ?_
  intro p e s m below meth c ls C hr hlocks hnm hw hl
  have hl : lv_has ls 3 [(0, .ref (ad 732)), (1, .int a1), (2, .int a2)] := hl
  have hb56 : ∀ (s0 : Int32) (M : mwM) (L : mwL) (H : Heap) (locs : List Loc) (ls : Array Slot), fX19_signal_b56 fu a1 a2 s0 M L = some (r0, M0, L0) → mw_W G ad NF TF FF M L H locs → lv_has ls 3 [] → W p l e ({ frames := 0, cells := 0, slots := 0, locals := 0 }) s m [.ref (ad 732), .int a1, .int a2].toArray below meth c H locs 0 0 (MQ below (mw_Qi G ad NF TF FF (mw_eqI r0 M0 L0)) [.ref (ad 732), .int a1, .int a2].toArray s 0 0 (mw_fr G)) (F0 m 56 ls [.int s0]) := by
    intro s0 M L H locs ls hD hw hl
    unfold fX19_signal_b56 at hD
    exact mr_iret C hr hlocks hw rfl (Option.some.inj hD) dX19_signal_56
  have hb25 : ∀ (s1 : Int32) (M : mwM) (L : mwL) (H : Heap) (locs : List Loc) (ls : Array Slot), fX19_signal_b25 fu a1 a2 s1 M L = some (r0, M0, L0) → mw_W G ad NF TF FF M L H locs → lv_has ls 3 [(0, .ref (ad 732)), (1, .int a1), (2, .int a2)] → W p l e ({ frames := 0, cells := 0, slots := 0, locals := 0 }) s m [.ref (ad 732), .int a1, .int a2].toArray below meth c H locs 0 0 (MQ below (mw_Qi G ad NF TF FF (mw_eqI r0 M0 L0)) [.ref (ad 732), .int a1, .int a2].toArray s 0 0 (mw_fr G)) (F0 m 25 ls [.int s1, .ref (ad 732)]) := by
    intro s1 M L H locs ls hD hw hl
    unfold fX19_signal_b25 at hD
    obtain ⟨M1, eM1, hD⟩ := g_let hD
    refine mr_putI C hw kc_19 0 (by decide) tf_732 wd_2781 dX19_signal_25 (by decide) rfl rfl rfl rfl (fun H locs hw => ?_)
    replace hw : mw_W G ad NF TF FF M1 L H locs := by rw [eM1]; exact hw
    refine lv_aload_n C.1.1 C.1.2.1 dX19_signal_28 rfl (lv_at hl 0 rfl) ?_
    refine mr_getI C hw kc_19 0 (by decide) tf_732 wd_2781 dX19_signal_29 (by decide) rfl ?_
    refine lv_if_le (tgt := 37) C.1.1 C.1.2.1 dX19_signal_32 (by decide) (fun c2 => ?_) (fun c2 => ?_)
    · replace hD := g_pos c2 hD
      refine lv_iload_n C.1.1 C.1.2.1 dX19_signal_37 rfl (lv_at hl 2 rfl) ?_
      refine lv_if_eq (tgt := 50) C.1.1 C.1.2.1 dX19_signal_38 (by decide) (fun c3 => ?_) (fun c3 => ?_)
      · replace hD := g_pos c3 hD
        refine lv_aload_n C.1.1 C.1.2.1 dX19_signal_50 rfl (lv_at hl 0 rfl) ?_
        refine mr_getR C hw kc_19 53 (by decide) tf_732 ff_732_53 wd_2834 dX19_signal_51 (by decide) rfl ?_
        refine lv_iload_n C.1.1 C.1.2.1 dX19_signal_54 rfl (lv_at hl 1 rfl) ?_
        obtain ⟨q4, hD⟩ := g_ck hD
        refine mr_iald C hw (by decide) tf_767 q4 dX19_signal_55 ?_
        exact hb56 (M1 767 a1.toNatClampNeg) M1 L _ _ ls hD hw (lv_sub hl [] rfl)
      · replace hD := g_neg c3 hD
        refine lv_aload_n C.1.1 C.1.2.1 dX19_signal_41 rfl (lv_at hl 0 rfl) ?_
        refine mr_getR C hw kc_19 54 (by decide) tf_732 ff_732_54 wd_2835 dX19_signal_42 (by decide) rfl ?_
        refine lv_iload_n C.1.1 C.1.2.1 dX19_signal_45 rfl (lv_at hl 1 rfl) ?_
        obtain ⟨q5, hD⟩ := g_ck hD
        refine mr_iald C hw (by decide) tf_768 q5 dX19_signal_46 ?_
        refine lv_goto (tgt := 56) C.1.1 C.1.2.1 dX19_signal_47 (by decide) ?_
        exact hb56 (M1 768 a1.toNatClampNeg) M1 L _ _ ls hD hw (lv_sub hl [] rfl)
    · replace hD := g_neg c2 hD
      refine lv_iconst (v := 0) C.1.1 C.1.2.1 dX19_signal_35 (by decide) ?_
      exact mr_iret C hr hlocks hw rfl (Option.some.inj hD) dX19_signal_36
  have hb20 : ∀ (M : mwM) (L : mwL) (H : Heap) (locs : List Loc) (ls : Array Slot), fX19_signal_b20 fu a1 a2 M L = some (r0, M0, L0) → mw_W G ad NF TF FF M L H locs → lv_has ls 3 [(0, .ref (ad 732)), (1, .int a1), (2, .int a2)] → W p l e ({ frames := 0, cells := 0, slots := 0, locals := 0 }) s m [.ref (ad 732), .int a1, .int a2].toArray below meth c H locs 0 0 (MQ below (mw_Qi G ad NF TF FF (mw_eqI r0 M0 L0)) [.ref (ad 732), .int a1, .int a2].toArray s 0 0 (mw_fr G)) (F0 m 20 ls [.ref (ad 732)]) := by
    intro M L H locs ls hD hw hl
    unfold fX19_signal_b20 at hD
    refine lv_iconst (v := 1) C.1.1 C.1.2.1 dX19_signal_20 (by decide) ?_
    refine lv_goto (tgt := 25) C.1.1 C.1.2.1 dX19_signal_21 (by decide) ?_
    exact hb25 1 M L _ _ ls hD hw (lv_sub hl [0, 1, 2] rfl)
  unfold DX19_signal at hD
  refine lv_aload_n C.1.1 C.1.2.1 dX19_signal_0 rfl (lv_at hl 0 rfl) ?_
  refine lv_aload_n C.1.1 C.1.2.1 dX19_signal_1 rfl (lv_at hl 0 rfl) ?_
  refine mr_getI C hw kc_19 4 (by decide) tf_732 wd_2785 dX19_signal_2 (by decide) rfl ?_
  refine lv_if_eq (tgt := 20) C.1.1 C.1.2.1 dX19_signal_5 (by decide) (fun c6 => ?_) (fun c6 => ?_)
  · replace hD := g_pos c6 hD
    exact hb20 M L _ _ ls hD hw (lv_sub hl [0, 1, 2] rfl)
  · replace hD := g_neg c6 hD
    refine lv_iload_n C.1.1 C.1.2.1 dX19_signal_8 rfl (lv_at hl 1 rfl) ?_
    refine lv_if_lt (tgt := 20) C.1.1 C.1.2.1 dX19_signal_9 (by decide) (fun c7 => ?_) (fun c7 => ?_)
    · replace hD := g_pos c7 hD
      exact hb20 M L _ _ ls hD hw (lv_sub hl [0, 1, 2] rfl)
    · replace hD := g_neg c7 hD
      refine lv_iload_n C.1.1 C.1.2.1 dX19_signal_12 rfl (lv_at hl 1 rfl) ?_
      refine lv_aload_n C.1.1 C.1.2.1 dX19_signal_13 rfl (lv_at hl 0 rfl) ?_
      refine mr_getI C hw kc_19 45 (by decide) tf_732 wd_2826 dX19_signal_14 (by decide) rfl ?_
      refine lv_icmp_lt (tgt := 24) C.1.1 C.1.2.1 dX19_signal_17 (by decide) (fun c8 => ?_) (fun c8 => ?_)
      · replace hD := g_pos c8 hD
        refine lv_iconst (v := 0) C.1.1 C.1.2.1 dX19_signal_24 (by decide) ?_
        exact hb25 0 M L _ _ ls hD hw (lv_sub hl [0, 1, 2] rfl)
      · replace hD := g_neg c8 hD
        exact hb20 M L _ _ ls hD hw (lv_sub hl [0, 1, 2] rfl)

theorem dX19_time_0 : decode cX19_time 0 = .ok (.aload_n 0, 1) := by decide +kernel
theorem dX19_time_1 : decode cX19_time 1 = .ok (.iconst 0, 1) := by decide +kernel
theorem dX19_time_2 : decode cX19_time 2 = .ok (.putfield 289, 3) := by decide +kernel
theorem dX19_time_5 : decode cX19_time 5 = .ok (.aload_n 0, 1) := by decide +kernel
theorem dX19_time_6 : decode cX19_time 6 = .ok (.getfield 630, 3) := by decide +kernel
theorem dX19_time_9 : decode cX19_time 9 = .ok (.ifCond .eq 10, 3) := by decide +kernel
theorem dX19_time_12 : decode cX19_time 12 = .ok (.aload_n 0, 1) := by decide +kernel
theorem dX19_time_13 : decode cX19_time 13 = .ok (.getfield 600, 3) := by decide +kernel
theorem dX19_time_16 : decode cX19_time 16 = .ok (.goto 4, 3) := by decide +kernel
theorem dX19_time_19 : decode cX19_time 19 = .ok (.iconst 0, 1) := by decide +kernel
theorem dX19_time_20 : decode cX19_time 20 = .ok (.ireturn, 1) := by decide +kernel
theorem cwX19_time : mw_cwV yX19_time cX19_time 1 ((some .int)) 0 := ⟨⟨wd_13, wd_4205, by decide +kernel⟩, wd_4203, wd_4204⟩
noncomputable def fX19_time_b20 (fu : Nat) (s0 : Int32) (M : mwM) (L : mwL) : Option (Int32 × mwM × mwL) :=
  some (s0, M, L)
noncomputable def DX19_time (fu : Nat) (M : mwM) (L : mwL) : Option (Int32 × mwM × mwL) :=
  mlet (mset M 732 0 0) (fun M1 => (if (M1 732 4) = 0 then fX19_time_b20 fu 0 M1 L else fX19_time_b20 fu (M1 732 83) M1 L))
set_option maxHeartbeats 4000000 in
set_option maxRecDepth 100000 in
theorem tX19_time (l : Launch) (G : mwG) (ad : Nat → Nat) (fu : Nat) (M : mwM) (L : mwL) {r0 : Int32} {M0 : mwM} {L0 : mwL} (hD : DX19_time fu M L = some (r0, M0, L0)) : Met l yX19_time (Cond.code yX19_time cX19_time 1 ((some .int)) :: GT) ({ frames := 0, cells := 0, slots := 0, locals := 0 }) (mw_Pre G ad NF TF FF M L [.ref (ad 732)]) (mw_Qi G ad NF TF FF (mw_eqI r0 M0 L0)) 0 0 (mw_fr G) := by
  refine mw_enter (by decide) (Nat.le_of_ble_eq_true rfl) ?_
  intro p e s m below meth c ls C hr hlocks hnm hw hl
  have hl : lv_has ls 1 [(0, .ref (ad 732))] := hl
  have hb20 : ∀ (s0 : Int32) (M : mwM) (L : mwL) (H : Heap) (locs : List Loc) (ls : Array Slot), fX19_time_b20 fu s0 M L = some (r0, M0, L0) → mw_W G ad NF TF FF M L H locs → lv_has ls 1 [] → W p l e ({ frames := 0, cells := 0, slots := 0, locals := 0 }) s m [.ref (ad 732)].toArray below meth c H locs 0 0 (MQ below (mw_Qi G ad NF TF FF (mw_eqI r0 M0 L0)) [.ref (ad 732)].toArray s 0 0 (mw_fr G)) (F0 m 20 ls [.int s0]) := by
    intro s0 M L H locs ls hD hw hl
    unfold fX19_time_b20 at hD
    exact mr_iret C hr hlocks hw rfl (Option.some.inj hD) dX19_time_20
  unfold DX19_time at hD
  refine lv_aload_n C.1.1 C.1.2.1 dX19_time_0 rfl (lv_at hl 0 rfl) ?_
  refine lv_iconst (v := 0) C.1.1 C.1.2.1 dX19_time_1 (by decide) ?_
  obtain ⟨M1, eM1, hD⟩ := g_let hD
  refine mr_putI C hw kc_19 0 (by decide) tf_732 wd_2781 dX19_time_2 (by decide) rfl rfl rfl rfl (fun H locs hw => ?_)
  replace hw : mw_W G ad NF TF FF M1 L H locs := by rw [eM1]; exact hw
  refine lv_aload_n C.1.1 C.1.2.1 dX19_time_5 rfl (lv_at hl 0 rfl) ?_
  refine mr_getI C hw kc_19 4 (by decide) tf_732 wd_2785 dX19_time_6 (by decide) rfl ?_
  refine lv_if_eq (tgt := 19) C.1.1 C.1.2.1 dX19_time_9 (by decide) (fun c2 => ?_) (fun c2 => ?_)
  · replace hD := g_pos c2 hD
    refine lv_iconst (v := 0) C.1.1 C.1.2.1 dX19_time_19 (by decide) ?_
    exact hb20 0 M1 L _ _ ls hD hw (lv_sub hl [] rfl)
  · replace hD := g_neg c2 hD
    refine lv_aload_n C.1.1 C.1.2.1 dX19_time_12 rfl (lv_at hl 0 rfl) ?_
    refine mr_getI C hw kc_19 83 (by decide) tf_732 wd_2864 dX19_time_13 (by decide) rfl ?_
    refine lv_goto (tgt := 20) C.1.1 C.1.2.1 dX19_time_16 (by decide) ?_
    exact hb20 (M1 732 83) M1 L _ _ ls hD hw (lv_sub hl [] rfl)
