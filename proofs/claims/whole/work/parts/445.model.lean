theorem dX19_build_0 : decode cX19_build 0 = .ok (.aload_n 0, 1) := by decide +kernel
theorem dX19_build_1 : decode cX19_build 1 = .ok (.getfield 177, 3) := by decide +kernel
theorem dX19_build_4 : decode cX19_build 4 = .ok (.aload_n 0, 1) := by decide +kernel
theorem dX19_build_5 : decode cX19_build 5 = .ok (.getfield 435, 3) := by decide +kernel
theorem dX19_build_8 : decode cX19_build 8 = .ok (.invokevirtual 584, 3) := by decide +kernel
theorem dX19_build_11 : decode cX19_build 11 = .ok (.aload_n 0, 1) := by decide +kernel
theorem dX19_build_12 : decode cX19_build 12 = .ok (.getfield 184, 3) := by decide +kernel
theorem dX19_build_15 : decode cX19_build 15 = .ok (.aload_n 0, 1) := by decide +kernel
theorem dX19_build_16 : decode cX19_build 16 = .ok (.getfield 435, 3) := by decide +kernel
theorem dX19_build_19 : decode cX19_build 19 = .ok (.iconst 1, 1) := by decide +kernel
theorem dX19_build_20 : decode cX19_build 20 = .ok (.iadd, 1) := by decide +kernel
theorem dX19_build_21 : decode cX19_build 21 = .ok (.invokevirtual 585, 3) := by decide +kernel
theorem dX19_build_24 : decode cX19_build 24 = .ok (.aload_n 0, 1) := by decide +kernel
theorem dX19_build_25 : decode cX19_build 25 = .ok (.getfield 198, 3) := by decide +kernel
theorem dX19_build_28 : decode cX19_build 28 = .ok (.sipush 4095, 3) := by decide +kernel
theorem dX19_build_31 : decode cX19_build 31 = .ok (.invokevirtual 588, 3) := by decide +kernel
theorem dX19_build_34 : decode cX19_build 34 = .ok (.iconst 0, 1) := by decide +kernel
theorem dX19_build_35 : decode cX19_build 35 = .ok (.istore_n 1, 1) := by decide +kernel
theorem dX19_build_36 : decode cX19_build 36 = .ok (.iload_n 1, 1) := by decide +kernel
theorem dX19_build_37 : decode cX19_build 37 = .ok (.aload_n 0, 1) := by decide +kernel
theorem dX19_build_38 : decode cX19_build 38 = .ok (.getfield 448, 3) := by decide +kernel
theorem dX19_build_41 : decode cX19_build 41 = .ok (.if_icmp .ge 105, 3) := by decide +kernel
theorem dX19_build_44 : decode cX19_build 44 = .ok (.aload_n 0, 1) := by decide +kernel
theorem dX19_build_45 : decode cX19_build 45 = .ok (.getfield 177, 3) := by decide +kernel
theorem dX19_build_48 : decode cX19_build 48 = .ok (.aload_n 0, 1) := by decide +kernel
theorem dX19_build_49 : decode cX19_build 49 = .ok (.getfield 40, 3) := by decide +kernel
theorem dX19_build_52 : decode cX19_build 52 = .ok (.iload_n 1, 1) := by decide +kernel
theorem dX19_build_53 : decode cX19_build 53 = .ok (.iaload, 1) := by decide +kernel
theorem dX19_build_54 : decode cX19_build 54 = .ok (.aload_n 0, 1) := by decide +kernel
theorem dX19_build_55 : decode cX19_build 55 = .ok (.getfield 37, 3) := by decide +kernel
theorem dX19_build_58 : decode cX19_build 58 = .ok (.iload_n 1, 1) := by decide +kernel
theorem dX19_build_59 : decode cX19_build 59 = .ok (.iaload, 1) := by decide +kernel
theorem dX19_build_60 : decode cX19_build 60 = .ok (.iconst 2, 1) := by decide +kernel
theorem dX19_build_61 : decode cX19_build 61 = .ok (.iconst 0, 1) := by decide +kernel
theorem dX19_build_62 : decode cX19_build 62 = .ok (.invokevirtual 589, 3) := by decide +kernel
theorem dX19_build_65 : decode cX19_build 65 = .ok (.istore_n 2, 1) := by decide +kernel
theorem dX19_build_66 : decode cX19_build 66 = .ok (.aload_n 0, 1) := by decide +kernel
theorem dX19_build_67 : decode cX19_build 67 = .ok (.getfield 177, 3) := by decide +kernel
theorem dX19_build_70 : decode cX19_build 70 = .ok (.iload_n 2, 1) := by decide +kernel
theorem dX19_build_71 : decode cX19_build 71 = .ok (.iconst 0, 1) := by decide +kernel
theorem dX19_build_72 : decode cX19_build 72 = .ok (.aload_n 0, 1) := by decide +kernel
theorem dX19_build_73 : decode cX19_build 73 = .ok (.getfield 49, 3) := by decide +kernel
theorem dX19_build_76 : decode cX19_build 76 = .ok (.iload_n 1, 1) := by decide +kernel
theorem dX19_build_77 : decode cX19_build 77 = .ok (.iaload, 1) := by decide +kernel
theorem dX19_build_78 : decode cX19_build 78 = .ok (.i2l, 1) := by decide +kernel
theorem dX19_build_79 : decode cX19_build 79 = .ok (.invokevirtual 593, 3) := by decide +kernel
theorem dX19_build_82 : decode cX19_build 82 = .ok (.istore_n 3, 1) := by decide +kernel
theorem dX19_build_83 : decode cX19_build 83 = .ok (.aload_n 0, 1) := by decide +kernel
theorem dX19_build_84 : decode cX19_build 84 = .ok (.getfield 46, 3) := by decide +kernel
theorem dX19_build_87 : decode cX19_build 87 = .ok (.iload_n 1, 1) := by decide +kernel
theorem dX19_build_88 : decode cX19_build 88 = .ok (.iaload, 1) := by decide +kernel
theorem dX19_build_89 : decode cX19_build 89 = .ok (.istore 4, 2) := by decide +kernel
theorem dX19_build_91 : decode cX19_build 91 = .ok (.iload 4, 2) := by decide +kernel
theorem dX19_build_93 : decode cX19_build 93 = .ok (.sipush 20000, 3) := by decide +kernel
theorem dX19_build_96 : decode cX19_build 96 = .ok (.if_icmp .ge 44, 3) := by decide +kernel
theorem dX19_build_99 : decode cX19_build 99 = .ok (.aload_n 0, 1) := by decide +kernel
theorem dX19_build_100 : decode cX19_build 100 = .ok (.getfield 177, 3) := by decide +kernel
theorem dX19_build_103 : decode cX19_build 103 = .ok (.iload_n 2, 1) := by decide +kernel
theorem dX19_build_104 : decode cX19_build 104 = .ok (.iload 4, 2) := by decide +kernel
theorem dX19_build_106 : decode cX19_build 106 = .ok (.i2l, 1) := by decide +kernel
theorem dX19_build_107 : decode cX19_build 107 = .ok (.invokevirtual 597, 3) := by decide +kernel
theorem dX19_build_110 : decode cX19_build 110 = .ok (.ifCond .ge 16, 3) := by decide +kernel
theorem dX19_build_113 : decode cX19_build 113 = .ok (.aload_n 0, 1) := by decide +kernel
theorem dX19_build_114 : decode cX19_build 114 = .ok (.bipush 6, 2) := by decide +kernel
theorem dX19_build_116 : decode cX19_build 116 = .ok (.aload_n 0, 1) := by decide +kernel
theorem dX19_build_117 : decode cX19_build 117 = .ok (.getfield 34, 3) := by decide +kernel
theorem dX19_build_120 : decode cX19_build 120 = .ok (.iload_n 1, 1) := by decide +kernel
theorem dX19_build_121 : decode cX19_build 121 = .ok (.iaload, 1) := by decide +kernel
theorem dX19_build_122 : decode cX19_build 122 = .ok (.invokevirtual 321, 3) := by decide +kernel
theorem dX19_build_125 : decode cX19_build 125 = .ok (.ireturn, 1) := by decide +kernel
theorem dX19_build_126 : decode cX19_build 126 = .ok (.iload 4, 2) := by decide +kernel
theorem dX19_build_128 : decode cX19_build 128 = .ok (.aload_n 0, 1) := by decide +kernel
theorem dX19_build_129 : decode cX19_build 129 = .ok (.getfield 43, 3) := by decide +kernel
theorem dX19_build_132 : decode cX19_build 132 = .ok (.iload_n 1, 1) := by decide +kernel
theorem dX19_build_133 : decode cX19_build 133 = .ok (.iaload, 1) := by decide +kernel
theorem dX19_build_134 : decode cX19_build 134 = .ok (.iadd, 1) := by decide +kernel
theorem dX19_build_135 : decode cX19_build 135 = .ok (.istore 4, 2) := by decide +kernel
theorem dX19_build_137 : decode cX19_build 137 = .ok (.goto (-46), 3) := by decide +kernel
theorem dX19_build_140 : decode cX19_build 140 = .ok (.iinc 1 1, 3) := by decide +kernel
theorem dX19_build_143 : decode cX19_build 143 = .ok (.goto (-107), 3) := by decide +kernel
theorem dX19_build_146 : decode cX19_build 146 = .ok (.aload_n 0, 1) := by decide +kernel
theorem dX19_build_147 : decode cX19_build 147 = .ok (.iconst 0, 1) := by decide +kernel
theorem dX19_build_148 : decode cX19_build 148 = .ok (.putfield 600, 3) := by decide +kernel
theorem dX19_build_151 : decode cX19_build 151 = .ok (.aload_n 0, 1) := by decide +kernel
theorem dX19_build_152 : decode cX19_build 152 = .ok (.iconst 0, 1) := by decide +kernel
theorem dX19_build_153 : decode cX19_build 153 = .ok (.putfield 603, 3) := by decide +kernel
theorem dX19_build_156 : decode cX19_build 156 = .ok (.aload_n 0, 1) := by decide +kernel
theorem dX19_build_157 : decode cX19_build 157 = .ok (.iconst 0, 1) := by decide +kernel
theorem dX19_build_158 : decode cX19_build 158 = .ok (.putfield 606, 3) := by decide +kernel
theorem dX19_build_161 : decode cX19_build 161 = .ok (.aload_n 0, 1) := by decide +kernel
theorem dX19_build_162 : decode cX19_build 162 = .ok (.iconst 0, 1) := by decide +kernel
theorem dX19_build_163 : decode cX19_build 163 = .ok (.putfield 609, 3) := by decide +kernel
theorem dX19_build_166 : decode cX19_build 166 = .ok (.aload_n 0, 1) := by decide +kernel
theorem dX19_build_167 : decode cX19_build 167 = .ok (.iconst 0, 1) := by decide +kernel
theorem dX19_build_168 : decode cX19_build 168 = .ok (.putfield 612, 3) := by decide +kernel
theorem dX19_build_171 : decode cX19_build 171 = .ok (.aload_n 0, 1) := by decide +kernel
theorem dX19_build_172 : decode cX19_build 172 = .ok (.iconst 0, 1) := by decide +kernel
theorem dX19_build_173 : decode cX19_build 173 = .ok (.putfield 615, 3) := by decide +kernel
theorem dX19_build_176 : decode cX19_build 176 = .ok (.aload_n 0, 1) := by decide +kernel
theorem dX19_build_177 : decode cX19_build 177 = .ok (.iconst (-1), 1) := by decide +kernel
theorem dX19_build_178 : decode cX19_build 178 = .ok (.putfield 245, 3) := by decide +kernel
theorem dX19_build_181 : decode cX19_build 181 = .ok (.aload_n 0, 1) := by decide +kernel
theorem dX19_build_182 : decode cX19_build 182 = .ok (.iconst 0, 1) := by decide +kernel
theorem dX19_build_183 : decode cX19_build 183 = .ok (.putfield 618, 3) := by decide +kernel
theorem dX19_build_186 : decode cX19_build 186 = .ok (.aload_n 0, 1) := by decide +kernel
theorem dX19_build_187 : decode cX19_build 187 = .ok (.iconst 0, 1) := by decide +kernel
theorem dX19_build_188 : decode cX19_build 188 = .ok (.putfield 621, 3) := by decide +kernel
theorem dX19_build_191 : decode cX19_build 191 = .ok (.iconst 0, 1) := by decide +kernel
theorem dX19_build_192 : decode cX19_build 192 = .ok (.istore_n 1, 1) := by decide +kernel
theorem dX19_build_193 : decode cX19_build 193 = .ok (.iload_n 1, 1) := by decide +kernel
theorem dX19_build_194 : decode cX19_build 194 = .ok (.bipush 7, 2) := by decide +kernel
theorem dX19_build_196 : decode cX19_build 196 = .ok (.if_icmp .ge 16, 3) := by decide +kernel
theorem dX19_build_199 : decode cX19_build 199 = .ok (.aload_n 0, 1) := by decide +kernel
theorem dX19_build_200 : decode cX19_build 200 = .ok (.getfield 224, 3) := by decide +kernel
theorem dX19_build_203 : decode cX19_build 203 = .ok (.iload_n 1, 1) := by decide +kernel
theorem dX19_build_204 : decode cX19_build 204 = .ok (.iconst 0, 1) := by decide +kernel
theorem dX19_build_205 : decode cX19_build 205 = .ok (.iastore, 1) := by decide +kernel
theorem dX19_build_206 : decode cX19_build 206 = .ok (.iinc 1 1, 3) := by decide +kernel
theorem dX19_build_209 : decode cX19_build 209 = .ok (.goto (-16), 3) := by decide +kernel
theorem dX19_build_212 : decode cX19_build 212 = .ok (.iconst 0, 1) := by decide +kernel
theorem dX19_build_213 : decode cX19_build 213 = .ok (.istore_n 1, 1) := by decide +kernel
theorem dX19_build_214 : decode cX19_build 214 = .ok (.iload_n 1, 1) := by decide +kernel
theorem dX19_build_215 : decode cX19_build 215 = .ok (.iconst 5, 1) := by decide +kernel
theorem dX19_build_216 : decode cX19_build 216 = .ok (.if_icmp .ge 16, 3) := by decide +kernel
theorem dX19_build_219 : decode cX19_build 219 = .ok (.aload_n 0, 1) := by decide +kernel
theorem dX19_build_220 : decode cX19_build 220 = .ok (.getfield 273, 3) := by decide +kernel
theorem dX19_build_223 : decode cX19_build 223 = .ok (.iload_n 1, 1) := by decide +kernel
theorem dX19_build_224 : decode cX19_build 224 = .ok (.iconst 0, 1) := by decide +kernel
theorem dX19_build_225 : decode cX19_build 225 = .ok (.iastore, 1) := by decide +kernel
theorem dX19_build_226 : decode cX19_build 226 = .ok (.iinc 1 1, 3) := by decide +kernel
theorem dX19_build_229 : decode cX19_build 229 = .ok (.goto (-15), 3) := by decide +kernel
theorem dX19_build_232 : decode cX19_build 232 = .ok (.iconst 0, 1) := by decide +kernel
theorem dX19_build_233 : decode cX19_build 233 = .ok (.istore_n 1, 1) := by decide +kernel
theorem dX19_build_234 : decode cX19_build 234 = .ok (.iload_n 1, 1) := by decide +kernel
theorem dX19_build_235 : decode cX19_build 235 = .ok (.sipush 240, 3) := by decide +kernel
theorem dX19_build_238 : decode cX19_build 238 = .ok (.if_icmp .ge 16, 3) := by decide +kernel
theorem dX19_build_241 : decode cX19_build 241 = .ok (.aload_n 0, 1) := by decide +kernel
theorem dX19_build_242 : decode cX19_build 242 = .ok (.getfield 171, 3) := by decide +kernel
theorem dX19_build_245 : decode cX19_build 245 = .ok (.iload_n 1, 1) := by decide +kernel
theorem dX19_build_246 : decode cX19_build 246 = .ok (.lconst 0, 1) := by decide +kernel
theorem dX19_build_247 : decode cX19_build 247 = .ok (.lastore, 1) := by decide +kernel
theorem dX19_build_248 : decode cX19_build 248 = .ok (.iinc 1 1, 3) := by decide +kernel
theorem dX19_build_251 : decode cX19_build 251 = .ok (.goto (-17), 3) := by decide +kernel
theorem dX19_build_254 : decode cX19_build 254 = .ok (.iconst 0, 1) := by decide +kernel
theorem dX19_build_255 : decode cX19_build 255 = .ok (.istore_n 1, 1) := by decide +kernel
theorem dX19_build_256 : decode cX19_build 256 = .ok (.iload_n 1, 1) := by decide +kernel
theorem dX19_build_257 : decode cX19_build 257 = .ok (.bipush 6, 2) := by decide +kernel
theorem dX19_build_259 : decode cX19_build 259 = .ok (.if_icmp .ge 51, 3) := by decide +kernel
theorem dX19_build_262 : decode cX19_build 262 = .ok (.aload_n 0, 1) := by decide +kernel
theorem dX19_build_263 : decode cX19_build 263 = .ok (.getfield 221, 3) := by decide +kernel
theorem dX19_build_266 : decode cX19_build 266 = .ok (.iload_n 1, 1) := by decide +kernel
theorem dX19_build_267 : decode cX19_build 267 = .ok (.iconst 0, 1) := by decide +kernel
theorem dX19_build_268 : decode cX19_build 268 = .ok (.bastore, 1) := by decide +kernel
theorem dX19_build_269 : decode cX19_build 269 = .ok (.aload_n 0, 1) := by decide +kernel
theorem dX19_build_270 : decode cX19_build 270 = .ok (.getfield 258, 3) := by decide +kernel
theorem dX19_build_273 : decode cX19_build 273 = .ok (.iload_n 1, 1) := by decide +kernel
theorem dX19_build_274 : decode cX19_build 274 = .ok (.iconst 1, 1) := by decide +kernel
theorem dX19_build_275 : decode cX19_build 275 = .ok (.iastore, 1) := by decide +kernel
theorem dX19_build_276 : decode cX19_build 276 = .ok (.aload_n 0, 1) := by decide +kernel
theorem dX19_build_277 : decode cX19_build 277 = .ok (.getfield 261, 3) := by decide +kernel
theorem dX19_build_280 : decode cX19_build 280 = .ok (.iload_n 1, 1) := by decide +kernel
theorem dX19_build_281 : decode cX19_build 281 = .ok (.iconst 0, 1) := by decide +kernel
theorem dX19_build_282 : decode cX19_build 282 = .ok (.bastore, 1) := by decide +kernel
theorem dX19_build_283 : decode cX19_build 283 = .ok (.aload_n 0, 1) := by decide +kernel
theorem dX19_build_284 : decode cX19_build 284 = .ok (.getfield 264, 3) := by decide +kernel
theorem dX19_build_287 : decode cX19_build 287 = .ok (.iload_n 1, 1) := by decide +kernel
theorem dX19_build_288 : decode cX19_build 288 = .ok (.iconst 0, 1) := by decide +kernel
theorem dX19_build_289 : decode cX19_build 289 = .ok (.bastore, 1) := by decide +kernel
theorem dX19_build_290 : decode cX19_build 290 = .ok (.aload_n 0, 1) := by decide +kernel
theorem dX19_build_291 : decode cX19_build 291 = .ok (.getfield 267, 3) := by decide +kernel
theorem dX19_build_294 : decode cX19_build 294 = .ok (.iload_n 1, 1) := by decide +kernel
theorem dX19_build_295 : decode cX19_build 295 = .ok (.iconst 0, 1) := by decide +kernel
theorem dX19_build_296 : decode cX19_build 296 = .ok (.iastore, 1) := by decide +kernel
theorem dX19_build_297 : decode cX19_build 297 = .ok (.aload_n 0, 1) := by decide +kernel
theorem dX19_build_298 : decode cX19_build 298 = .ok (.getfield 270, 3) := by decide +kernel
theorem dX19_build_301 : decode cX19_build 301 = .ok (.iload_n 1, 1) := by decide +kernel
theorem dX19_build_302 : decode cX19_build 302 = .ok (.iconst 0, 1) := by decide +kernel
theorem dX19_build_303 : decode cX19_build 303 = .ok (.iastore, 1) := by decide +kernel
theorem dX19_build_304 : decode cX19_build 304 = .ok (.iinc 1 1, 3) := by decide +kernel
theorem dX19_build_307 : decode cX19_build 307 = .ok (.goto (-51), 3) := by decide +kernel
theorem dX19_build_310 : decode cX19_build 310 = .ok (.iconst 1, 1) := by decide +kernel
theorem dX19_build_311 : decode cX19_build 311 = .ok (.ireturn, 1) := by decide +kernel
theorem cwX19_build : mw_cwV yX19_build cX19_build 5 ((some .boolean)) 0 := ⟨⟨wd_13, wd_3494, by decide +kernel⟩, wd_3493, sl_213⟩
noncomputable def fX19_build_i256 (fu : Nat) (r256 : (Int32 × mwM × mwL) → Option (Int32 × mwM × mwL)) (v1 : Int32) (M : mwM) (L : mwL) : Option (Int32 × mwM × mwL) :=
  (if 6 ≤ v1 then some (1, M, L) else mck v1 6 (mlet (mset M 923 (v1.toNatClampNeg) (vp_nar .boolean 0)) (fun M49 => mck v1 6 (mlet (mset M49 934 (v1.toNatClampNeg) 1) (fun M51 => mck v1 6 (mlet (mset M51 935 (v1.toNatClampNeg) (vp_nar .boolean 0)) (fun M53 => mck v1 6 (mlet (mset M53 936 (v1.toNatClampNeg) (vp_nar .boolean 0)) (fun M55 => mck v1 6 (mlet (mset M55 937 (v1.toNatClampNeg) 0) (fun M57 => mck v1 6 (mlet (mset M57 938 (v1.toNatClampNeg) 0) (fun M59 => mlet (v1 + 1) (fun x60 => r256 (x60, M59, L)))))))))))))))
noncomputable def fX19_build_h256 (fu : Nat) : Nat → (Int32 × mwM × mwL) → Option (Int32 × mwM × mwL) := mloop (fun r256 s => fX19_build_i256 fu r256 s.1 s.2.1 s.2.2)
noncomputable def fX19_build_i234 (fu : Nat) (r234 : (Int32 × mwM × mwL) → Option (Int32 × mwM × mwL)) (v1 : Int32) (M : mwM) (L : mwL) : Option (Int32 × mwM × mwL) :=
  (if 240 ≤ v1 then fX19_build_h256 fu fu (0, M, L) else mck v1 240 (mlet (mset L 786 (v1.toNatClampNeg) 0) (fun L45 => mlet (v1 + 1) (fun x46 => r234 (x46, M, L45)))))
noncomputable def fX19_build_h234 (fu : Nat) : Nat → (Int32 × mwM × mwL) → Option (Int32 × mwM × mwL) := mloop (fun r234 s => fX19_build_i234 fu r234 s.1 s.2.1 s.2.2)
noncomputable def fX19_build_i214 (fu : Nat) (r214 : (Int32 × mwM × mwL) → Option (Int32 × mwM × mwL)) (v1 : Int32) (M : mwM) (L : mwL) : Option (Int32 × mwM × mwL) :=
  (if 5 ≤ v1 then fX19_build_h234 fu fu (0, M, L) else mck v1 5 (mlet (mset M 939 (v1.toNatClampNeg) 0) (fun M41 => mlet (v1 + 1) (fun x42 => r214 (x42, M41, L)))))
noncomputable def fX19_build_h214 (fu : Nat) : Nat → (Int32 × mwM × mwL) → Option (Int32 × mwM × mwL) := mloop (fun r214 s => fX19_build_i214 fu r214 s.1 s.2.1 s.2.2)
noncomputable def fX19_build_i193 (fu : Nat) (r193 : (Int32 × mwM × mwL) → Option (Int32 × mwM × mwL)) (v1 : Int32) (M : mwM) (L : mwL) : Option (Int32 × mwM × mwL) :=
  (if 7 ≤ v1 then fX19_build_h214 fu fu (0, M, L) else mck v1 7 (mlet (mset M 924 (v1.toNatClampNeg) 0) (fun M37 => mlet (v1 + 1) (fun x38 => r193 (x38, M37, L)))))
noncomputable def fX19_build_h193 (fu : Nat) : Nat → (Int32 × mwM × mwL) → Option (Int32 × mwM × mwL) := mloop (fun r193 s => fX19_build_i193 fu r193 s.1 s.2.1 s.2.2)
noncomputable def fX19_build_i91 (fu : Nat) (r36 : (Int32 × mwM × mwL) → Option (Int32 × mwM × mwL)) (r91 : (Int32 × Int32 × Int32 × mwM × mwL) → Option (Int32 × mwM × mwL)) (v1 : Int32) (v2 : Int32) (v4 : Int32) (M : mwM) (L : mwL) : Option (Int32 × mwM × mwL) :=
  (if 20000 ≤ v4 then mlet (v1 + 1) (fun x23 => r36 (x23, M, L)) else mb3 (DX15_activate fu v2 v4.toInt64 M L) (fun r26 M24 L25 => (if 0 ≤ r26 then mck v1 12 (mlet (v4 + (M24 744 v1.toNatClampNeg)) (fun x29 => r91 (v1, v2, x29, M24, L25))) else mck v1 12 (mb3 (DX19_fail fu 6 (M24 741 v1.toNatClampNeg) M24 L25) (fun r33 M31 L32 => mzz r33 (some (r33, M31, L32)))))))
noncomputable def fX19_build_h91 (fu : Nat) (r36 : (Int32 × mwM × mwL) → Option (Int32 × mwM × mwL)) : Nat → (Int32 × Int32 × Int32 × mwM × mwL) → Option (Int32 × mwM × mwL) := mloop (fun r91 s => fX19_build_i91 fu r36 r91 s.1 s.2.1 s.2.2.1 s.2.2.2.1 s.2.2.2.2)
noncomputable def fX19_build_i36 (fu : Nat) (r36 : (Int32 × mwM × mwL) → Option (Int32 × mwM × mwL)) (v1 : Int32) (M : mwM) (L : mwL) : Option (Int32 × mwM × mwL) :=
  (if (M 732 24) ≤ v1 then mlet (mset M 732 83 0) (fun M2 => mlet (mset M2 732 88 0) (fun M3 => mlet (mset M3 732 91 0) (fun M4 => mlet (mset M4 732 94 0) (fun M5 => mlet (mset M5 732 95 0) (fun M6 => mlet (mset M6 732 96 0) (fun M7 => mlet (mset M7 732 97 ((-1))) (fun M8 => mlet (mset M8 732 98 0) (fun M9 => mlet (mset M9 732 108 0) (fun M10 => fX19_build_h193 fu fu (0, M10, L)))))))))) else mck v1 12 (mck v1 12 (mb3 (DX15_task fu (M 743 v1.toNatClampNeg) (M 742 v1.toNatClampNeg) 2 0 M L) (fun r15 M13 L14 => mck v1 12 (mb3 (DX15_part fu r15 0 ((M13 746 v1.toNatClampNeg).toInt64) M13 L14) (fun r19 M17 L18 => mck v1 12 (mlet (M17 745 v1.toNatClampNeg) (fun x21 => fX19_build_h91 fu r36 fu (v1, r15, x21, M17, L18)))))))))
noncomputable def fX19_build_h36 (fu : Nat) : Nat → (Int32 × mwM × mwL) → Option (Int32 × mwM × mwL) := mloop (fun r36 s => fX19_build_i36 fu r36 s.1 s.2.1 s.2.2)
noncomputable def DX19_build (fu : Nat) (M : mwM) (L : mwL) : Option (Int32 × mwM × mwL) :=
  mb2 (DX15_anew fu (M 732 19) M L) (fun M61 L62 => mb2 (DX12_nodes fu ((M61 732 19) + 1) M61 L62) (fun M63 L64 => mb2 (DX17_anew fu 4095 M63 L64) (fun M65 L66 => fX19_build_h36 fu fu (0, M65, L66))))
set_option maxHeartbeats 4000000 in
set_option maxRecDepth 100000 in
theorem tX19_build (l : Launch) (G : mwG) (ad : Nat → Nat) (fu : Nat) (M : mwM) (L : mwL) {r0 : Int32} {M0 : mwM} {L0 : mwL} (hD : DX19_build fu M L = some (r0, M0, L0)) : Met l yX19_build (Cond.code yX19_build cX19_build 5 ((some .boolean)) :: GT) ({ frames := 2, cells := 0, slots := 0, locals := 48 }) (mw_Pre G ad NF TF FF M L [.ref (ad 732)]) (mw_Qi G ad NF TF FF (mw_eqI r0 M0 L0)) 0 0 (mw_fr G) := by
  refine mw_enter (by decide) (Nat.le_of_ble_eq_true rfl) ?_
  intro p e s m below meth c ls C hr hlocks hnm hw hl
  have hl : lv_has ls 5 [(0, .ref (ad 732))] := hl
  have hh256 : ∀ (f : Nat) (v1 : Int32) (M : mwM) (L : mwL) (H : Heap) (locs : List Loc) (ls : Array Slot), fX19_build_h256 fu f (v1, M, L) = some (r0, M0, L0) → mw_W G ad NF TF FF M L H locs → lv_has ls 5 [(0, .ref (ad 732)), (1, .int v1)] → W p l e ({ frames := 2, cells := 0, slots := 0, locals := 48 }) s m [.ref (ad 732)].toArray below meth c H locs 0 0 (MQ below (mw_Qi G ad NF TF FF (mw_eqI r0 M0 L0)) [.ref (ad 732)].toArray s 0 0 (mw_fr G)) (F0 m 256 ls []) := by
    intro f
    induction f with
    | zero => intro v1 M L H locs ls hD; cases hD
    | succ f256 ih256 =>
      intro v1 M L H locs ls hD hw hl
      replace hD : fX19_build_i256 fu (fX19_build_h256 fu f256) v1 M L = some (r0, M0, L0) := hD
      unfold fX19_build_i256 at hD
      refine lv_iload_n C.1.1 C.1.2.1 dX19_build_256 rfl (lv_at hl 1 rfl) ?_
      refine lv_bipush (v := 6) C.1.1 C.1.2.1 dX19_build_257 (by decide) ?_
      refine lv_icmp_ge (tgt := 310) C.1.1 C.1.2.1 dX19_build_259 (by decide) (fun c47 => ?_) (fun c47 => ?_)
      · replace hD := g_pos c47 hD
        refine lv_iconst (v := 1) C.1.1 C.1.2.1 dX19_build_310 (by decide) ?_
        exact mr_iret C hr hlocks hw (by decide +kernel) (Option.some.inj hD) dX19_build_311
      · replace hD := g_neg c47 hD
        refine lv_aload_n C.1.1 C.1.2.1 dX19_build_262 rfl (lv_at hl 0 rfl) ?_
        refine mr_getR C hw kc_19 84 (by decide) tf_732 ff_732_84 wd_2865 dX19_build_263 (by decide) rfl ?_
        refine lv_iload_n C.1.1 C.1.2.1 dX19_build_266 rfl (lv_at hl 1 rfl) ?_
        refine lv_iconst (v := 0) C.1.1 C.1.2.1 dX19_build_267 (by decide) ?_
        obtain ⟨q48, hD⟩ := g_ck hD
        obtain ⟨M49, eM49, hD⟩ := g_let hD
        refine mr_zast C hw (by decide) tf_923 q48 dX19_build_268 (fun H locs hw => ?_)
        replace hw : mw_W G ad NF TF FF M49 L H locs := by rw [eM49]; exact hw
        refine lv_aload_n C.1.1 C.1.2.1 dX19_build_269 rfl (lv_at hl 0 rfl) ?_
        refine mr_getR C hw kc_19 103 (by decide) tf_732 ff_732_103 wd_2884 dX19_build_270 (by decide) rfl ?_
        refine lv_iload_n C.1.1 C.1.2.1 dX19_build_273 rfl (lv_at hl 1 rfl) ?_
        refine lv_iconst (v := 1) C.1.1 C.1.2.1 dX19_build_274 (by decide) ?_
        obtain ⟨q50, hD⟩ := g_ck hD
        obtain ⟨M51, eM51, hD⟩ := g_let hD
        refine mr_iast C hw (by decide) tf_934 q50 dX19_build_275 (fun H locs hw => ?_)
        replace hw : mw_W G ad NF TF FF M51 L H locs := by rw [eM51]; exact hw
        refine lv_aload_n C.1.1 C.1.2.1 dX19_build_276 rfl (lv_at hl 0 rfl) ?_
        refine mr_getR C hw kc_19 104 (by decide) tf_732 ff_732_104 wd_2885 dX19_build_277 (by decide) rfl ?_
        refine lv_iload_n C.1.1 C.1.2.1 dX19_build_280 rfl (lv_at hl 1 rfl) ?_
        refine lv_iconst (v := 0) C.1.1 C.1.2.1 dX19_build_281 (by decide) ?_
        obtain ⟨q52, hD⟩ := g_ck hD
        obtain ⟨M53, eM53, hD⟩ := g_let hD
        refine mr_zast C hw (by decide) tf_935 q52 dX19_build_282 (fun H locs hw => ?_)
        replace hw : mw_W G ad NF TF FF M53 L H locs := by rw [eM53]; exact hw
        refine lv_aload_n C.1.1 C.1.2.1 dX19_build_283 rfl (lv_at hl 0 rfl) ?_
        refine mr_getR C hw kc_19 105 (by decide) tf_732 ff_732_105 wd_2886 dX19_build_284 (by decide) rfl ?_
        refine lv_iload_n C.1.1 C.1.2.1 dX19_build_287 rfl (lv_at hl 1 rfl) ?_
        refine lv_iconst (v := 0) C.1.1 C.1.2.1 dX19_build_288 (by decide) ?_
        obtain ⟨q54, hD⟩ := g_ck hD
        obtain ⟨M55, eM55, hD⟩ := g_let hD
        refine mr_zast C hw (by decide) tf_936 q54 dX19_build_289 (fun H locs hw => ?_)
        replace hw : mw_W G ad NF TF FF M55 L H locs := by rw [eM55]; exact hw
        refine lv_aload_n C.1.1 C.1.2.1 dX19_build_290 rfl (lv_at hl 0 rfl) ?_
        refine mr_getR C hw kc_19 106 (by decide) tf_732 ff_732_106 wd_2887 dX19_build_291 (by decide) rfl ?_
        refine lv_iload_n C.1.1 C.1.2.1 dX19_build_294 rfl (lv_at hl 1 rfl) ?_
        refine lv_iconst (v := 0) C.1.1 C.1.2.1 dX19_build_295 (by decide) ?_
        obtain ⟨q56, hD⟩ := g_ck hD
        obtain ⟨M57, eM57, hD⟩ := g_let hD
        refine mr_iast C hw (by decide) tf_937 q56 dX19_build_296 (fun H locs hw => ?_)
        replace hw : mw_W G ad NF TF FF M57 L H locs := by rw [eM57]; exact hw
        refine lv_aload_n C.1.1 C.1.2.1 dX19_build_297 rfl (lv_at hl 0 rfl) ?_
        refine mr_getR C hw kc_19 107 (by decide) tf_732 ff_732_107 wd_2888 dX19_build_298 (by decide) rfl ?_
        refine lv_iload_n C.1.1 C.1.2.1 dX19_build_301 rfl (lv_at hl 1 rfl) ?_
        refine lv_iconst (v := 0) C.1.1 C.1.2.1 dX19_build_302 (by decide) ?_
        obtain ⟨q58, hD⟩ := g_ck hD
        obtain ⟨M59, eM59, hD⟩ := g_let hD
        refine mr_iast C hw (by decide) tf_938 q58 dX19_build_303 (fun H locs hw => ?_)
        replace hw : mw_W G ad NF TF FF M59 L H locs := by rw [eM59]; exact hw
        obtain ⟨x60, ex60, hD⟩ := g_let hD
        refine lv_iinc (v := x60) (lv' := [(1, .int x60), (0, .ref (ad 732))]) C.1.1 C.1.2.1 dX19_build_304 hl (k := 1) rfl (by rw [ex60]; rfl) (by decide) rfl (fun ls hl => ?_)
        refine lv_goto (tgt := 256) C.1.1 C.1.2.1 dX19_build_307 (by decide) ?_
        exact ih256 x60 M59 L _ _ ls hD hw (lv_sub hl [1, 0] rfl)
  have hh234 : ∀ (f : Nat) (v1 : Int32) (M : mwM) (L : mwL) (H : Heap) (locs : List Loc) (ls : Array Slot), fX19_build_h234 fu f (v1, M, L) = some (r0, M0, L0) → mw_W G ad NF TF FF M L H locs → lv_has ls 5 [(0, .ref (ad 732)), (1, .int v1)] → W p l e ({ frames := 2, cells := 0, slots := 0, locals := 48 }) s m [.ref (ad 732)].toArray below meth c H locs 0 0 (MQ below (mw_Qi G ad NF TF FF (mw_eqI r0 M0 L0)) [.ref (ad 732)].toArray s 0 0 (mw_fr G)) (F0 m 234 ls []) := by
    intro f
    induction f with
    | zero => intro v1 M L H locs ls hD; cases hD
    | succ f234 ih234 =>
      intro v1 M L H locs ls hD hw hl
      replace hD : fX19_build_i234 fu (fX19_build_h234 fu f234) v1 M L = some (r0, M0, L0) := hD
      unfold fX19_build_i234 at hD
      refine lv_iload_n C.1.1 C.1.2.1 dX19_build_234 rfl (lv_at hl 1 rfl) ?_
      refine lv_sipush (v := 240) C.1.1 C.1.2.1 dX19_build_235 (by decide) ?_
      refine lv_icmp_ge (tgt := 254) C.1.1 C.1.2.1 dX19_build_238 (by decide) (fun c43 => ?_) (fun c43 => ?_)
      · replace hD := g_pos c43 hD
        refine lv_iconst (v := 0) C.1.1 C.1.2.1 dX19_build_254 (by decide) ?_
        refine lv_istore_n (lv' := [(1, .int 0), (0, .ref (ad 732))]) C.1.1 C.1.2.1 dX19_build_255 rfl hl (by decide) rfl (fun ls hl => ?_)
        exact hh256 fu 0 M L _ _ ls hD hw (lv_sub hl [1, 0] rfl)
      · replace hD := g_neg c43 hD
        refine lv_aload_n C.1.1 C.1.2.1 dX19_build_241 rfl (lv_at hl 0 rfl) ?_
        refine mr_getR C hw kc_19 75 (by decide) tf_732 ff_732_75 wd_2856 dX19_build_242 (by decide) rfl ?_
        refine lv_iload_n C.1.1 C.1.2.1 dX19_build_245 rfl (lv_at hl 1 rfl) ?_
        refine lv_lconst (v := 0) C.1.1 C.1.2.1 dX19_build_246 (by decide) ?_
        obtain ⟨q44, hD⟩ := g_ck hD
        obtain ⟨L45, eL45, hD⟩ := g_let hD
        refine mr_last C hw (by decide) tf_786 q44 dX19_build_247 (fun H locs hw => ?_)
        replace hw : mw_W G ad NF TF FF M L45 H locs := by rw [eL45]; exact hw
        obtain ⟨x46, ex46, hD⟩ := g_let hD
        refine lv_iinc (v := x46) (lv' := [(1, .int x46), (0, .ref (ad 732))]) C.1.1 C.1.2.1 dX19_build_248 hl (k := 1) rfl (by rw [ex46]; rfl) (by decide) rfl (fun ls hl => ?_)
        refine lv_goto (tgt := 234) C.1.1 C.1.2.1 dX19_build_251 (by decide) ?_
        exact ih234 x46 M L45 _ _ ls hD hw (lv_sub hl [1, 0] rfl)
  have hh214 : ∀ (f : Nat) (v1 : Int32) (M : mwM) (L : mwL) (H : Heap) (locs : List Loc) (ls : Array Slot), fX19_build_h214 fu f (v1, M, L) = some (r0, M0, L0) → mw_W G ad NF TF FF M L H locs → lv_has ls 5 [(0, .ref (ad 732)), (1, .int v1)] → W p l e ({ frames := 2, cells := 0, slots := 0, locals := 48 }) s m [.ref (ad 732)].toArray below meth c H locs 0 0 (MQ below (mw_Qi G ad NF TF FF (mw_eqI r0 M0 L0)) [.ref (ad 732)].toArray s 0 0 (mw_fr G)) (F0 m 214 ls []) := by
    intro f
    induction f with
    | zero => intro v1 M L H locs ls hD; cases hD
    | succ f214 ih214 =>
      intro v1 M L H locs ls hD hw hl
      replace hD : fX19_build_i214 fu (fX19_build_h214 fu f214) v1 M L = some (r0, M0, L0) := hD
      unfold fX19_build_i214 at hD
      refine lv_iload_n C.1.1 C.1.2.1 dX19_build_214 rfl (lv_at hl 1 rfl) ?_
      refine lv_iconst (v := 5) C.1.1 C.1.2.1 dX19_build_215 (by decide) ?_
      refine lv_icmp_ge (tgt := 232) C.1.1 C.1.2.1 dX19_build_216 (by decide) (fun c39 => ?_) (fun c39 => ?_)
      · replace hD := g_pos c39 hD
        refine lv_iconst (v := 0) C.1.1 C.1.2.1 dX19_build_232 (by decide) ?_
        refine lv_istore_n (lv' := [(1, .int 0), (0, .ref (ad 732))]) C.1.1 C.1.2.1 dX19_build_233 rfl hl (by decide) rfl (fun ls hl => ?_)
        exact hh234 fu 0 M L _ _ ls hD hw (lv_sub hl [1, 0] rfl)
      · replace hD := g_neg c39 hD
        refine lv_aload_n C.1.1 C.1.2.1 dX19_build_219 rfl (lv_at hl 0 rfl) ?_
        refine mr_getR C hw kc_19 109 (by decide) tf_732 ff_732_109 wd_2890 dX19_build_220 (by decide) rfl ?_
        refine lv_iload_n C.1.1 C.1.2.1 dX19_build_223 rfl (lv_at hl 1 rfl) ?_
        refine lv_iconst (v := 0) C.1.1 C.1.2.1 dX19_build_224 (by decide) ?_
        obtain ⟨q40, hD⟩ := g_ck hD
        obtain ⟨M41, eM41, hD⟩ := g_let hD
        refine mr_iast C hw (by decide) tf_939 q40 dX19_build_225 (fun H locs hw => ?_)
        replace hw : mw_W G ad NF TF FF M41 L H locs := by rw [eM41]; exact hw
        obtain ⟨x42, ex42, hD⟩ := g_let hD
        refine lv_iinc (v := x42) (lv' := [(1, .int x42), (0, .ref (ad 732))]) C.1.1 C.1.2.1 dX19_build_226 hl (k := 1) rfl (by rw [ex42]; rfl) (by decide) rfl (fun ls hl => ?_)
        refine lv_goto (tgt := 214) C.1.1 C.1.2.1 dX19_build_229 (by decide) ?_
        exact ih214 x42 M41 L _ _ ls hD hw (lv_sub hl [1, 0] rfl)
  have hh193 : ∀ (f : Nat) (v1 : Int32) (M : mwM) (L : mwL) (H : Heap) (locs : List Loc) (ls : Array Slot), fX19_build_h193 fu f (v1, M, L) = some (r0, M0, L0) → mw_W G ad NF TF FF M L H locs → lv_has ls 5 [(0, .ref (ad 732)), (1, .int v1)] → W p l e ({ frames := 2, cells := 0, slots := 0, locals := 48 }) s m [.ref (ad 732)].toArray below meth c H locs 0 0 (MQ below (mw_Qi G ad NF TF FF (mw_eqI r0 M0 L0)) [.ref (ad 732)].toArray s 0 0 (mw_fr G)) (F0 m 193 ls []) := by
    intro f
    induction f with
    | zero => intro v1 M L H locs ls hD; cases hD
    | succ f193 ih193 =>
      intro v1 M L H locs ls hD hw hl
      replace hD : fX19_build_i193 fu (fX19_build_h193 fu f193) v1 M L = some (r0, M0, L0) := hD
      unfold fX19_build_i193 at hD
      refine lv_iload_n C.1.1 C.1.2.1 dX19_build_193 rfl (lv_at hl 1 rfl) ?_
      refine lv_bipush (v := 7) C.1.1 C.1.2.1 dX19_build_194 (by decide) ?_
      refine lv_icmp_ge (tgt := 212) C.1.1 C.1.2.1 dX19_build_196 (by decide) (fun c35 => ?_) (fun c35 => ?_)
      · replace hD := g_pos c35 hD
        refine lv_iconst (v := 0) C.1.1 C.1.2.1 dX19_build_212 (by decide) ?_
        refine lv_istore_n (lv' := [(1, .int 0), (0, .ref (ad 732))]) C.1.1 C.1.2.1 dX19_build_213 rfl hl (by decide) rfl (fun ls hl => ?_)
        exact hh214 fu 0 M L _ _ ls hD hw (lv_sub hl [1, 0] rfl)
      · replace hD := g_neg c35 hD
        refine lv_aload_n C.1.1 C.1.2.1 dX19_build_199 rfl (lv_at hl 0 rfl) ?_
        refine mr_getR C hw kc_19 85 (by decide) tf_732 ff_732_85 wd_2866 dX19_build_200 (by decide) rfl ?_
        refine lv_iload_n C.1.1 C.1.2.1 dX19_build_203 rfl (lv_at hl 1 rfl) ?_
        refine lv_iconst (v := 0) C.1.1 C.1.2.1 dX19_build_204 (by decide) ?_
        obtain ⟨q36, hD⟩ := g_ck hD
        obtain ⟨M37, eM37, hD⟩ := g_let hD
        refine mr_iast C hw (by decide) tf_924 q36 dX19_build_205 (fun H locs hw => ?_)
        replace hw : mw_W G ad NF TF FF M37 L H locs := by rw [eM37]; exact hw
        obtain ⟨x38, ex38, hD⟩ := g_let hD
        refine lv_iinc (v := x38) (lv' := [(1, .int x38), (0, .ref (ad 732))]) C.1.1 C.1.2.1 dX19_build_206 hl (k := 1) rfl (by rw [ex38]; rfl) (by decide) rfl (fun ls hl => ?_)
        refine lv_goto (tgt := 193) C.1.1 C.1.2.1 dX19_build_209 (by decide) ?_
        exact ih193 x38 M37 L _ _ ls hD hw (lv_sub hl [1, 0] rfl)
  have hh36 : ∀ (f : Nat) (v1 : Int32) (M : mwM) (L : mwL) (H : Heap) (locs : List Loc) (ls : Array Slot), fX19_build_h36 fu f (v1, M, L) = some (r0, M0, L0) → mw_W G ad NF TF FF M L H locs → lv_has ls 5 [(0, .ref (ad 732)), (1, .int v1)] → W p l e ({ frames := 2, cells := 0, slots := 0, locals := 48 }) s m [.ref (ad 732)].toArray below meth c H locs 0 0 (MQ below (mw_Qi G ad NF TF FF (mw_eqI r0 M0 L0)) [.ref (ad 732)].toArray s 0 0 (mw_fr G)) (F0 m 36 ls []) := by
    intro f
    induction f with
    | zero => intro v1 M L H locs ls hD; cases hD
    | succ f36 ih36 =>
      intro v1 M L H locs ls hD hw hl
      replace hD : fX19_build_i36 fu (fX19_build_h36 fu f36) v1 M L = some (r0, M0, L0) := hD
      have hh91 : ∀ (f : Nat) (v1 : Int32) (v2 : Int32) (v4 : Int32) (M : mwM) (L : mwL) (H : Heap) (locs : List Loc) (ls : Array Slot), fX19_build_h91 fu (fX19_build_h36 fu f36) f (v1, v2, v4, M, L) = some (r0, M0, L0) → mw_W G ad NF TF FF M L H locs → lv_has ls 5 [(0, .ref (ad 732)), (1, .int v1), (2, .int v2), (4, .int v4)] → W p l e ({ frames := 2, cells := 0, slots := 0, locals := 48 }) s m [.ref (ad 732)].toArray below meth c H locs 0 0 (MQ below (mw_Qi G ad NF TF FF (mw_eqI r0 M0 L0)) [.ref (ad 732)].toArray s 0 0 (mw_fr G)) (F0 m 91 ls []) := by
        intro f
        induction f with
        | zero => intro v1 v2 v4 M L H locs ls hD; cases hD
        | succ f91 ih91 =>
          intro v1 v2 v4 M L H locs ls hD hw hl
          replace hD : fX19_build_i91 fu (fX19_build_h36 fu f36) (fX19_build_h91 fu (fX19_build_h36 fu f36) f91) v1 v2 v4 M L = some (r0, M0, L0) := hD
          unfold fX19_build_i91 at hD
          refine lv_iload C.1.1 C.1.2.1 dX19_build_91 (lv_at hl 3 rfl) ?_
          refine lv_sipush (v := 20000) C.1.1 C.1.2.1 dX19_build_93 (by decide) ?_
          refine lv_icmp_ge (tgt := 140) C.1.1 C.1.2.1 dX19_build_96 (by decide) (fun c22 => ?_) (fun c22 => ?_)
          · replace hD := g_pos c22 hD
            obtain ⟨x23, ex23, hD⟩ := g_let hD
            refine lv_iinc (v := x23) (lv' := [(1, .int x23), (0, .ref (ad 732)), (2, .int v2), (4, .int v4)]) C.1.1 C.1.2.1 dX19_build_140 hl (k := 1) rfl (by rw [ex23]; rfl) (by decide) rfl (fun ls hl => ?_)
            refine lv_goto (tgt := 36) C.1.1 C.1.2.1 dX19_build_143 (by decide) ?_
            exact ih36 x23 M L _ _ ls hD hw (lv_sub hl [1, 0] rfl)
          · replace hD := g_neg c22 hD
            refine lv_aload_n C.1.1 C.1.2.1 dX19_build_99 rfl (lv_at hl 0 rfl) ?_
            refine mr_getR C hw kc_19 76 (by decide) tf_732 ff_732_76 wd_2857 dX19_build_100 (by decide) rfl ?_
            refine lv_iload_n C.1.1 C.1.2.1 dX19_build_103 rfl (lv_at hl 2 rfl) ?_
            refine lv_iload C.1.1 C.1.2.1 dX19_build_104 (lv_at hl 3 rfl) ?_
            refine lv_i2l C.1.1 C.1.2.1 dX19_build_106 rfl ?_
            obtain ⟨r26, M24, L25, h1, hD⟩ := g_b3 hD
            refine md_cvI (As := [.int v2, .long v4.toInt64]) (rest := []) C hw (tX15_activate l G ad fu v2 v4.toInt64 M L h1) kc_15 (by decide) tf_787 wd_3530 cwX15_activate ⟨Nat.le_of_ble_eq_true rfl, Nat.le_of_ble_eq_true rfl⟩ rfl hl.1 (Nat.le_of_ble_eq_true rfl) dX19_build_107 rfl rfl ⟨Nat.zero_le _, Nat.zero_le _⟩ rfl (fun H locs hw => ?_)
            refine lv_if_ge (tgt := 126) C.1.1 C.1.2.1 dX19_build_110 (by decide) (fun c27 => ?_) (fun c27 => ?_)
            · replace hD := g_pos c27 hD
              refine lv_iload C.1.1 C.1.2.1 dX19_build_126 (lv_at hl 3 rfl) ?_
              refine lv_aload_n C.1.1 C.1.2.1 dX19_build_128 rfl (lv_at hl 0 rfl) ?_
              refine mr_getR C hw kc_19 28 (by decide) tf_732 ff_732_28 wd_2809 dX19_build_129 (by decide) rfl ?_
              refine lv_iload_n C.1.1 C.1.2.1 dX19_build_132 rfl (lv_at hl 1 rfl) ?_
              obtain ⟨q28, hD⟩ := g_ck hD
              refine mr_iald C hw (by decide) tf_744 q28 dX19_build_133 ?_
              refine lv_iadd C.1.1 C.1.2.1 dX19_build_134 ?_
              obtain ⟨x29, ex29, hD⟩ := g_let hD
              refine W.eq (g2 := F0 m 135 ls (.int x29 :: [])) (by rw [ex29]) ?_
              refine lv_istore (lv' := [(4, .int x29), (0, .ref (ad 732)), (1, .int v1), (2, .int v2)]) C.1.1 C.1.2.1 dX19_build_135 hl (by decide) rfl (fun ls hl => ?_)
              refine lv_goto (tgt := 91) C.1.1 C.1.2.1 dX19_build_137 (by decide) ?_
              exact ih91 v1 v2 x29 M24 L25 _ _ ls hD hw (lv_sub hl [1, 2, 3, 0] rfl)
            · replace hD := g_neg c27 hD
              refine lv_aload_n C.1.1 C.1.2.1 dX19_build_113 rfl (lv_at hl 0 rfl) ?_
              refine lv_bipush (v := 6) C.1.1 C.1.2.1 dX19_build_114 (by decide) ?_
              refine lv_aload_n C.1.1 C.1.2.1 dX19_build_116 rfl (lv_at hl 0 rfl) ?_
              refine mr_getR C hw kc_19 25 (by decide) tf_732 ff_732_25 wd_2806 dX19_build_117 (by decide) rfl ?_
              refine lv_iload_n C.1.1 C.1.2.1 dX19_build_120 rfl (lv_at hl 1 rfl) ?_
              obtain ⟨q30, hD⟩ := g_ck hD
              refine mr_iald C hw (by decide) tf_741 q30 dX19_build_121 ?_
              obtain ⟨r33, M31, L32, h1, hD⟩ := g_b3 hD
              refine md_cvI (As := [.int 6, .int (M24 741 v1.toNatClampNeg)]) (rest := []) C hw (tX19_fail l G ad fu 6 (M24 741 v1.toNatClampNeg) M24 L25 h1) kc_19 (by decide) tf_732 wd_3172 cwX19_fail ⟨Nat.le_of_ble_eq_true rfl, Nat.le_of_ble_eq_true rfl⟩ rfl hl.1 (Nat.le_of_ble_eq_true rfl) dX19_build_122 rfl rfl ⟨Nat.zero_le _, Nat.zero_le _⟩ rfl (fun H locs hw => ?_)
              obtain ⟨z34, hD⟩ := g_zz hD
              exact mr_iret C hr hlocks hw (nz_zz z34) (Option.some.inj hD) dX19_build_125
      unfold fX19_build_i36 at hD
      refine lv_iload_n C.1.1 C.1.2.1 dX19_build_36 rfl (lv_at hl 1 rfl) ?_
      refine lv_aload_n C.1.1 C.1.2.1 dX19_build_37 rfl (lv_at hl 0 rfl) ?_
      refine mr_getI C hw kc_19 24 (by decide) tf_732 wd_2805 dX19_build_38 (by decide) rfl ?_
      refine lv_icmp_ge (tgt := 146) C.1.1 C.1.2.1 dX19_build_41 (by decide) (fun c1 => ?_) (fun c1 => ?_)
      · replace hD := g_pos c1 hD
        refine lv_aload_n C.1.1 C.1.2.1 dX19_build_146 rfl (lv_at hl 0 rfl) ?_
        refine lv_iconst (v := 0) C.1.1 C.1.2.1 dX19_build_147 (by decide) ?_
        obtain ⟨M2, eM2, hD⟩ := g_let hD
        refine mr_putI C hw kc_19 83 (by decide) tf_732 wd_2864 dX19_build_148 (by decide) rfl rfl rfl rfl (fun H locs hw => ?_)
        replace hw : mw_W G ad NF TF FF M2 L H locs := by rw [eM2]; exact hw
        refine lv_aload_n C.1.1 C.1.2.1 dX19_build_151 rfl (lv_at hl 0 rfl) ?_
        refine lv_iconst (v := 0) C.1.1 C.1.2.1 dX19_build_152 (by decide) ?_
        obtain ⟨M3, eM3, hD⟩ := g_let hD
        refine mr_putI C hw kc_19 88 (by decide) tf_732 wd_2869 dX19_build_153 (by decide) rfl rfl rfl rfl (fun H locs hw => ?_)
        replace hw : mw_W G ad NF TF FF M3 L H locs := by rw [eM3]; exact hw
        refine lv_aload_n C.1.1 C.1.2.1 dX19_build_156 rfl (lv_at hl 0 rfl) ?_
        refine lv_iconst (v := 0) C.1.1 C.1.2.1 dX19_build_157 (by decide) ?_
        obtain ⟨M4, eM4, hD⟩ := g_let hD
        refine mr_putI C hw kc_19 91 (by decide) tf_732 wd_2872 dX19_build_158 (by decide) rfl rfl rfl rfl (fun H locs hw => ?_)
        replace hw : mw_W G ad NF TF FF M4 L H locs := by rw [eM4]; exact hw
        refine lv_aload_n C.1.1 C.1.2.1 dX19_build_161 rfl (lv_at hl 0 rfl) ?_
        refine lv_iconst (v := 0) C.1.1 C.1.2.1 dX19_build_162 (by decide) ?_
        obtain ⟨M5, eM5, hD⟩ := g_let hD
        refine mr_putI C hw kc_19 94 (by decide) tf_732 wd_2875 dX19_build_163 (by decide) rfl rfl rfl rfl (fun H locs hw => ?_)
        replace hw : mw_W G ad NF TF FF M5 L H locs := by rw [eM5]; exact hw
        refine lv_aload_n C.1.1 C.1.2.1 dX19_build_166 rfl (lv_at hl 0 rfl) ?_
        refine lv_iconst (v := 0) C.1.1 C.1.2.1 dX19_build_167 (by decide) ?_
        obtain ⟨M6, eM6, hD⟩ := g_let hD
        refine mr_putI C hw kc_19 95 (by decide) tf_732 wd_2876 dX19_build_168 (by decide) rfl rfl rfl rfl (fun H locs hw => ?_)
        replace hw : mw_W G ad NF TF FF M6 L H locs := by rw [eM6]; exact hw
        refine lv_aload_n C.1.1 C.1.2.1 dX19_build_171 rfl (lv_at hl 0 rfl) ?_
        refine lv_iconst (v := 0) C.1.1 C.1.2.1 dX19_build_172 (by decide) ?_
        obtain ⟨M7, eM7, hD⟩ := g_let hD
        refine mr_putI C hw kc_19 96 (by decide) tf_732 wd_2877 dX19_build_173 (by decide) rfl rfl rfl rfl (fun H locs hw => ?_)
        replace hw : mw_W G ad NF TF FF M7 L H locs := by rw [eM7]; exact hw
        refine lv_aload_n C.1.1 C.1.2.1 dX19_build_176 rfl (lv_at hl 0 rfl) ?_
        refine lv_iconst (v := (-1)) C.1.1 C.1.2.1 dX19_build_177 (by decide) ?_
        obtain ⟨M8, eM8, hD⟩ := g_let hD
        refine mr_putI C hw kc_19 97 (by decide) tf_732 wd_2878 dX19_build_178 (by decide) rfl rfl rfl rfl (fun H locs hw => ?_)
        replace hw : mw_W G ad NF TF FF M8 L H locs := by rw [eM8]; exact hw
        refine lv_aload_n C.1.1 C.1.2.1 dX19_build_181 rfl (lv_at hl 0 rfl) ?_
        refine lv_iconst (v := 0) C.1.1 C.1.2.1 dX19_build_182 (by decide) ?_
        obtain ⟨M9, eM9, hD⟩ := g_let hD
        refine mr_putI C hw kc_19 98 (by decide) tf_732 wd_2879 dX19_build_183 (by decide) rfl rfl rfl rfl (fun H locs hw => ?_)
        replace hw : mw_W G ad NF TF FF M9 L H locs := by rw [eM9]; exact hw
        refine lv_aload_n C.1.1 C.1.2.1 dX19_build_186 rfl (lv_at hl 0 rfl) ?_
        refine lv_iconst (v := 0) C.1.1 C.1.2.1 dX19_build_187 (by decide) ?_
        obtain ⟨M10, eM10, hD⟩ := g_let hD
        refine mr_putI C hw kc_19 108 (by decide) tf_732 wd_2889 dX19_build_188 (by decide) rfl rfl rfl rfl (fun H locs hw => ?_)
        replace hw : mw_W G ad NF TF FF M10 L H locs := by rw [eM10]; exact hw
        refine lv_iconst (v := 0) C.1.1 C.1.2.1 dX19_build_191 (by decide) ?_
        refine lv_istore_n (lv' := [(1, .int 0), (0, .ref (ad 732))]) C.1.1 C.1.2.1 dX19_build_192 rfl hl (by decide) rfl (fun ls hl => ?_)
        exact hh193 fu 0 M10 L _ _ ls hD hw (lv_sub hl [1, 0] rfl)
      · replace hD := g_neg c1 hD
        refine lv_aload_n C.1.1 C.1.2.1 dX19_build_44 rfl (lv_at hl 0 rfl) ?_
        refine mr_getR C hw kc_19 76 (by decide) tf_732 ff_732_76 wd_2857 dX19_build_45 (by decide) rfl ?_
        refine lv_aload_n C.1.1 C.1.2.1 dX19_build_48 rfl (lv_at hl 0 rfl) ?_
        refine mr_getR C hw kc_19 27 (by decide) tf_732 ff_732_27 wd_2808 dX19_build_49 (by decide) rfl ?_
        refine lv_iload_n C.1.1 C.1.2.1 dX19_build_52 rfl (lv_at hl 1 rfl) ?_
        obtain ⟨q11, hD⟩ := g_ck hD
        refine mr_iald C hw (by decide) tf_743 q11 dX19_build_53 ?_
        refine lv_aload_n C.1.1 C.1.2.1 dX19_build_54 rfl (lv_at hl 0 rfl) ?_
        refine mr_getR C hw kc_19 26 (by decide) tf_732 ff_732_26 wd_2807 dX19_build_55 (by decide) rfl ?_
        refine lv_iload_n C.1.1 C.1.2.1 dX19_build_58 rfl (lv_at hl 1 rfl) ?_
        obtain ⟨q12, hD⟩ := g_ck hD
        refine mr_iald C hw (by decide) tf_742 q12 dX19_build_59 ?_
        refine lv_iconst (v := 2) C.1.1 C.1.2.1 dX19_build_60 (by decide) ?_
        refine lv_iconst (v := 0) C.1.1 C.1.2.1 dX19_build_61 (by decide) ?_
        obtain ⟨r15, M13, L14, h1, hD⟩ := g_b3 hD
        refine md_cvI (As := [.int (M 743 v1.toNatClampNeg), .int (M 742 v1.toNatClampNeg), .int 2, .int 0]) (rest := []) C hw (tX15_task l G ad fu (M 743 v1.toNatClampNeg) (M 742 v1.toNatClampNeg) 2 0 M L h1) kc_15 (by decide) tf_787 wd_3507 cwX15_task ⟨Nat.le_of_ble_eq_true rfl, Nat.le_of_ble_eq_true rfl⟩ rfl hl.1 (Nat.le_of_ble_eq_true rfl) dX19_build_62 rfl rfl ⟨Nat.zero_le _, Nat.zero_le _⟩ rfl (fun H locs hw => ?_)
        refine lv_istore_n (lv' := [(2, .int r15), (0, .ref (ad 732)), (1, .int v1)]) C.1.1 C.1.2.1 dX19_build_65 rfl hl (by decide) rfl (fun ls hl => ?_)
        refine lv_aload_n C.1.1 C.1.2.1 dX19_build_66 rfl (lv_at hl 1 rfl) ?_
        refine mr_getR C hw kc_19 76 (by decide) tf_732 ff_732_76 wd_2857 dX19_build_67 (by decide) rfl ?_
        refine lv_iload_n C.1.1 C.1.2.1 dX19_build_70 rfl (lv_at hl 0 rfl) ?_
        refine lv_iconst (v := 0) C.1.1 C.1.2.1 dX19_build_71 (by decide) ?_
        refine lv_aload_n C.1.1 C.1.2.1 dX19_build_72 rfl (lv_at hl 1 rfl) ?_
        refine mr_getR C hw kc_19 30 (by decide) tf_732 ff_732_30 wd_2811 dX19_build_73 (by decide) rfl ?_
        refine lv_iload_n C.1.1 C.1.2.1 dX19_build_76 rfl (lv_at hl 2 rfl) ?_
        obtain ⟨q16, hD⟩ := g_ck hD
        refine mr_iald C hw (by decide) tf_746 q16 dX19_build_77 ?_
        refine lv_i2l C.1.1 C.1.2.1 dX19_build_78 rfl ?_
        obtain ⟨r19, M17, L18, h1, hD⟩ := g_b3 hD
        refine md_cvI (As := [.int r15, .int 0, .long ((M13 746 v1.toNatClampNeg).toInt64)]) (rest := []) C hw (tX15_part l G ad fu r15 0 ((M13 746 v1.toNatClampNeg).toInt64) M13 L14 h1) kc_15 (by decide) tf_787 wd_3511 cwX15_part ⟨Nat.le_of_ble_eq_true rfl, Nat.le_of_ble_eq_true rfl⟩ rfl hl.1 (Nat.le_of_ble_eq_true rfl) dX19_build_79 rfl rfl ⟨Nat.zero_le _, Nat.zero_le _⟩ rfl (fun H locs hw => ?_)
        refine lv_istore_n (lv' := [(3, .int r19), (2, .int r15), (0, .ref (ad 732)), (1, .int v1)]) C.1.1 C.1.2.1 dX19_build_82 rfl hl (by decide) rfl (fun ls hl => ?_)
        refine lv_aload_n C.1.1 C.1.2.1 dX19_build_83 rfl (lv_at hl 2 rfl) ?_
        refine mr_getR C hw kc_19 29 (by decide) tf_732 ff_732_29 wd_2810 dX19_build_84 (by decide) rfl ?_
        refine lv_iload_n C.1.1 C.1.2.1 dX19_build_87 rfl (lv_at hl 3 rfl) ?_
        obtain ⟨q20, hD⟩ := g_ck hD
        refine mr_iald C hw (by decide) tf_745 q20 dX19_build_88 ?_
        obtain ⟨x21, ex21, hD⟩ := g_let hD
        refine W.eq (g2 := F0 m 89 ls (.int x21 :: [])) (by rw [ex21]) ?_
        refine lv_istore (lv' := [(4, .int x21), (3, .int r19), (2, .int r15), (0, .ref (ad 732)), (1, .int v1)]) C.1.1 C.1.2.1 dX19_build_89 hl (by decide) rfl (fun ls hl => ?_)
        exact hh91 fu v1 r15 x21 M17 L18 _ _ ls hD hw (lv_sub hl [3, 4, 2, 0] rfl)
  unfold DX19_build at hD
  refine lv_aload_n C.1.1 C.1.2.1 dX19_build_0 rfl (lv_at hl 0 rfl) ?_
  refine mr_getR C hw kc_19 76 (by decide) tf_732 ff_732_76 wd_2857 dX19_build_1 (by decide) rfl ?_
  refine lv_aload_n C.1.1 C.1.2.1 dX19_build_4 rfl (lv_at hl 0 rfl) ?_
  refine mr_getI C hw kc_19 19 (by decide) tf_732 wd_2800 dX19_build_5 (by decide) rfl ?_
  obtain ⟨M61, L62, h1, hD⟩ := g_b2 hD
  refine md_cvV (As := [.int (M 732 19)]) (rest := []) C hw (tX15_anew l G ad fu (M 732 19) M L h1) kc_15 (by decide) tf_787 wd_3495 cwX15_anew ⟨Nat.le_of_ble_eq_true rfl, Nat.le_of_ble_eq_true rfl⟩ rfl hl.1 (Nat.le_of_ble_eq_true rfl) dX19_build_8 rfl rfl ⟨Nat.zero_le _, Nat.zero_le _⟩ rfl (fun H locs hw => ?_)
  refine lv_aload_n C.1.1 C.1.2.1 dX19_build_11 rfl (lv_at hl 0 rfl) ?_
  refine mr_getR C hw kc_19 77 (by decide) tf_732 ff_732_77 wd_2858 dX19_build_12 (by decide) rfl ?_
  refine lv_aload_n C.1.1 C.1.2.1 dX19_build_15 rfl (lv_at hl 0 rfl) ?_
  refine mr_getI C hw kc_19 19 (by decide) tf_732 wd_2800 dX19_build_16 (by decide) rfl ?_
  refine lv_iconst (v := 1) C.1.1 C.1.2.1 dX19_build_19 (by decide) ?_
  refine lv_iadd C.1.1 C.1.2.1 dX19_build_20 ?_
  obtain ⟨M63, L64, h1, hD⟩ := g_b2 hD
  refine md_cvV (As := [.int ((M61 732 19) + 1)]) (rest := []) C hw (tX12_nodes l G ad fu ((M61 732 19) + 1) M61 L62 h1) kc_12 (by decide) tf_821 wd_3499 cwX12_nodes ⟨Nat.le_of_ble_eq_true rfl, Nat.le_of_ble_eq_true rfl⟩ rfl hl.1 (Nat.le_of_ble_eq_true rfl) dX19_build_21 rfl rfl ⟨Nat.zero_le _, Nat.zero_le _⟩ rfl (fun H locs hw => ?_)
  refine lv_aload_n C.1.1 C.1.2.1 dX19_build_24 rfl (lv_at hl 0 rfl) ?_
  refine mr_getR C hw kc_19 79 (by decide) tf_732 ff_732_79 wd_2860 dX19_build_25 (by decide) rfl ?_
  refine lv_sipush (v := 4095) C.1.1 C.1.2.1 dX19_build_28 (by decide) ?_
  obtain ⟨M65, L66, h1, hD⟩ := g_b2 hD
  refine md_cvV (As := [.int 4095]) (rest := []) C hw (tX17_anew l G ad fu 4095 M63 L64 h1) kc_17 (by decide) tf_869 wd_3503 cwX17_anew ⟨Nat.le_of_ble_eq_true rfl, Nat.le_of_ble_eq_true rfl⟩ rfl hl.1 (Nat.le_of_ble_eq_true rfl) dX19_build_31 rfl rfl ⟨Nat.zero_le _, Nat.zero_le _⟩ rfl (fun H locs hw => ?_)
  refine lv_iconst (v := 0) C.1.1 C.1.2.1 dX19_build_34 (by decide) ?_
  refine lv_istore_n (lv' := [(1, .int 0), (0, .ref (ad 732))]) C.1.1 C.1.2.1 dX19_build_35 rfl hl (by decide) rfl (fun ls hl => ?_)
  exact hh36 fu 0 M65 L66 _ _ ls hD hw (lv_sub hl [1, 0] rfl)

theorem dX19_read_0 : decode cX19_read 0 = .ok (.iconst 0, 1) := by decide +kernel
theorem dX19_read_1 : decode cX19_read 1 = .ok (.istore_n 1, 1) := by decide +kernel
theorem dX19_read_2 : decode cX19_read 2 = .ok (.iload_n 1, 1) := by decide +kernel
theorem dX19_read_3 : decode cX19_read 3 = .ok (.aload_n 0, 1) := by decide +kernel
theorem dX19_read_4 : decode cX19_read 4 = .ok (.getfield 296, 3) := by decide +kernel
theorem dX19_read_7 : decode cX19_read 7 = .ok (.if_icmp .ge 77, 3) := by decide +kernel
theorem dX19_read_10 : decode cX19_read 10 = .ok (.aload_n 0, 1) := by decide +kernel
theorem dX19_read_11 : decode cX19_read 11 = .ok (.iload_n 1, 1) := by decide +kernel
theorem dX19_read_12 : decode cX19_read 12 = .ok (.putfield 308, 3) := by decide +kernel
theorem dX19_read_15 : decode cX19_read 15 = .ok (.aload_n 0, 1) := by decide +kernel
theorem dX19_read_16 : decode cX19_read 16 = .ok (.getfield 308, 3) := by decide +kernel
theorem dX19_read_19 : decode cX19_read 19 = .ok (.aload_n 0, 1) := by decide +kernel
theorem dX19_read_20 : decode cX19_read 20 = .ok (.getfield 296, 3) := by decide +kernel
theorem dX19_read_23 : decode cX19_read 23 = .ok (.if_icmp .ge 30, 3) := by decide +kernel
theorem dX19_read_26 : decode cX19_read 26 = .ok (.aload_n 0, 1) := by decide +kernel
theorem dX19_read_27 : decode cX19_read 27 = .ok (.getfield 7, 3) := by decide +kernel
theorem dX19_read_30 : decode cX19_read 30 = .ok (.aload_n 0, 1) := by decide +kernel
theorem dX19_read_31 : decode cX19_read 31 = .ok (.getfield 308, 3) := by decide +kernel
theorem dX19_read_34 : decode cX19_read 34 = .ok (.iaload, 1) := by decide +kernel
theorem dX19_read_35 : decode cX19_read 35 = .ok (.bipush 10, 2) := by decide +kernel
theorem dX19_read_37 : decode cX19_read 37 = .ok (.if_icmp .eq 16, 3) := by decide +kernel
theorem dX19_read_40 : decode cX19_read 40 = .ok (.aload_n 0, 1) := by decide +kernel
theorem dX19_read_41 : decode cX19_read 41 = .ok (.dup, 1) := by decide +kernel
theorem dX19_read_42 : decode cX19_read 42 = .ok (.getfield 308, 3) := by decide +kernel
theorem dX19_read_45 : decode cX19_read 45 = .ok (.iconst 1, 1) := by decide +kernel
theorem dX19_read_46 : decode cX19_read 46 = .ok (.iadd, 1) := by decide +kernel
theorem dX19_read_47 : decode cX19_read 47 = .ok (.putfield 308, 3) := by decide +kernel
theorem dX19_read_50 : decode cX19_read 50 = .ok (.goto (-35), 3) := by decide +kernel
theorem dX19_read_53 : decode cX19_read 53 = .ok (.aload_n 0, 1) := by decide +kernel
theorem dX19_read_54 : decode cX19_read 54 = .ok (.iload_n 1, 1) := by decide +kernel
theorem dX19_read_55 : decode cX19_read 55 = .ok (.putfield 305, 3) := by decide +kernel
theorem dX19_read_58 : decode cX19_read 58 = .ok (.aload_n 0, 1) := by decide +kernel
theorem dX19_read_59 : decode cX19_read 59 = .ok (.invokevirtual 317, 3) := by decide +kernel
theorem dX19_read_62 : decode cX19_read 62 = .ok (.ifCond .eq 12, 3) := by decide +kernel
theorem dX19_read_65 : decode cX19_read 65 = .ok (.aload_n 0, 1) := by decide +kernel
theorem dX19_read_66 : decode cX19_read 66 = .ok (.invokevirtual 624, 3) := by decide +kernel
theorem dX19_read_69 : decode cX19_read 69 = .ok (.ifCond .ne 5, 3) := by decide +kernel
theorem dX19_read_72 : decode cX19_read 72 = .ok (.iconst 0, 1) := by decide +kernel
theorem dX19_read_73 : decode cX19_read 73 = .ok (.ireturn, 1) := by decide +kernel
theorem dX19_read_74 : decode cX19_read 74 = .ok (.aload_n 0, 1) := by decide +kernel
theorem dX19_read_75 : decode cX19_read 75 = .ok (.getfield 308, 3) := by decide +kernel
theorem dX19_read_78 : decode cX19_read 78 = .ok (.iconst 1, 1) := by decide +kernel
theorem dX19_read_79 : decode cX19_read 79 = .ok (.iadd, 1) := by decide +kernel
theorem dX19_read_80 : decode cX19_read 80 = .ok (.istore_n 1, 1) := by decide +kernel
theorem dX19_read_81 : decode cX19_read 81 = .ok (.goto (-79), 3) := by decide +kernel
theorem dX19_read_84 : decode cX19_read 84 = .ok (.aload_n 0, 1) := by decide +kernel
theorem dX19_read_85 : decode cX19_read 85 = .ok (.getfield 435, 3) := by decide +kernel
theorem dX19_read_88 : decode cX19_read 88 = .ok (.ifCond .gt 15, 3) := by decide +kernel
theorem dX19_read_91 : decode cX19_read 91 = .ok (.aload_n 0, 1) := by decide +kernel
theorem dX19_read_92 : decode cX19_read 92 = .ok (.iconst 4, 1) := by decide +kernel
theorem dX19_read_93 : decode cX19_read 93 = .ok (.aload_n 0, 1) := by decide +kernel
theorem dX19_read_94 : decode cX19_read 94 = .ok (.getfield 296, 3) := by decide +kernel
theorem dX19_read_97 : decode cX19_read 97 = .ok (.invokevirtual 321, 3) := by decide +kernel
theorem dX19_read_100 : decode cX19_read 100 = .ok (.ifCond .eq 7, 3) := by decide +kernel
theorem dX19_read_103 : decode cX19_read 103 = .ok (.iconst 1, 1) := by decide +kernel
theorem dX19_read_104 : decode cX19_read 104 = .ok (.goto 4, 3) := by decide +kernel
theorem dX19_read_107 : decode cX19_read 107 = .ok (.iconst 0, 1) := by decide +kernel
theorem dX19_read_108 : decode cX19_read 108 = .ok (.ireturn, 1) := by decide +kernel
theorem cwX19_read : mw_cwV yX19_read cX19_read 2 ((some .boolean)) 0 := ⟨⟨wd_13, wd_3144, by decide +kernel⟩, wd_3143, sl_148⟩
noncomputable def fX19_read_b108 (fu : Nat) (s0 : Int32) (M : mwM) (L : mwL) : Option (Int32 × mwM × mwL) :=
  mzz s0 (some (s0, M, L))
noncomputable def fX19_read_b103 (fu : Nat) (M : mwM) (L : mwL) : Option (Int32 × mwM × mwL) :=
  fX19_read_b108 fu 1 M L
noncomputable def fX19_read_b74 (fu : Nat) (r2 : (Int32 × mwM × mwL) → Option (Int32 × mwM × mwL)) (M : mwM) (L : mwL) : Option (Int32 × mwM × mwL) :=
  mlet ((M 732 7) + 1) (fun x22 => r2 (x22, M, L))
noncomputable def fX19_read_b53 (fu : Nat) (r2 : (Int32 × mwM × mwL) → Option (Int32 × mwM × mwL)) (v1 : Int32) (M : mwM) (L : mwL) : Option (Int32 × mwM × mwL) :=
  mlet (mset M 732 6 v1) (fun M12 => mb3 (DX19_next fu M12 L) (fun r16 M13 L14 => (if r16 = 0 then fX19_read_b74 fu r2 M13 L14 else mb3 (DX19_line fu M13 L14) (fun r20 M18 L19 => (if r20 = 0 then some (0, M18, L19) else fX19_read_b74 fu r2 M18 L19)))))
noncomputable def fX19_read_i15 (fu : Nat) (r2 : (Int32 × mwM × mwL) → Option (Int32 × mwM × mwL)) (r15 : (Int32 × mwM × mwL) → Option (Int32 × mwM × mwL)) (v1 : Int32) (M : mwM) (L : mwL) : Option (Int32 × mwM × mwL) :=
  (if (M 732 2) ≤ (M 732 7) then fX19_read_b53 fu r2 v1 M L else mck (M 732 7) 6000 ((if (M 733 (M 732 7).toNatClampNeg) = 10 then fX19_read_b53 fu r2 v1 M L else mlet (mset M 732 7 ((M 732 7) + 1)) (fun M11 => r15 (v1, M11, L)))))
noncomputable def fX19_read_h15 (fu : Nat) (r2 : (Int32 × mwM × mwL) → Option (Int32 × mwM × mwL)) : Nat → (Int32 × mwM × mwL) → Option (Int32 × mwM × mwL) := mloop (fun r15 s => fX19_read_i15 fu r2 r15 s.1 s.2.1 s.2.2)
noncomputable def fX19_read_i2 (fu : Nat) (r2 : (Int32 × mwM × mwL) → Option (Int32 × mwM × mwL)) (v1 : Int32) (M : mwM) (L : mwL) : Option (Int32 × mwM × mwL) :=
  (if (M 732 2) ≤ v1 then (if 0 < (M 732 19) then fX19_read_b103 fu M L else mb3 (DX19_fail fu 4 (M 732 2) M L) (fun r5 M3 L4 => (if r5 = 0 then fX19_read_b108 fu 0 M3 L4 else fX19_read_b103 fu M3 L4))) else mlet (mset M 732 7 v1) (fun M7 => fX19_read_h15 fu r2 fu (v1, M7, L)))
noncomputable def fX19_read_h2 (fu : Nat) : Nat → (Int32 × mwM × mwL) → Option (Int32 × mwM × mwL) := mloop (fun r2 s => fX19_read_i2 fu r2 s.1 s.2.1 s.2.2)
noncomputable def DX19_read (fu : Nat) (M : mwM) (L : mwL) : Option (Int32 × mwM × mwL) :=
  fX19_read_h2 fu fu (0, M, L)
set_option maxHeartbeats 4000000 in
set_option maxRecDepth 100000 in
theorem tX19_read (l : Launch) (G : mwG) (ad : Nat → Nat) (fu : Nat) (M : mwM) (L : mwL) {r0 : Int32} {M0 : mwM} {L0 : mwL} (hD : DX19_read fu M L = some (r0, M0, L0)) : Met l yX19_read (Cond.code yX19_read cX19_read 2 ((some .boolean)) :: GT) ({ frames := 6, cells := 0, slots := 0, locals := 139 }) (mw_Pre G ad NF TF FF M L [.ref (ad 732)]) (mw_Qi G ad NF TF FF (mw_eqI r0 M0 L0)) 0 0 (mw_fr G) := by
  refine mw_enter (by decide) (Nat.le_of_ble_eq_true rfl) ?_
  intro p e s m below meth c ls C hr hlocks hnm hw hl
  have hl : lv_has ls 2 [(0, .ref (ad 732))] := hl
  have hb108 : ∀ (s0 : Int32) (M : mwM) (L : mwL) (H : Heap) (locs : List Loc) (ls : Array Slot), fX19_read_b108 fu s0 M L = some (r0, M0, L0) → mw_W G ad NF TF FF M L H locs → lv_has ls 2 [] → W p l e ({ frames := 6, cells := 0, slots := 0, locals := 139 }) s m [.ref (ad 732)].toArray below meth c H locs 0 0 (MQ below (mw_Qi G ad NF TF FF (mw_eqI r0 M0 L0)) [.ref (ad 732)].toArray s 0 0 (mw_fr G)) (F0 m 108 ls [.int s0]) := by
    intro s0 M L H locs ls hD hw hl
    unfold fX19_read_b108 at hD
    obtain ⟨z23, hD⟩ := g_zz hD
    exact mr_iret C hr hlocks hw (nz_zz z23) (Option.some.inj hD) dX19_read_108
  have hb103 : ∀ (M : mwM) (L : mwL) (H : Heap) (locs : List Loc) (ls : Array Slot), fX19_read_b103 fu M L = some (r0, M0, L0) → mw_W G ad NF TF FF M L H locs → lv_has ls 2 [] → W p l e ({ frames := 6, cells := 0, slots := 0, locals := 139 }) s m [.ref (ad 732)].toArray below meth c H locs 0 0 (MQ below (mw_Qi G ad NF TF FF (mw_eqI r0 M0 L0)) [.ref (ad 732)].toArray s 0 0 (mw_fr G)) (F0 m 103 ls []) := by
    intro M L H locs ls hD hw hl
    unfold fX19_read_b103 at hD
    refine lv_iconst (v := 1) C.1.1 C.1.2.1 dX19_read_103 (by decide) ?_
    refine lv_goto (tgt := 108) C.1.1 C.1.2.1 dX19_read_104 (by decide) ?_
    exact hb108 1 M L _ _ ls hD hw (lv_sub hl [] rfl)
  have hh2 : ∀ (f : Nat) (v1 : Int32) (M : mwM) (L : mwL) (H : Heap) (locs : List Loc) (ls : Array Slot), fX19_read_h2 fu f (v1, M, L) = some (r0, M0, L0) → mw_W G ad NF TF FF M L H locs → lv_has ls 2 [(0, .ref (ad 732)), (1, .int v1)] → W p l e ({ frames := 6, cells := 0, slots := 0, locals := 139 }) s m [.ref (ad 732)].toArray below meth c H locs 0 0 (MQ below (mw_Qi G ad NF TF FF (mw_eqI r0 M0 L0)) [.ref (ad 732)].toArray s 0 0 (mw_fr G)) (F0 m 2 ls []) := by
    intro f
    induction f with
    | zero => intro v1 M L H locs ls hD; cases hD
    | succ f2 ih2 =>
      intro v1 M L H locs ls hD hw hl
      replace hD : fX19_read_i2 fu (fX19_read_h2 fu f2) v1 M L = some (r0, M0, L0) := hD
      have hb74 : ∀ (M : mwM) (L : mwL) (H : Heap) (locs : List Loc) (ls : Array Slot), fX19_read_b74 fu (fX19_read_h2 fu f2) M L = some (r0, M0, L0) → mw_W G ad NF TF FF M L H locs → lv_has ls 2 [(0, .ref (ad 732))] → W p l e ({ frames := 6, cells := 0, slots := 0, locals := 139 }) s m [.ref (ad 732)].toArray below meth c H locs 0 0 (MQ below (mw_Qi G ad NF TF FF (mw_eqI r0 M0 L0)) [.ref (ad 732)].toArray s 0 0 (mw_fr G)) (F0 m 74 ls []) := by
        intro M L H locs ls hD hw hl
        unfold fX19_read_b74 at hD
        refine lv_aload_n C.1.1 C.1.2.1 dX19_read_74 rfl (lv_at hl 0 rfl) ?_
        refine mr_getI C hw kc_19 7 (by decide) tf_732 wd_2788 dX19_read_75 (by decide) rfl ?_
        refine lv_iconst (v := 1) C.1.1 C.1.2.1 dX19_read_78 (by decide) ?_
        refine lv_iadd C.1.1 C.1.2.1 dX19_read_79 ?_
        obtain ⟨x22, ex22, hD⟩ := g_let hD
        refine W.eq (g2 := F0 m 80 ls (.int x22 :: [])) (by rw [ex22]) ?_
        refine lv_istore_n (lv' := [(1, .int x22), (0, .ref (ad 732))]) C.1.1 C.1.2.1 dX19_read_80 rfl hl (by decide) rfl (fun ls hl => ?_)
        refine lv_goto (tgt := 2) C.1.1 C.1.2.1 dX19_read_81 (by decide) ?_
        exact ih2 x22 M L _ _ ls hD hw (lv_sub hl [1, 0] rfl)
      have hb53 : ∀ (v1 : Int32) (M : mwM) (L : mwL) (H : Heap) (locs : List Loc) (ls : Array Slot), fX19_read_b53 fu (fX19_read_h2 fu f2) v1 M L = some (r0, M0, L0) → mw_W G ad NF TF FF M L H locs → lv_has ls 2 [(0, .ref (ad 732)), (1, .int v1)] → W p l e ({ frames := 6, cells := 0, slots := 0, locals := 139 }) s m [.ref (ad 732)].toArray below meth c H locs 0 0 (MQ below (mw_Qi G ad NF TF FF (mw_eqI r0 M0 L0)) [.ref (ad 732)].toArray s 0 0 (mw_fr G)) (F0 m 53 ls []) := by
        intro v1 M L H locs ls hD hw hl
        unfold fX19_read_b53 at hD
        refine lv_aload_n C.1.1 C.1.2.1 dX19_read_53 rfl (lv_at hl 0 rfl) ?_
        refine lv_iload_n C.1.1 C.1.2.1 dX19_read_54 rfl (lv_at hl 1 rfl) ?_
        obtain ⟨M12, eM12, hD⟩ := g_let hD
        refine mr_putI C hw kc_19 6 (by decide) tf_732 wd_2787 dX19_read_55 (by decide) rfl rfl rfl rfl (fun H locs hw => ?_)
        replace hw : mw_W G ad NF TF FF M12 L H locs := by rw [eM12]; exact hw
        refine lv_aload_n C.1.1 C.1.2.1 dX19_read_58 rfl (lv_at hl 0 rfl) ?_
        obtain ⟨r16, M13, L14, h1, hD⟩ := g_b3 hD
        refine md_cvI (As := []) (rest := []) C hw (tX19_next l G ad fu M12 L h1) kc_19 (by decide) tf_732 wd_3145 cwX19_next ⟨Nat.le_of_ble_eq_true rfl, Nat.le_of_ble_eq_true rfl⟩ rfl hl.1 (Nat.le_of_ble_eq_true rfl) dX19_read_59 rfl rfl ⟨Nat.zero_le _, Nat.zero_le _⟩ rfl (fun H locs hw => ?_)
        refine lv_if_eq (tgt := 74) C.1.1 C.1.2.1 dX19_read_62 (by decide) (fun c17 => ?_) (fun c17 => ?_)
        · replace hD := g_pos c17 hD
          exact hb74 M13 L14 _ _ ls hD hw (lv_sub hl [0] rfl)
        · replace hD := g_neg c17 hD
          refine lv_aload_n C.1.1 C.1.2.1 dX19_read_65 rfl (lv_at hl 0 rfl) ?_
          obtain ⟨r20, M18, L19, h1, hD⟩ := g_b3 hD
          refine md_cvI (As := []) (rest := []) C hw (tX19_line l G ad fu M13 L14 h1) kc_19 (by decide) tf_732 wd_3149 cwX19_line ⟨Nat.le_of_ble_eq_true rfl, Nat.le_of_ble_eq_true rfl⟩ rfl hl.1 (Nat.le_of_ble_eq_true rfl) dX19_read_66 rfl rfl ⟨Nat.zero_le _, Nat.zero_le _⟩ rfl (fun H locs hw => ?_)
          refine lv_if_ne (tgt := 74) C.1.1 C.1.2.1 dX19_read_69 (by decide) (fun c21 => ?_) (fun c21 => ?_)
          · replace hD := g_neg c21 hD
            exact hb74 M18 L19 _ _ ls hD hw (lv_sub hl [0] rfl)
          · replace hD := g_pos c21 hD
            refine lv_iconst (v := 0) C.1.1 C.1.2.1 dX19_read_72 (by decide) ?_
            exact mr_iret C hr hlocks hw (by decide +kernel) (Option.some.inj hD) dX19_read_73
      have hh15 : ∀ (f : Nat) (v1 : Int32) (M : mwM) (L : mwL) (H : Heap) (locs : List Loc) (ls : Array Slot), fX19_read_h15 fu (fX19_read_h2 fu f2) f (v1, M, L) = some (r0, M0, L0) → mw_W G ad NF TF FF M L H locs → lv_has ls 2 [(0, .ref (ad 732)), (1, .int v1)] → W p l e ({ frames := 6, cells := 0, slots := 0, locals := 139 }) s m [.ref (ad 732)].toArray below meth c H locs 0 0 (MQ below (mw_Qi G ad NF TF FF (mw_eqI r0 M0 L0)) [.ref (ad 732)].toArray s 0 0 (mw_fr G)) (F0 m 15 ls []) := by
        intro f
        induction f with
        | zero => intro v1 M L H locs ls hD; cases hD
        | succ f15 ih15 =>
          intro v1 M L H locs ls hD hw hl
          replace hD : fX19_read_i15 fu (fX19_read_h2 fu f2) (fX19_read_h15 fu (fX19_read_h2 fu f2) f15) v1 M L = some (r0, M0, L0) := hD
          unfold fX19_read_i15 at hD
          refine lv_aload_n C.1.1 C.1.2.1 dX19_read_15 rfl (lv_at hl 0 rfl) ?_
          refine mr_getI C hw kc_19 7 (by decide) tf_732 wd_2788 dX19_read_16 (by decide) rfl ?_
          refine lv_aload_n C.1.1 C.1.2.1 dX19_read_19 rfl (lv_at hl 0 rfl) ?_
          refine mr_getI C hw kc_19 2 (by decide) tf_732 wd_2783 dX19_read_20 (by decide) rfl ?_
          refine lv_icmp_ge (tgt := 53) C.1.1 C.1.2.1 dX19_read_23 (by decide) (fun c8 => ?_) (fun c8 => ?_)
          · replace hD := g_pos c8 hD
            exact hb53 v1 M L _ _ ls hD hw (lv_sub hl [0, 1] rfl)
          · replace hD := g_neg c8 hD
            refine lv_aload_n C.1.1 C.1.2.1 dX19_read_26 rfl (lv_at hl 0 rfl) ?_
            refine mr_getR C hw kc_19 1 (by decide) tf_732 ff_732_1 wd_2782 dX19_read_27 (by decide) rfl ?_
            refine lv_aload_n C.1.1 C.1.2.1 dX19_read_30 rfl (lv_at hl 0 rfl) ?_
            refine mr_getI C hw kc_19 7 (by decide) tf_732 wd_2788 dX19_read_31 (by decide) rfl ?_
            obtain ⟨q9, hD⟩ := g_ck hD
            refine mr_iald C hw (by decide) tf_733 q9 dX19_read_34 ?_
            refine lv_bipush (v := 10) C.1.1 C.1.2.1 dX19_read_35 (by decide) ?_
            refine lv_icmp_eq (tgt := 53) C.1.1 C.1.2.1 dX19_read_37 (by decide) (fun c10 => ?_) (fun c10 => ?_)
            · replace hD := g_pos c10 hD
              exact hb53 v1 M L _ _ ls hD hw (lv_sub hl [0, 1] rfl)
            · replace hD := g_neg c10 hD
              refine lv_aload_n C.1.1 C.1.2.1 dX19_read_40 rfl (lv_at hl 0 rfl) ?_
              refine lv_dup C.1.1 C.1.2.1 dX19_read_41 rfl ?_
              refine mr_getI C hw kc_19 7 (by decide) tf_732 wd_2788 dX19_read_42 (by decide) rfl ?_
              refine lv_iconst (v := 1) C.1.1 C.1.2.1 dX19_read_45 (by decide) ?_
              refine lv_iadd C.1.1 C.1.2.1 dX19_read_46 ?_
              obtain ⟨M11, eM11, hD⟩ := g_let hD
              refine mr_putI C hw kc_19 7 (by decide) tf_732 wd_2788 dX19_read_47 (by decide) rfl rfl rfl rfl (fun H locs hw => ?_)
              replace hw : mw_W G ad NF TF FF M11 L H locs := by rw [eM11]; exact hw
              refine lv_goto (tgt := 15) C.1.1 C.1.2.1 dX19_read_50 (by decide) ?_
              exact ih15 v1 M11 L _ _ ls hD hw (lv_sub hl [0, 1] rfl)
      unfold fX19_read_i2 at hD
      refine lv_iload_n C.1.1 C.1.2.1 dX19_read_2 rfl (lv_at hl 1 rfl) ?_
      refine lv_aload_n C.1.1 C.1.2.1 dX19_read_3 rfl (lv_at hl 0 rfl) ?_
      refine mr_getI C hw kc_19 2 (by decide) tf_732 wd_2783 dX19_read_4 (by decide) rfl ?_
      refine lv_icmp_ge (tgt := 84) C.1.1 C.1.2.1 dX19_read_7 (by decide) (fun c1 => ?_) (fun c1 => ?_)
      · replace hD := g_pos c1 hD
        refine lv_aload_n C.1.1 C.1.2.1 dX19_read_84 rfl (lv_at hl 0 rfl) ?_
        refine mr_getI C hw kc_19 19 (by decide) tf_732 wd_2800 dX19_read_85 (by decide) rfl ?_
        refine lv_if_gt (tgt := 103) C.1.1 C.1.2.1 dX19_read_88 (by decide) (fun c2 => ?_) (fun c2 => ?_)
        · replace hD := g_pos c2 hD
          exact hb103 M L _ _ ls hD hw (lv_sub hl [] rfl)
        · replace hD := g_neg c2 hD
          refine lv_aload_n C.1.1 C.1.2.1 dX19_read_91 rfl (lv_at hl 0 rfl) ?_
          refine lv_iconst (v := 4) C.1.1 C.1.2.1 dX19_read_92 (by decide) ?_
          refine lv_aload_n C.1.1 C.1.2.1 dX19_read_93 rfl (lv_at hl 0 rfl) ?_
          refine mr_getI C hw kc_19 2 (by decide) tf_732 wd_2783 dX19_read_94 (by decide) rfl ?_
          obtain ⟨r5, M3, L4, h1, hD⟩ := g_b3 hD
          refine md_cvI (As := [.int 4, .int (M 732 2)]) (rest := []) C hw (tX19_fail l G ad fu 4 (M 732 2) M L h1) kc_19 (by decide) tf_732 wd_3172 cwX19_fail ⟨Nat.le_of_ble_eq_true rfl, Nat.le_of_ble_eq_true rfl⟩ rfl hl.1 (Nat.le_of_ble_eq_true rfl) dX19_read_97 rfl rfl ⟨Nat.zero_le _, Nat.zero_le _⟩ rfl (fun H locs hw => ?_)
          refine lv_if_eq (tgt := 107) C.1.1 C.1.2.1 dX19_read_100 (by decide) (fun c6 => ?_) (fun c6 => ?_)
          · replace hD := g_pos c6 hD
            refine lv_iconst (v := 0) C.1.1 C.1.2.1 dX19_read_107 (by decide) ?_
            exact hb108 0 M3 L4 _ _ ls hD hw (lv_sub hl [] rfl)
          · replace hD := g_neg c6 hD
            exact hb103 M3 L4 _ _ ls hD hw (lv_sub hl [] rfl)
      · replace hD := g_neg c1 hD
        refine lv_aload_n C.1.1 C.1.2.1 dX19_read_10 rfl (lv_at hl 0 rfl) ?_
        refine lv_iload_n C.1.1 C.1.2.1 dX19_read_11 rfl (lv_at hl 1 rfl) ?_
        obtain ⟨M7, eM7, hD⟩ := g_let hD
        refine mr_putI C hw kc_19 7 (by decide) tf_732 wd_2788 dX19_read_12 (by decide) rfl rfl rfl rfl (fun H locs hw => ?_)
        replace hw : mw_W G ad NF TF FF M7 L H locs := by rw [eM7]; exact hw
        exact hh15 fu v1 M7 L _ _ ls hD hw (lv_sub hl [0, 1] rfl)
  unfold DX19_read at hD
  refine lv_iconst (v := 0) C.1.1 C.1.2.1 dX19_read_0 (by decide) ?_
  refine lv_istore_n (lv' := [(1, .int 0), (0, .ref (ad 732))]) C.1.1 C.1.2.1 dX19_read_1 rfl hl (by decide) rfl (fun ls hl => ?_)
  exact hh2 fu 0 M L _ _ ls hD hw (lv_sub hl [1, 0] rfl)

theorem dX19_system_0 : decode cX19_system 0 = .ok (.aload_n 0, 1) := by decide +kernel
theorem dX19_system_1 : decode cX19_system 1 = .ok (.aload_n 0, 1) := by decide +kernel
theorem dX19_system_2 : decode cX19_system 2 = .ok (.getfield 627, 3) := by decide +kernel
theorem dX19_system_5 : decode cX19_system 5 = .ok (.bipush 16, 2) := by decide +kernel
theorem dX19_system_7 : decode cX19_system 7 = .ok (.if_icmp .ne 7, 3) := by decide +kernel
theorem dX19_system_10 : decode cX19_system 10 = .ok (.iconst 1, 1) := by decide +kernel
theorem dX19_system_11 : decode cX19_system 11 = .ok (.goto 4, 3) := by decide +kernel
theorem dX19_system_14 : decode cX19_system 14 = .ok (.iconst 0, 1) := by decide +kernel
theorem dX19_system_15 : decode cX19_system 15 = .ok (.putfield 289, 3) := by decide +kernel
theorem dX19_system_18 : decode cX19_system 18 = .ok (.aload_n 0, 1) := by decide +kernel
theorem dX19_system_19 : decode cX19_system 19 = .ok (.getfield 289, 3) := by decide +kernel
theorem dX19_system_22 : decode cX19_system 22 = .ok (.ifCond .le 5, 3) := by decide +kernel
theorem dX19_system_25 : decode cX19_system 25 = .ok (.iconst 0, 1) := by decide +kernel
theorem dX19_system_26 : decode cX19_system 26 = .ok (.ireturn, 1) := by decide +kernel
theorem dX19_system_27 : decode cX19_system 27 = .ok (.aload_n 0, 1) := by decide +kernel
theorem dX19_system_28 : decode cX19_system 28 = .ok (.dup, 1) := by decide +kernel
theorem dX19_system_29 : decode cX19_system 29 = .ok (.getfield 627, 3) := by decide +kernel
theorem dX19_system_32 : decode cX19_system 32 = .ok (.iconst 1, 1) := by decide +kernel
theorem dX19_system_33 : decode cX19_system 33 = .ok (.iadd, 1) := by decide +kernel
theorem dX19_system_34 : decode cX19_system 34 = .ok (.putfield 627, 3) := by decide +kernel
theorem dX19_system_37 : decode cX19_system 37 = .ok (.aload_n 0, 1) := by decide +kernel
theorem dX19_system_38 : decode cX19_system 38 = .ok (.iconst 0, 1) := by decide +kernel
theorem dX19_system_39 : decode cX19_system 39 = .ok (.putfield 630, 3) := by decide +kernel
theorem dX19_system_42 : decode cX19_system 42 = .ok (.aload_n 0, 1) := by decide +kernel
theorem dX19_system_43 : decode cX19_system 43 = .ok (.iconst 0, 1) := by decide +kernel
theorem dX19_system_44 : decode cX19_system 44 = .ok (.putfield 634, 3) := by decide +kernel
theorem dX19_system_47 : decode cX19_system 47 = .ok (.aload_n 0, 1) := by decide +kernel
theorem dX19_system_48 : decode cX19_system 48 = .ok (.iconst 0, 1) := by decide +kernel
theorem dX19_system_49 : decode cX19_system 49 = .ok (.putfield 347, 3) := by decide +kernel
theorem dX19_system_52 : decode cX19_system 52 = .ok (.aload_n 0, 1) := by decide +kernel
theorem dX19_system_53 : decode cX19_system 53 = .ok (.iconst 0, 1) := by decide +kernel
theorem dX19_system_54 : decode cX19_system 54 = .ok (.putfield 435, 3) := by decide +kernel
theorem dX19_system_57 : decode cX19_system 57 = .ok (.aload_n 0, 1) := by decide +kernel
theorem dX19_system_58 : decode cX19_system 58 = .ok (.iconst 0, 1) := by decide +kernel
theorem dX19_system_59 : decode cX19_system 59 = .ok (.putfield 546, 3) := by decide +kernel
theorem dX19_system_62 : decode cX19_system 62 = .ok (.aload_n 0, 1) := by decide +kernel
theorem dX19_system_63 : decode cX19_system 63 = .ok (.iconst 0, 1) := by decide +kernel
theorem dX19_system_64 : decode cX19_system 64 = .ok (.putfield 448, 3) := by decide +kernel
theorem dX19_system_67 : decode cX19_system 67 = .ok (.aload_n 0, 1) := by decide +kernel
theorem dX19_system_68 : decode cX19_system 68 = .ok (.iconst 0, 1) := by decide +kernel
theorem dX19_system_69 : decode cX19_system 69 = .ok (.putfield 456, 3) := by decide +kernel
theorem dX19_system_72 : decode cX19_system 72 = .ok (.aload_n 0, 1) := by decide +kernel
theorem dX19_system_73 : decode cX19_system 73 = .ok (.iconst 0, 1) := by decide +kernel
theorem dX19_system_74 : decode cX19_system 74 = .ok (.putfield 541, 3) := by decide +kernel
theorem dX19_system_77 : decode cX19_system 77 = .ok (.aload_n 0, 1) := by decide +kernel
theorem dX19_system_78 : decode cX19_system 78 = .ok (.iconst 0, 1) := by decide +kernel
theorem dX19_system_79 : decode cX19_system 79 = .ok (.putfield 555, 3) := by decide +kernel
theorem dX19_system_82 : decode cX19_system 82 = .ok (.aload_n 0, 1) := by decide +kernel
theorem dX19_system_83 : decode cX19_system 83 = .ok (.iconst 0, 1) := by decide +kernel
theorem dX19_system_84 : decode cX19_system 84 = .ok (.putfield 558, 3) := by decide +kernel
theorem dX19_system_87 : decode cX19_system 87 = .ok (.aload_n 0, 1) := by decide +kernel
theorem dX19_system_88 : decode cX19_system 88 = .ok (.iconst 0, 1) := by decide +kernel
theorem dX19_system_89 : decode cX19_system 89 = .ok (.putfield 568, 3) := by decide +kernel
theorem dX19_system_92 : decode cX19_system 92 = .ok (.aload_n 0, 1) := by decide +kernel
theorem dX19_system_93 : decode cX19_system 93 = .ok (.getfield 205, 3) := by decide +kernel
theorem dX19_system_96 : decode cX19_system 96 = .ok (.bipush 8, 2) := by decide +kernel
theorem dX19_system_98 : decode cX19_system 98 = .ok (.invokevirtual 636, 3) := by decide +kernel
theorem dX19_system_101 : decode cX19_system 101 = .ok (.aload_n 0, 1) := by decide +kernel
theorem dX19_system_102 : decode cX19_system 102 = .ok (.aload_n 0, 1) := by decide +kernel
theorem dX19_system_103 : decode cX19_system 103 = .ok (.invokevirtual 637, 3) := by decide +kernel
theorem dX19_system_106 : decode cX19_system 106 = .ok (.ifCond .eq 21, 3) := by decide +kernel
theorem dX19_system_109 : decode cX19_system 109 = .ok (.aload_n 0, 1) := by decide +kernel
theorem dX19_system_110 : decode cX19_system 110 = .ok (.invokevirtual 640, 3) := by decide +kernel
theorem dX19_system_113 : decode cX19_system 113 = .ok (.ifCond .eq 14, 3) := by decide +kernel
theorem dX19_system_116 : decode cX19_system 116 = .ok (.aload_n 0, 1) := by decide +kernel
theorem dX19_system_117 : decode cX19_system 117 = .ok (.invokevirtual 643, 3) := by decide +kernel
theorem dX19_system_120 : decode cX19_system 120 = .ok (.ifCond .eq 7, 3) := by decide +kernel
theorem dX19_system_123 : decode cX19_system 123 = .ok (.iconst 1, 1) := by decide +kernel
theorem dX19_system_124 : decode cX19_system 124 = .ok (.goto 4, 3) := by decide +kernel
theorem dX19_system_127 : decode cX19_system 127 = .ok (.iconst 0, 1) := by decide +kernel
theorem dX19_system_128 : decode cX19_system 128 = .ok (.putfield 630, 3) := by decide +kernel
theorem dX19_system_131 : decode cX19_system 131 = .ok (.aload_n 0, 1) := by decide +kernel
theorem dX19_system_132 : decode cX19_system 132 = .ok (.getfield 630, 3) := by decide +kernel
theorem dX19_system_135 : decode cX19_system 135 = .ok (.ifCond .eq 5, 3) := by decide +kernel
theorem dX19_system_138 : decode cX19_system 138 = .ok (.iconst 0, 1) := by decide +kernel
theorem dX19_system_139 : decode cX19_system 139 = .ok (.ireturn, 1) := by decide +kernel
theorem dX19_system_140 : decode cX19_system 140 = .ok (.aload_n 0, 1) := by decide +kernel
theorem dX19_system_141 : decode cX19_system 141 = .ok (.aload_n 0, 1) := by decide +kernel
theorem dX19_system_142 : decode cX19_system 142 = .ok (.getfield 302, 3) := by decide +kernel
theorem dX19_system_145 : decode cX19_system 145 = .ok (.putfield 634, 3) := by decide +kernel
theorem dX19_system_148 : decode cX19_system 148 = .ok (.aload_n 0, 1) := by decide +kernel
theorem dX19_system_149 : decode cX19_system 149 = .ok (.getfield 299, 3) := by decide +kernel
theorem dX19_system_152 : decode cX19_system 152 = .ok (.ireturn, 1) := by decide +kernel
theorem cwX19_system : mw_cwV yX19_system cX19_system 1 ((some .int)) 0 := ⟨⟨wd_13, wd_3136, by decide +kernel⟩, wd_3134, wd_3135⟩
noncomputable def fX19_system_b128 (fu : Nat) (s1 : Int32) (M : mwM) (L : mwL) : Option (Int32 × mwM × mwL) :=
  mzz s1 (mlet (mset M 732 4 s1) (fun M30 => (if (M30 732 4) = 0 then mlet (mset M30 732 5 (M30 732 12)) (fun M32 => some (M32 732 11, M32, L)) else some (0, M30, L))))
noncomputable def fX19_system_b127 (fu : Nat) (M : mwM) (L : mwL) : Option (Int32 × mwM × mwL) :=
  fX19_system_b128 fu 0 M L
noncomputable def fX19_system_b15 (fu : Nat) (s1 : Int32) (M : mwM) (L : mwL) : Option (Int32 × mwM × mwL) :=
  mlet (mset M 732 0 s1) (fun M1 => (if (M1 732 0) ≤ 0 then mlet (mset M1 732 3 ((M1 732 3) + 1)) (fun M3 => mlet (mset M3 732 4 0) (fun M4 => mlet (mset M4 732 5 0) (fun M5 => mlet (mset M5 732 14 0) (fun M6 => mlet (mset M6 732 19 0) (fun M7 => mlet (mset M7 732 20 0) (fun M8 => mlet (mset M8 732 24 0) (fun M9 => mlet (mset M9 732 33 0) (fun M10 => mlet (mset M10 732 45 0) (fun M11 => mlet (mset M11 732 55 0) (fun M12 => mlet (mset M12 732 62 0) (fun M13 => mlet (mset M13 732 67 0) (fun M14 => mb2 (DX18_anew fu 8 M14 L) (fun M15 L16 => mb3 (DX19_read fu M15 L16) (fun r19 M17 L18 => (if r19 = 0 then fX19_system_b127 fu M17 L18 else mb3 (DX19_join fu M17 L18) (fun r23 M21 L22 => (if r23 = 0 then fX19_system_b127 fu M21 L22 else mb3 (DX19_build fu M21 L22) (fun r27 M25 L26 => (if r27 = 0 then fX19_system_b127 fu M25 L26 else fX19_system_b128 fu 1 M25 L26))))))))))))))))))) else some (0, M1, L)))
noncomputable def DX19_system (fu : Nat) (M : mwM) (L : mwL) : Option (Int32 × mwM × mwL) :=
  (if (M 732 3) = 16 then fX19_system_b15 fu 1 M L else fX19_system_b15 fu 0 M L)
set_option maxHeartbeats 4000000 in
set_option maxRecDepth 100000 in
theorem tX19_system (l : Launch) (G : mwG) (ad : Nat → Nat) (fu : Nat) (M : mwM) (L : mwL) {r0 : Int32} {M0 : mwM} {L0 : mwL} (hD : DX19_system fu M L = some (r0, M0, L0)) : Met l yX19_system (Cond.code yX19_system cX19_system 1 ((some .int)) :: GT) ({ frames := 9, cells := 0, slots := 0, locals := 230 }) (mw_Pre G ad NF TF FF M L [.ref (ad 732)]) (mw_Qi G ad NF TF FF (mw_eqI r0 M0 L0)) 0 0 (mw_fr G) := by
  refine mw_enter (by decide) (Nat.le_of_ble_eq_true rfl) ?_
  intro p e s m below meth c ls C hr hlocks hnm hw hl
  have hl : lv_has ls 1 [(0, .ref (ad 732))] := hl
  have hb128 : ∀ (s1 : Int32) (M : mwM) (L : mwL) (H : Heap) (locs : List Loc) (ls : Array Slot), fX19_system_b128 fu s1 M L = some (r0, M0, L0) → mw_W G ad NF TF FF M L H locs → lv_has ls 1 [(0, .ref (ad 732))] → W p l e ({ frames := 9, cells := 0, slots := 0, locals := 230 }) s m [.ref (ad 732)].toArray below meth c H locs 0 0 (MQ below (mw_Qi G ad NF TF FF (mw_eqI r0 M0 L0)) [.ref (ad 732)].toArray s 0 0 (mw_fr G)) (F0 m 128 ls [.int s1, .ref (ad 732)]) := by
    intro s1 M L H locs ls hD hw hl
    unfold fX19_system_b128 at hD
    obtain ⟨z29, hD⟩ := g_zz hD
    obtain ⟨M30, eM30, hD⟩ := g_let hD
    refine mr_putI C hw kc_19 4 (by decide) tf_732 wd_2785 dX19_system_128 (by decide) rfl rfl (nz_zz z29) (ft_zz z29) (fun H locs hw => ?_)
    replace hw : mw_W G ad NF TF FF M30 L H locs := by rw [eM30]; exact hw
    refine lv_aload_n C.1.1 C.1.2.1 dX19_system_131 rfl (lv_at hl 0 rfl) ?_
    refine mr_getI C hw kc_19 4 (by decide) tf_732 wd_2785 dX19_system_132 (by decide) rfl ?_
    refine lv_if_eq (tgt := 140) C.1.1 C.1.2.1 dX19_system_135 (by decide) (fun c31 => ?_) (fun c31 => ?_)
    · replace hD := g_pos c31 hD
      refine lv_aload_n C.1.1 C.1.2.1 dX19_system_140 rfl (lv_at hl 0 rfl) ?_
      refine lv_aload_n C.1.1 C.1.2.1 dX19_system_141 rfl (lv_at hl 0 rfl) ?_
      refine mr_getI C hw kc_19 12 (by decide) tf_732 wd_2793 dX19_system_142 (by decide) rfl ?_
      obtain ⟨M32, eM32, hD⟩ := g_let hD
      refine mr_putI C hw kc_19 5 (by decide) tf_732 wd_2786 dX19_system_145 (by decide) rfl rfl rfl rfl (fun H locs hw => ?_)
      replace hw : mw_W G ad NF TF FF M32 L H locs := by rw [eM32]; exact hw
      refine lv_aload_n C.1.1 C.1.2.1 dX19_system_148 rfl (lv_at hl 0 rfl) ?_
      refine mr_getI C hw kc_19 11 (by decide) tf_732 wd_2792 dX19_system_149 (by decide) rfl ?_
      exact mr_iret C hr hlocks hw rfl (Option.some.inj hD) dX19_system_152
    · replace hD := g_neg c31 hD
      refine lv_iconst (v := 0) C.1.1 C.1.2.1 dX19_system_138 (by decide) ?_
      exact mr_iret C hr hlocks hw rfl (Option.some.inj hD) dX19_system_139
  have hb127 : ∀ (M : mwM) (L : mwL) (H : Heap) (locs : List Loc) (ls : Array Slot), fX19_system_b127 fu M L = some (r0, M0, L0) → mw_W G ad NF TF FF M L H locs → lv_has ls 1 [(0, .ref (ad 732))] → W p l e ({ frames := 9, cells := 0, slots := 0, locals := 230 }) s m [.ref (ad 732)].toArray below meth c H locs 0 0 (MQ below (mw_Qi G ad NF TF FF (mw_eqI r0 M0 L0)) [.ref (ad 732)].toArray s 0 0 (mw_fr G)) (F0 m 127 ls [.ref (ad 732)]) := by
    intro M L H locs ls hD hw hl
    unfold fX19_system_b127 at hD
    refine lv_iconst (v := 0) C.1.1 C.1.2.1 dX19_system_127 (by decide) ?_
    exact hb128 0 M L _ _ ls hD hw (lv_sub hl [0] rfl)
  have hb15 : ∀ (s1 : Int32) (M : mwM) (L : mwL) (H : Heap) (locs : List Loc) (ls : Array Slot), fX19_system_b15 fu s1 M L = some (r0, M0, L0) → mw_W G ad NF TF FF M L H locs → lv_has ls 1 [(0, .ref (ad 732))] → W p l e ({ frames := 9, cells := 0, slots := 0, locals := 230 }) s m [.ref (ad 732)].toArray below meth c H locs 0 0 (MQ below (mw_Qi G ad NF TF FF (mw_eqI r0 M0 L0)) [.ref (ad 732)].toArray s 0 0 (mw_fr G)) (F0 m 15 ls [.int s1, .ref (ad 732)]) := by
    intro s1 M L H locs ls hD hw hl
    unfold fX19_system_b15 at hD
    obtain ⟨M1, eM1, hD⟩ := g_let hD
    refine mr_putI C hw kc_19 0 (by decide) tf_732 wd_2781 dX19_system_15 (by decide) rfl rfl rfl rfl (fun H locs hw => ?_)
    replace hw : mw_W G ad NF TF FF M1 L H locs := by rw [eM1]; exact hw
    refine lv_aload_n C.1.1 C.1.2.1 dX19_system_18 rfl (lv_at hl 0 rfl) ?_
    refine mr_getI C hw kc_19 0 (by decide) tf_732 wd_2781 dX19_system_19 (by decide) rfl ?_
    refine lv_if_le (tgt := 27) C.1.1 C.1.2.1 dX19_system_22 (by decide) (fun c2 => ?_) (fun c2 => ?_)
    · replace hD := g_pos c2 hD
      refine lv_aload_n C.1.1 C.1.2.1 dX19_system_27 rfl (lv_at hl 0 rfl) ?_
      refine lv_dup C.1.1 C.1.2.1 dX19_system_28 rfl ?_
      refine mr_getI C hw kc_19 3 (by decide) tf_732 wd_2784 dX19_system_29 (by decide) rfl ?_
      refine lv_iconst (v := 1) C.1.1 C.1.2.1 dX19_system_32 (by decide) ?_
      refine lv_iadd C.1.1 C.1.2.1 dX19_system_33 ?_
      obtain ⟨M3, eM3, hD⟩ := g_let hD
      refine mr_putI C hw kc_19 3 (by decide) tf_732 wd_2784 dX19_system_34 (by decide) rfl rfl rfl rfl (fun H locs hw => ?_)
      replace hw : mw_W G ad NF TF FF M3 L H locs := by rw [eM3]; exact hw
      refine lv_aload_n C.1.1 C.1.2.1 dX19_system_37 rfl (lv_at hl 0 rfl) ?_
      refine lv_iconst (v := 0) C.1.1 C.1.2.1 dX19_system_38 (by decide) ?_
      obtain ⟨M4, eM4, hD⟩ := g_let hD
      refine mr_putI C hw kc_19 4 (by decide) tf_732 wd_2785 dX19_system_39 (by decide) rfl rfl (by decide +kernel) (by decide +kernel) (fun H locs hw => ?_)
      replace hw : mw_W G ad NF TF FF M4 L H locs := by rw [eM4]; exact hw
      refine lv_aload_n C.1.1 C.1.2.1 dX19_system_42 rfl (lv_at hl 0 rfl) ?_
      refine lv_iconst (v := 0) C.1.1 C.1.2.1 dX19_system_43 (by decide) ?_
      obtain ⟨M5, eM5, hD⟩ := g_let hD
      refine mr_putI C hw kc_19 5 (by decide) tf_732 wd_2786 dX19_system_44 (by decide) rfl rfl rfl rfl (fun H locs hw => ?_)
      replace hw : mw_W G ad NF TF FF M5 L H locs := by rw [eM5]; exact hw
      refine lv_aload_n C.1.1 C.1.2.1 dX19_system_47 rfl (lv_at hl 0 rfl) ?_
      refine lv_iconst (v := 0) C.1.1 C.1.2.1 dX19_system_48 (by decide) ?_
      obtain ⟨M6, eM6, hD⟩ := g_let hD
      refine mr_putI C hw kc_19 14 (by decide) tf_732 wd_2795 dX19_system_49 (by decide) rfl rfl rfl rfl (fun H locs hw => ?_)
      replace hw : mw_W G ad NF TF FF M6 L H locs := by rw [eM6]; exact hw
      refine lv_aload_n C.1.1 C.1.2.1 dX19_system_52 rfl (lv_at hl 0 rfl) ?_
      refine lv_iconst (v := 0) C.1.1 C.1.2.1 dX19_system_53 (by decide) ?_
      obtain ⟨M7, eM7, hD⟩ := g_let hD
      refine mr_putI C hw kc_19 19 (by decide) tf_732 wd_2800 dX19_system_54 (by decide) rfl rfl rfl rfl (fun H locs hw => ?_)
      replace hw : mw_W G ad NF TF FF M7 L H locs := by rw [eM7]; exact hw
      refine lv_aload_n C.1.1 C.1.2.1 dX19_system_57 rfl (lv_at hl 0 rfl) ?_
      refine lv_iconst (v := 0) C.1.1 C.1.2.1 dX19_system_58 (by decide) ?_
      obtain ⟨M8, eM8, hD⟩ := g_let hD
      refine mr_putI C hw kc_19 20 (by decide) tf_732 wd_2801 dX19_system_59 (by decide) rfl rfl rfl rfl (fun H locs hw => ?_)
      replace hw : mw_W G ad NF TF FF M8 L H locs := by rw [eM8]; exact hw
      refine lv_aload_n C.1.1 C.1.2.1 dX19_system_62 rfl (lv_at hl 0 rfl) ?_
      refine lv_iconst (v := 0) C.1.1 C.1.2.1 dX19_system_63 (by decide) ?_
      obtain ⟨M9, eM9, hD⟩ := g_let hD
      refine mr_putI C hw kc_19 24 (by decide) tf_732 wd_2805 dX19_system_64 (by decide) rfl rfl rfl rfl (fun H locs hw => ?_)
      replace hw : mw_W G ad NF TF FF M9 L H locs := by rw [eM9]; exact hw
      refine lv_aload_n C.1.1 C.1.2.1 dX19_system_67 rfl (lv_at hl 0 rfl) ?_
      refine lv_iconst (v := 0) C.1.1 C.1.2.1 dX19_system_68 (by decide) ?_
      obtain ⟨M10, eM10, hD⟩ := g_let hD
      refine mr_putI C hw kc_19 33 (by decide) tf_732 wd_2814 dX19_system_69 (by decide) rfl rfl rfl rfl (fun H locs hw => ?_)
      replace hw : mw_W G ad NF TF FF M10 L H locs := by rw [eM10]; exact hw
      refine lv_aload_n C.1.1 C.1.2.1 dX19_system_72 rfl (lv_at hl 0 rfl) ?_
      refine lv_iconst (v := 0) C.1.1 C.1.2.1 dX19_system_73 (by decide) ?_
      obtain ⟨M11, eM11, hD⟩ := g_let hD
      refine mr_putI C hw kc_19 45 (by decide) tf_732 wd_2826 dX19_system_74 (by decide) rfl rfl rfl rfl (fun H locs hw => ?_)
      replace hw : mw_W G ad NF TF FF M11 L H locs := by rw [eM11]; exact hw
      refine lv_aload_n C.1.1 C.1.2.1 dX19_system_77 rfl (lv_at hl 0 rfl) ?_
      refine lv_iconst (v := 0) C.1.1 C.1.2.1 dX19_system_78 (by decide) ?_
      obtain ⟨M12, eM12, hD⟩ := g_let hD
      refine mr_putI C hw kc_19 55 (by decide) tf_732 wd_2836 dX19_system_79 (by decide) rfl rfl rfl rfl (fun H locs hw => ?_)
      replace hw : mw_W G ad NF TF FF M12 L H locs := by rw [eM12]; exact hw
      refine lv_aload_n C.1.1 C.1.2.1 dX19_system_82 rfl (lv_at hl 0 rfl) ?_
      refine lv_iconst (v := 0) C.1.1 C.1.2.1 dX19_system_83 (by decide) ?_
      obtain ⟨M13, eM13, hD⟩ := g_let hD
      refine mr_putI C hw kc_19 62 (by decide) tf_732 wd_2843 dX19_system_84 (by decide) rfl rfl rfl rfl (fun H locs hw => ?_)
      replace hw : mw_W G ad NF TF FF M13 L H locs := by rw [eM13]; exact hw
      refine lv_aload_n C.1.1 C.1.2.1 dX19_system_87 rfl (lv_at hl 0 rfl) ?_
      refine lv_iconst (v := 0) C.1.1 C.1.2.1 dX19_system_88 (by decide) ?_
      obtain ⟨M14, eM14, hD⟩ := g_let hD
      refine mr_putI C hw kc_19 67 (by decide) tf_732 wd_2848 dX19_system_89 (by decide) rfl rfl rfl rfl (fun H locs hw => ?_)
      replace hw : mw_W G ad NF TF FF M14 L H locs := by rw [eM14]; exact hw
      refine lv_aload_n C.1.1 C.1.2.1 dX19_system_92 rfl (lv_at hl 0 rfl) ?_
      refine mr_getR C hw kc_19 80 (by decide) tf_732 ff_732_80 wd_2861 dX19_system_93 (by decide) rfl ?_
      refine lv_bipush (v := 8) C.1.1 C.1.2.1 dX19_system_96 (by decide) ?_
      obtain ⟨M15, L16, h1, hD⟩ := g_b2 hD
      refine md_cvV (As := [.int 8]) (rest := []) C hw (tX18_anew l G ad fu 8 M14 L h1) kc_18 (by decide) tf_902 wd_3137 cwX18_anew ⟨Nat.le_of_ble_eq_true rfl, Nat.le_of_ble_eq_true rfl⟩ rfl hl.1 (Nat.le_of_ble_eq_true rfl) dX19_system_98 rfl rfl ⟨Nat.zero_le _, Nat.zero_le _⟩ rfl (fun H locs hw => ?_)
      refine lv_aload_n C.1.1 C.1.2.1 dX19_system_101 rfl (lv_at hl 0 rfl) ?_
      refine lv_aload_n C.1.1 C.1.2.1 dX19_system_102 rfl (lv_at hl 0 rfl) ?_
      obtain ⟨r19, M17, L18, h1, hD⟩ := g_b3 hD
      refine md_cvI (As := []) (rest := [.ref (ad 732)]) C hw (tX19_read l G ad fu M15 L16 h1) kc_19 (by decide) tf_732 wd_3141 cwX19_read ⟨Nat.le_of_ble_eq_true rfl, Nat.le_of_ble_eq_true rfl⟩ rfl hl.1 (Nat.le_of_ble_eq_true rfl) dX19_system_103 rfl rfl ⟨Nat.zero_le _, Nat.zero_le _⟩ rfl (fun H locs hw => ?_)
      refine lv_if_eq (tgt := 127) C.1.1 C.1.2.1 dX19_system_106 (by decide) (fun c20 => ?_) (fun c20 => ?_)
      · replace hD := g_pos c20 hD
        exact hb127 M17 L18 _ _ ls hD hw (lv_sub hl [0] rfl)
      · replace hD := g_neg c20 hD
        refine lv_aload_n C.1.1 C.1.2.1 dX19_system_109 rfl (lv_at hl 0 rfl) ?_
        obtain ⟨r23, M21, L22, h1, hD⟩ := g_b3 hD
        refine md_cvI (As := []) (rest := [.ref (ad 732)]) C hw (tX19_join l G ad fu M17 L18 h1) kc_19 (by decide) tf_732 wd_3391 cwX19_join ⟨Nat.le_of_ble_eq_true rfl, Nat.le_of_ble_eq_true rfl⟩ rfl hl.1 (Nat.le_of_ble_eq_true rfl) dX19_system_110 rfl rfl ⟨Nat.zero_le _, Nat.zero_le _⟩ rfl (fun H locs hw => ?_)
        refine lv_if_eq (tgt := 127) C.1.1 C.1.2.1 dX19_system_113 (by decide) (fun c24 => ?_) (fun c24 => ?_)
        · replace hD := g_pos c24 hD
          exact hb127 M21 L22 _ _ ls hD hw (lv_sub hl [0] rfl)
        · replace hD := g_neg c24 hD
          refine lv_aload_n C.1.1 C.1.2.1 dX19_system_116 rfl (lv_at hl 0 rfl) ?_
          obtain ⟨r27, M25, L26, h1, hD⟩ := g_b3 hD
          refine md_cvI (As := []) (rest := [.ref (ad 732)]) C hw (tX19_build l G ad fu M21 L22 h1) kc_19 (by decide) tf_732 wd_3491 cwX19_build ⟨Nat.le_of_ble_eq_true rfl, Nat.le_of_ble_eq_true rfl⟩ rfl hl.1 (Nat.le_of_ble_eq_true rfl) dX19_system_117 rfl rfl ⟨Nat.zero_le _, Nat.zero_le _⟩ rfl (fun H locs hw => ?_)
          refine lv_if_eq (tgt := 127) C.1.1 C.1.2.1 dX19_system_120 (by decide) (fun c28 => ?_) (fun c28 => ?_)
          · replace hD := g_pos c28 hD
            exact hb127 M25 L26 _ _ ls hD hw (lv_sub hl [0] rfl)
          · replace hD := g_neg c28 hD
            refine lv_iconst (v := 1) C.1.1 C.1.2.1 dX19_system_123 (by decide) ?_
            refine lv_goto (tgt := 128) C.1.1 C.1.2.1 dX19_system_124 (by decide) ?_
            exact hb128 1 M25 L26 _ _ ls hD hw (lv_sub hl [0] rfl)
    · replace hD := g_neg c2 hD
      refine lv_iconst (v := 0) C.1.1 C.1.2.1 dX19_system_25 (by decide) ?_
      exact mr_iret C hr hlocks hw rfl (Option.some.inj hD) dX19_system_26
  unfold DX19_system at hD
  refine lv_aload_n C.1.1 C.1.2.1 dX19_system_0 rfl (lv_at hl 0 rfl) ?_
  refine lv_aload_n C.1.1 C.1.2.1 dX19_system_1 rfl (lv_at hl 0 rfl) ?_
  refine mr_getI C hw kc_19 3 (by decide) tf_732 wd_2784 dX19_system_2 (by decide) rfl ?_
  refine lv_bipush (v := 16) C.1.1 C.1.2.1 dX19_system_5 (by decide) ?_
  refine lv_icmp_ne (tgt := 14) C.1.1 C.1.2.1 dX19_system_7 (by decide) (fun c33 => ?_) (fun c33 => ?_)
  · replace hD := g_neg c33 hD
    refine lv_iconst (v := 0) C.1.1 C.1.2.1 dX19_system_14 (by decide) ?_
    exact hb15 0 M L _ _ ls hD hw (lv_sub hl [0] rfl)
  · replace hD := g_pos c33 hD
    refine lv_iconst (v := 1) C.1.1 C.1.2.1 dX19_system_10 (by decide) ?_
    refine lv_goto (tgt := 15) C.1.1 C.1.2.1 dX19_system_11 (by decide) ?_
    exact hb15 1 M L _ _ ls hD hw (lv_sub hl [0] rfl)

theorem dX19_put_0 : decode cX19_put 0 = .ok (.aload_n 0, 1) := by decide +kernel
theorem dX19_put_1 : decode cX19_put 1 = .ok (.getfield 184, 3) := by decide +kernel
theorem dX19_put_4 : decode cX19_put 4 = .ok (.iload_n 1, 1) := by decide +kernel
theorem dX19_put_5 : decode cX19_put 5 = .ok (.iload_n 2, 1) := by decide +kernel
theorem dX19_put_6 : decode cX19_put 6 = .ok (.iconst 0, 1) := by decide +kernel
theorem dX19_put_7 : decode cX19_put 7 = .ok (.bipush 8, 2) := by decide +kernel
theorem dX19_put_9 : decode cX19_put 9 = .ok (.invokevirtual 646, 3) := by decide +kernel
theorem dX19_put_12 : decode cX19_put 12 = .ok (.istore 4, 2) := by decide +kernel
theorem dX19_put_14 : decode cX19_put 14 = .ok (.aload_n 0, 1) := by decide +kernel
theorem dX19_put_15 : decode cX19_put 15 = .ok (.getfield 184, 3) := by decide +kernel
theorem dX19_put_18 : decode cX19_put 18 = .ok (.invokevirtual 649, 3) := by decide +kernel
theorem dX19_put_21 : decode cX19_put 21 = .ok (.ifCond .le 15, 3) := by decide +kernel
theorem dX19_put_24 : decode cX19_put 24 = .ok (.aload_n 0, 1) := by decide +kernel
theorem dX19_put_25 : decode cX19_put 25 = .ok (.getfield 273, 3) := by decide +kernel
theorem dX19_put_28 : decode cX19_put 28 = .ok (.iconst 0, 1) := by decide +kernel
theorem dX19_put_29 : decode cX19_put 29 = .ok (.dup2, 1) := by decide +kernel
theorem dX19_put_30 : decode cX19_put 30 = .ok (.iaload, 1) := by decide +kernel
theorem dX19_put_31 : decode cX19_put 31 = .ok (.iconst 1, 1) := by decide +kernel
theorem dX19_put_32 : decode cX19_put 32 = .ok (.iadd, 1) := by decide +kernel
theorem dX19_put_33 : decode cX19_put 33 = .ok (.iastore, 1) := by decide +kernel
theorem dX19_put_34 : decode cX19_put 34 = .ok (.iconst 0, 1) := by decide +kernel
theorem dX19_put_35 : decode cX19_put 35 = .ok (.ireturn, 1) := by decide +kernel
theorem dX19_put_36 : decode cX19_put 36 = .ok (.iconst 0, 1) := by decide +kernel
theorem dX19_put_37 : decode cX19_put 37 = .ok (.istore 5, 2) := by decide +kernel
theorem dX19_put_39 : decode cX19_put 39 = .ok (.iload 5, 2) := by decide +kernel
theorem dX19_put_41 : decode cX19_put 41 = .ok (.bipush 8, 2) := by decide +kernel
theorem dX19_put_43 : decode cX19_put 43 = .ok (.if_icmp .ge 27, 3) := by decide +kernel
theorem dX19_put_46 : decode cX19_put 46 = .ok (.aload_n 0, 1) := by decide +kernel
theorem dX19_put_47 : decode cX19_put 47 = .ok (.getfield 184, 3) := by decide +kernel
theorem dX19_put_50 : decode cX19_put 50 = .ok (.iload 4, 2) := by decide +kernel
theorem dX19_put_52 : decode cX19_put 52 = .ok (.iload 5, 2) := by decide +kernel
theorem dX19_put_54 : decode cX19_put 54 = .ok (.aload_n 0, 1) := by decide +kernel
theorem dX19_put_55 : decode cX19_put 55 = .ok (.getfield 230, 3) := by decide +kernel
theorem dX19_put_58 : decode cX19_put 58 = .ok (.iload 5, 2) := by decide +kernel
theorem dX19_put_60 : decode cX19_put 60 = .ok (.iaload, 1) := by decide +kernel
theorem dX19_put_61 : decode cX19_put 61 = .ok (.invokevirtual 652, 3) := by decide +kernel
theorem dX19_put_64 : decode cX19_put 64 = .ok (.iinc 5 1, 3) := by decide +kernel
theorem dX19_put_67 : decode cX19_put 67 = .ok (.goto (-28), 3) := by decide +kernel
theorem dX19_put_70 : decode cX19_put 70 = .ok (.iload_n 3, 1) := by decide +kernel
theorem dX19_put_71 : decode cX19_put 71 = .ok (.ifCond .le 33, 3) := by decide +kernel
theorem dX19_put_74 : decode cX19_put 74 = .ok (.aload_n 0, 1) := by decide +kernel
theorem dX19_put_75 : decode cX19_put 75 = .ok (.getfield 239, 3) := by decide +kernel
theorem dX19_put_78 : decode cX19_put 78 = .ok (.aload_n 0, 1) := by decide +kernel
theorem dX19_put_79 : decode cX19_put 79 = .ok (.getfield 606, 3) := by decide +kernel
theorem dX19_put_82 : decode cX19_put 82 = .ok (.iload_n 3, 1) := by decide +kernel
theorem dX19_put_83 : decode cX19_put 83 = .ok (.iastore, 1) := by decide +kernel
theorem dX19_put_84 : decode cX19_put 84 = .ok (.aload_n 0, 1) := by decide +kernel
theorem dX19_put_85 : decode cX19_put 85 = .ok (.getfield 242, 3) := by decide +kernel
theorem dX19_put_88 : decode cX19_put 88 = .ok (.aload_n 0, 1) := by decide +kernel
theorem dX19_put_89 : decode cX19_put 89 = .ok (.getfield 606, 3) := by decide +kernel
theorem dX19_put_92 : decode cX19_put 92 = .ok (.iload_n 2, 1) := by decide +kernel
theorem dX19_put_93 : decode cX19_put 93 = .ok (.iastore, 1) := by decide +kernel
theorem dX19_put_94 : decode cX19_put 94 = .ok (.aload_n 0, 1) := by decide +kernel
theorem dX19_put_95 : decode cX19_put 95 = .ok (.dup, 1) := by decide +kernel
theorem dX19_put_96 : decode cX19_put 96 = .ok (.getfield 606, 3) := by decide +kernel
theorem dX19_put_99 : decode cX19_put 99 = .ok (.iconst 1, 1) := by decide +kernel
theorem dX19_put_100 : decode cX19_put 100 = .ok (.iadd, 1) := by decide +kernel
theorem dX19_put_101 : decode cX19_put 101 = .ok (.putfield 606, 3) := by decide +kernel
theorem dX19_put_104 : decode cX19_put 104 = .ok (.iconst 1, 1) := by decide +kernel
theorem dX19_put_105 : decode cX19_put 105 = .ok (.ireturn, 1) := by decide +kernel
theorem cwX19_put : mw_cwV yX19_put cX19_put 6 ((some .boolean)) 3 := ⟨⟨wd_13, wd_3617, by decide +kernel⟩, wd_3616, sl_227⟩
noncomputable def fX19_put_b104 (fu : Nat) (a1 : Int32) (a2 : Int32) (a3 : Int32) (M : mwM) (L : mwL) : Option (Int32 × mwM × mwL) :=
  some (1, M, L)
noncomputable def fX19_put_i39 (fu : Nat) (a1 : Int32) (a2 : Int32) (a3 : Int32) (r39 : (Int32 × Int32 × mwM × mwL) → Option (Int32 × mwM × mwL)) (v4 : Int32) (v5 : Int32) (M : mwM) (L : mwL) : Option (Int32 × mwM × mwL) :=
  (if 8 ≤ v5 then (if a3 ≤ 0 then fX19_put_b104 fu a1 a2 a3 M L else mck (M 732 91) 6001 (mlet (mset M 929 ((M 732 91).toNatClampNeg) a3) (fun M4 => mck (M4 732 91) 6001 (mlet (mset M4 930 ((M4 732 91).toNatClampNeg) a2) (fun M6 => mlet (mset M6 732 91 ((M6 732 91) + 1)) (fun M7 => fX19_put_b104 fu a1 a2 a3 M7 L)))))) else mck v5 8 (mb2 (DX12_octet fu v4 v5 (M 926 v5.toNatClampNeg) M L) (fun M9 L10 => mlet (v5 + 1) (fun x11 => r39 (v4, x11, M9, L10)))))
noncomputable def fX19_put_h39 (fu : Nat) (a1 : Int32) (a2 : Int32) (a3 : Int32) : Nat → (Int32 × Int32 × mwM × mwL) → Option (Int32 × mwM × mwL) := mloop (fun r39 s => fX19_put_i39 fu a1 a2 a3 r39 s.1 s.2.1 s.2.2.1 s.2.2.2)
noncomputable def DX19_put (fu : Nat) (a1 : Int32) (a2 : Int32) (a3 : Int32) (M : mwM) (L : mwL) : Option (Int32 × mwM × mwL) :=
  mb3 (DX12_send fu a1 a2 0 8 M L) (fun r14 M12 L13 => mb3 (DX12_thrown fu M12 L13) (fun r17 M15 L16 => (if r17 ≤ 0 then fX19_put_h39 fu a1 a2 a3 fu (r14, 0, M15, L16) else mlet (mset M15 939 ((0 : Int32).toNatClampNeg) ((M15 939 (0 : Int32).toNatClampNeg) + 1)) (fun M21 => some (0, M21, L16)))))
set_option maxHeartbeats 4000000 in
set_option maxRecDepth 100000 in
theorem tX19_put (l : Launch) (G : mwG) (ad : Nat → Nat) (fu : Nat) (a1 : Int32) (a2 : Int32) (a3 : Int32) (M : mwM) (L : mwL) {r0 : Int32} {M0 : mwM} {L0 : mwL} (hD : DX19_put fu a1 a2 a3 M L = some (r0, M0, L0)) : Met l yX19_put (Cond.code yX19_put cX19_put 6 ((some .boolean)) :: GT) ({ frames := 2, cells := 0, slots := 0, locals := 47 }) (mw_Pre G ad NF TF FF M L [.ref (ad 732), .int a1, .int a2, .int a3]) (mw_Qi G ad NF TF FF (mw_eqI r0 M0 L0)) 0 0 (mw_fr G) := by
  refine mw_enter (by decide) (Nat.le_of_ble_eq_true rfl) ?_
  intro p e s m below meth c ls C hr hlocks hnm hw hl
  have hl : lv_has ls 6 [(0, .ref (ad 732)), (1, .int a1), (2, .int a2), (3, .int a3)] := hl
  have hb104 : ∀ (M : mwM) (L : mwL) (H : Heap) (locs : List Loc) (ls : Array Slot), fX19_put_b104 fu a1 a2 a3 M L = some (r0, M0, L0) → mw_W G ad NF TF FF M L H locs → lv_has ls 6 [] → W p l e ({ frames := 2, cells := 0, slots := 0, locals := 47 }) s m [.ref (ad 732), .int a1, .int a2, .int a3].toArray below meth c H locs 0 0 (MQ below (mw_Qi G ad NF TF FF (mw_eqI r0 M0 L0)) [.ref (ad 732), .int a1, .int a2, .int a3].toArray s 0 0 (mw_fr G)) (F0 m 104 ls []) := by
    intro M L H locs ls hD hw hl
    unfold fX19_put_b104 at hD
    refine lv_iconst (v := 1) C.1.1 C.1.2.1 dX19_put_104 (by decide) ?_
    exact mr_iret C hr hlocks hw (by decide +kernel) (Option.some.inj hD) dX19_put_105
  have hh39 : ∀ (f : Nat) (v4 : Int32) (v5 : Int32) (M : mwM) (L : mwL) (H : Heap) (locs : List Loc) (ls : Array Slot), fX19_put_h39 fu a1 a2 a3 f (v4, v5, M, L) = some (r0, M0, L0) → mw_W G ad NF TF FF M L H locs → lv_has ls 6 [(0, .ref (ad 732)), (2, .int a2), (3, .int a3), (4, .int v4), (5, .int v5)] → W p l e ({ frames := 2, cells := 0, slots := 0, locals := 47 }) s m [.ref (ad 732), .int a1, .int a2, .int a3].toArray below meth c H locs 0 0 (MQ below (mw_Qi G ad NF TF FF (mw_eqI r0 M0 L0)) [.ref (ad 732), .int a1, .int a2, .int a3].toArray s 0 0 (mw_fr G)) (F0 m 39 ls []) := by
    intro f
    induction f with
    | zero => intro v4 v5 M L H locs ls hD; cases hD
    | succ f39 ih39 =>
      intro v4 v5 M L H locs ls hD hw hl
      replace hD : fX19_put_i39 fu a1 a2 a3 (fX19_put_h39 fu a1 a2 a3 f39) v4 v5 M L = some (r0, M0, L0) := hD
      unfold fX19_put_i39 at hD
      refine lv_iload C.1.1 C.1.2.1 dX19_put_39 (lv_at hl 4 rfl) ?_
      refine lv_bipush (v := 8) C.1.1 C.1.2.1 dX19_put_41 (by decide) ?_
      refine lv_icmp_ge (tgt := 70) C.1.1 C.1.2.1 dX19_put_43 (by decide) (fun c1 => ?_) (fun c1 => ?_)
      · replace hD := g_pos c1 hD
        refine lv_iload_n C.1.1 C.1.2.1 dX19_put_70 rfl (lv_at hl 2 rfl) ?_
        refine lv_if_le (tgt := 104) C.1.1 C.1.2.1 dX19_put_71 (by decide) (fun c2 => ?_) (fun c2 => ?_)
        · replace hD := g_pos c2 hD
          exact hb104 M L _ _ ls hD hw (lv_sub hl [] rfl)
        · replace hD := g_neg c2 hD
          refine lv_aload_n C.1.1 C.1.2.1 dX19_put_74 rfl (lv_at hl 0 rfl) ?_
          refine mr_getR C hw kc_19 92 (by decide) tf_732 ff_732_92 wd_2873 dX19_put_75 (by decide) rfl ?_
          refine lv_aload_n C.1.1 C.1.2.1 dX19_put_78 rfl (lv_at hl 0 rfl) ?_
          refine mr_getI C hw kc_19 91 (by decide) tf_732 wd_2872 dX19_put_79 (by decide) rfl ?_
          refine lv_iload_n C.1.1 C.1.2.1 dX19_put_82 rfl (lv_at hl 2 rfl) ?_
          obtain ⟨q3, hD⟩ := g_ck hD
          obtain ⟨M4, eM4, hD⟩ := g_let hD
          refine mr_iast C hw (by decide) tf_929 q3 dX19_put_83 (fun H locs hw => ?_)
          replace hw : mw_W G ad NF TF FF M4 L H locs := by rw [eM4]; exact hw
          refine lv_aload_n C.1.1 C.1.2.1 dX19_put_84 rfl (lv_at hl 0 rfl) ?_
          refine mr_getR C hw kc_19 93 (by decide) tf_732 ff_732_93 wd_2874 dX19_put_85 (by decide) rfl ?_
          refine lv_aload_n C.1.1 C.1.2.1 dX19_put_88 rfl (lv_at hl 0 rfl) ?_
          refine mr_getI C hw kc_19 91 (by decide) tf_732 wd_2872 dX19_put_89 (by decide) rfl ?_
          refine lv_iload_n C.1.1 C.1.2.1 dX19_put_92 rfl (lv_at hl 1 rfl) ?_
          obtain ⟨q5, hD⟩ := g_ck hD
          obtain ⟨M6, eM6, hD⟩ := g_let hD
          refine mr_iast C hw (by decide) tf_930 q5 dX19_put_93 (fun H locs hw => ?_)
          replace hw : mw_W G ad NF TF FF M6 L H locs := by rw [eM6]; exact hw
          refine lv_aload_n C.1.1 C.1.2.1 dX19_put_94 rfl (lv_at hl 0 rfl) ?_
          refine lv_dup C.1.1 C.1.2.1 dX19_put_95 rfl ?_
          refine mr_getI C hw kc_19 91 (by decide) tf_732 wd_2872 dX19_put_96 (by decide) rfl ?_
          refine lv_iconst (v := 1) C.1.1 C.1.2.1 dX19_put_99 (by decide) ?_
          refine lv_iadd C.1.1 C.1.2.1 dX19_put_100 ?_
          obtain ⟨M7, eM7, hD⟩ := g_let hD
          refine mr_putI C hw kc_19 91 (by decide) tf_732 wd_2872 dX19_put_101 (by decide) rfl rfl rfl rfl (fun H locs hw => ?_)
          replace hw : mw_W G ad NF TF FF M7 L H locs := by rw [eM7]; exact hw
          exact hb104 M7 L _ _ ls hD hw (lv_sub hl [] rfl)
      · replace hD := g_neg c1 hD
        refine lv_aload_n C.1.1 C.1.2.1 dX19_put_46 rfl (lv_at hl 0 rfl) ?_
        refine mr_getR C hw kc_19 77 (by decide) tf_732 ff_732_77 wd_2858 dX19_put_47 (by decide) rfl ?_
        refine lv_iload C.1.1 C.1.2.1 dX19_put_50 (lv_at hl 3 rfl) ?_
        refine lv_iload C.1.1 C.1.2.1 dX19_put_52 (lv_at hl 4 rfl) ?_
        refine lv_aload_n C.1.1 C.1.2.1 dX19_put_54 rfl (lv_at hl 0 rfl) ?_
        refine mr_getR C hw kc_19 87 (by decide) tf_732 ff_732_87 wd_2868 dX19_put_55 (by decide) rfl ?_
        refine lv_iload C.1.1 C.1.2.1 dX19_put_58 (lv_at hl 4 rfl) ?_
        obtain ⟨q8, hD⟩ := g_ck hD
        refine mr_iald C hw (by decide) tf_926 q8 dX19_put_60 ?_
        obtain ⟨M9, L10, h1, hD⟩ := g_b2 hD
        refine md_cvV (As := [.int v4, .int v5, .int (M 926 v5.toNatClampNeg)]) (rest := []) C hw (tX12_octet l G ad fu v4 v5 (M 926 v5.toNatClampNeg) M L h1) kc_12 (by decide) tf_821 wd_3631 cwX12_octet ⟨Nat.le_of_ble_eq_true rfl, Nat.le_of_ble_eq_true rfl⟩ rfl hl.1 (Nat.le_of_ble_eq_true rfl) dX19_put_61 rfl rfl ⟨Nat.zero_le _, Nat.zero_le _⟩ rfl (fun H locs hw => ?_)
        obtain ⟨x11, ex11, hD⟩ := g_let hD
        refine lv_iinc (v := x11) (lv' := [(5, .int x11), (0, .ref (ad 732)), (2, .int a2), (3, .int a3), (4, .int v4)]) C.1.1 C.1.2.1 dX19_put_64 hl (k := 4) rfl (by rw [ex11]; rfl) (by decide) rfl (fun ls hl => ?_)
        refine lv_goto (tgt := 39) C.1.1 C.1.2.1 dX19_put_67 (by decide) ?_
        exact ih39 v4 x11 M9 L10 _ _ ls hD hw (lv_sub hl [1, 2, 3, 4, 0] rfl)
  unfold DX19_put at hD
  refine lv_aload_n C.1.1 C.1.2.1 dX19_put_0 rfl (lv_at hl 0 rfl) ?_
  refine mr_getR C hw kc_19 77 (by decide) tf_732 ff_732_77 wd_2858 dX19_put_1 (by decide) rfl ?_
  refine lv_iload_n C.1.1 C.1.2.1 dX19_put_4 rfl (lv_at hl 1 rfl) ?_
  refine lv_iload_n C.1.1 C.1.2.1 dX19_put_5 rfl (lv_at hl 2 rfl) ?_
  refine lv_iconst (v := 0) C.1.1 C.1.2.1 dX19_put_6 (by decide) ?_
  refine lv_bipush (v := 8) C.1.1 C.1.2.1 dX19_put_7 (by decide) ?_
  obtain ⟨r14, M12, L13, h1, hD⟩ := g_b3 hD
  refine md_cvI (As := [.int a1, .int a2, .int 0, .int 8]) (rest := []) C hw (tX12_send l G ad fu a1 a2 0 8 M L h1) kc_12 (by decide) tf_821 wd_3618 cwX12_send ⟨Nat.le_of_ble_eq_true rfl, Nat.le_of_ble_eq_true rfl⟩ rfl hl.1 (Nat.le_of_ble_eq_true rfl) dX19_put_9 rfl rfl ⟨Nat.zero_le _, Nat.zero_le _⟩ rfl (fun H locs hw => ?_)
  refine lv_istore (lv' := [(4, .int r14), (0, .ref (ad 732)), (1, .int a1), (2, .int a2), (3, .int a3)]) C.1.1 C.1.2.1 dX19_put_12 hl (by decide) rfl (fun ls hl => ?_)
  refine lv_aload_n C.1.1 C.1.2.1 dX19_put_14 rfl (lv_at hl 1 rfl) ?_
  refine mr_getR C hw kc_19 77 (by decide) tf_732 ff_732_77 wd_2858 dX19_put_15 (by decide) rfl ?_
  obtain ⟨r17, M15, L16, h1, hD⟩ := g_b3 hD
  refine md_cvI (As := []) (rest := []) C hw (tX12_thrown l G ad fu M12 L13 h1) kc_12 (by decide) tf_821 wd_3627 cwX12_thrown ⟨Nat.le_of_ble_eq_true rfl, Nat.le_of_ble_eq_true rfl⟩ rfl hl.1 (Nat.le_of_ble_eq_true rfl) dX19_put_18 rfl rfl ⟨Nat.zero_le _, Nat.zero_le _⟩ rfl (fun H locs hw => ?_)
  refine lv_if_le (tgt := 36) C.1.1 C.1.2.1 dX19_put_21 (by decide) (fun c18 => ?_) (fun c18 => ?_)
  · replace hD := g_pos c18 hD
    refine lv_iconst (v := 0) C.1.1 C.1.2.1 dX19_put_36 (by decide) ?_
    refine lv_istore (lv' := [(5, .int 0), (4, .int r14), (0, .ref (ad 732)), (1, .int a1), (2, .int a2), (3, .int a3)]) C.1.1 C.1.2.1 dX19_put_37 hl (by decide) rfl (fun ls hl => ?_)
    exact hh39 fu r14 0 M15 L16 _ _ ls hD hw (lv_sub hl [2, 4, 5, 1, 0] rfl)
  · replace hD := g_neg c18 hD
    refine lv_aload_n C.1.1 C.1.2.1 dX19_put_24 rfl (lv_at hl 1 rfl) ?_
    refine mr_getR C hw kc_19 109 (by decide) tf_732 ff_732_109 wd_2890 dX19_put_25 (by decide) rfl ?_
    refine lv_iconst (v := 0) C.1.1 C.1.2.1 dX19_put_28 (by decide) ?_
    refine lv_dup2_11 C.1.1 C.1.2.1 dX19_put_29 rfl rfl ?_
    refine mr_iald C hw (by decide) tf_939 (show vp_in 0 5 from by unfold vp_in; decide) dX19_put_30 ?_
    refine lv_iconst (v := 1) C.1.1 C.1.2.1 dX19_put_31 (by decide) ?_
    refine lv_iadd C.1.1 C.1.2.1 dX19_put_32 ?_
    obtain ⟨M21, eM21, hD⟩ := g_let hD
    refine mr_iast C hw (by decide) tf_939 (show vp_in 0 5 from by unfold vp_in; decide) dX19_put_33 (fun H locs hw => ?_)
    replace hw : mw_W G ad NF TF FF M21 L16 H locs := by rw [eM21]; exact hw
    refine lv_iconst (v := 0) C.1.1 C.1.2.1 dX19_put_34 (by decide) ?_
    exact mr_iret C hr hlocks hw (by decide +kernel) (Option.some.inj hD) dX19_put_35

theorem dX19_codeOf_0 : decode cX19_codeOf 0 = .ok (.aload_n 0, 1) := by decide +kernel
theorem dX19_codeOf_1 : decode cX19_codeOf 1 = .ok (.getfield 191, 3) := by decide +kernel
theorem dX19_codeOf_4 : decode cX19_codeOf 4 = .ok (.aload_n 0, 1) := by decide +kernel
theorem dX19_codeOf_5 : decode cX19_codeOf 5 = .ok (.getfield 165, 3) := by decide +kernel
theorem dX19_codeOf_8 : decode cX19_codeOf 8 = .ok (.iload_n 1, 1) := by decide +kernel
theorem dX19_codeOf_9 : decode cX19_codeOf 9 = .ok (.iaload, 1) := by decide +kernel
theorem dX19_codeOf_10 : decode cX19_codeOf 10 = .ok (.i2b, 1) := by decide +kernel
theorem dX19_codeOf_11 : decode cX19_codeOf 11 = .ok (.invokevirtual 656, 3) := by decide +kernel
theorem dX19_codeOf_14 : decode cX19_codeOf 14 = .ok (.iconst 0, 1) := by decide +kernel
theorem dX19_codeOf_15 : decode cX19_codeOf 15 = .ok (.istore 4, 2) := by decide +kernel
theorem dX19_codeOf_17 : decode cX19_codeOf 17 = .ok (.iload 4, 2) := by decide +kernel
theorem dX19_codeOf_19 : decode cX19_codeOf 19 = .ok (.bipush 8, 2) := by decide +kernel
theorem dX19_codeOf_21 : decode cX19_codeOf 21 = .ok (.if_icmp .ge 28, 3) := by decide +kernel
theorem dX19_codeOf_24 : decode cX19_codeOf 24 = .ok (.aload_n 0, 1) := by decide +kernel
theorem dX19_codeOf_25 : decode cX19_codeOf 25 = .ok (.getfield 191, 3) := by decide +kernel
theorem dX19_codeOf_28 : decode cX19_codeOf 28 = .ok (.lload_n 2, 1) := by decide +kernel
theorem dX19_codeOf_29 : decode cX19_codeOf 29 = .ok (.bipush 56, 2) := by decide +kernel
theorem dX19_codeOf_31 : decode cX19_codeOf 31 = .ok (.bipush 8, 2) := by decide +kernel
theorem dX19_codeOf_33 : decode cX19_codeOf 33 = .ok (.iload 4, 2) := by decide +kernel
theorem dX19_codeOf_35 : decode cX19_codeOf 35 = .ok (.imul, 1) := by decide +kernel
theorem dX19_codeOf_36 : decode cX19_codeOf 36 = .ok (.isub, 1) := by decide +kernel
theorem dX19_codeOf_37 : decode cX19_codeOf 37 = .ok (.lshr, 1) := by decide +kernel
theorem dX19_codeOf_38 : decode cX19_codeOf 38 = .ok (.l2i, 1) := by decide +kernel
theorem dX19_codeOf_39 : decode cX19_codeOf 39 = .ok (.i2b, 1) := by decide +kernel
theorem dX19_codeOf_40 : decode cX19_codeOf 40 = .ok (.invokevirtual 656, 3) := by decide +kernel
theorem dX19_codeOf_43 : decode cX19_codeOf 43 = .ok (.iinc 4 1, 3) := by decide +kernel
theorem dX19_codeOf_46 : decode cX19_codeOf 46 = .ok (.goto (-29), 3) := by decide +kernel
theorem dX19_codeOf_49 : decode cX19_codeOf 49 = .ok (.iconst 0, 1) := by decide +kernel
theorem dX19_codeOf_50 : decode cX19_codeOf 50 = .ok (.istore 4, 2) := by decide +kernel
theorem dX19_codeOf_52 : decode cX19_codeOf 52 = .ok (.iload 4, 2) := by decide +kernel
theorem dX19_codeOf_54 : decode cX19_codeOf 54 = .ok (.iconst 3, 1) := by decide +kernel
theorem dX19_codeOf_55 : decode cX19_codeOf 55 = .ok (.if_icmp .ge 24, 3) := by decide +kernel
theorem dX19_codeOf_58 : decode cX19_codeOf 58 = .ok (.aload_n 0, 1) := by decide +kernel
theorem dX19_codeOf_59 : decode cX19_codeOf 59 = .ok (.getfield 191, 3) := by decide +kernel
theorem dX19_codeOf_62 : decode cX19_codeOf 62 = .ok (.aload_n 0, 1) := by decide +kernel
theorem dX19_codeOf_63 : decode cX19_codeOf 63 = .ok (.getfield 230, 3) := by decide +kernel
theorem dX19_codeOf_66 : decode cX19_codeOf 66 = .ok (.iload 4, 2) := by decide +kernel
theorem dX19_codeOf_68 : decode cX19_codeOf 68 = .ok (.iaload, 1) := by decide +kernel
theorem dX19_codeOf_69 : decode cX19_codeOf 69 = .ok (.i2b, 1) := by decide +kernel
theorem dX19_codeOf_70 : decode cX19_codeOf 70 = .ok (.invokevirtual 656, 3) := by decide +kernel
theorem dX19_codeOf_73 : decode cX19_codeOf 73 = .ok (.iinc 4 1, 3) := by decide +kernel
theorem dX19_codeOf_76 : decode cX19_codeOf 76 = .ok (.goto (-24), 3) := by decide +kernel
theorem dX19_codeOf_79 : decode cX19_codeOf 79 = .ok (.aload_n 0, 1) := by decide +kernel
theorem dX19_codeOf_80 : decode cX19_codeOf 80 = .ok (.getfield 191, 3) := by decide +kernel
theorem dX19_codeOf_83 : decode cX19_codeOf 83 = .ok (.aload_n 0, 1) := by decide +kernel
theorem dX19_codeOf_84 : decode cX19_codeOf 84 = .ok (.getfield 162, 3) := by decide +kernel
theorem dX19_codeOf_87 : decode cX19_codeOf 87 = .ok (.iload_n 1, 1) := by decide +kernel
theorem dX19_codeOf_88 : decode cX19_codeOf 88 = .ok (.iaload, 1) := by decide +kernel
theorem dX19_codeOf_89 : decode cX19_codeOf 89 = .ok (.bipush 32, 2) := by decide +kernel
theorem dX19_codeOf_91 : decode cX19_codeOf 91 = .ok (.invokevirtual 659, 3) := by decide +kernel
theorem dX19_codeOf_94 : decode cX19_codeOf 94 = .ok (.istore 4, 2) := by decide +kernel
theorem dX19_codeOf_96 : decode cX19_codeOf 96 = .ok (.return_, 1) := by decide +kernel
theorem cwX19_codeOf : mw_cwV yX19_codeOf cX19_codeOf 5 (none) 2 := ⟨⟨wd_13, wd_3577, by decide +kernel⟩, wd_3576, sl_220⟩
noncomputable def fX19_codeOf_i52 (fu : Nat) (a1 : Int32) (a2 : Int64) (r52 : (Int32 × mwM × mwL) → Option (mwM × mwL)) (v4 : Int32) (M : mwM) (L : mwL) : Option (mwM × mwL) :=
  (if 3 ≤ v4 then mck a1 40 (mb3 (DX14_code fu (M 783 a1.toNatClampNeg) 32 M L) (fun r9 M7 L8 => some (M7, L8))) else mck v4 8 (mb2 (DX14_octet fu ((M 926 v4.toNatClampNeg).toInt8.toInt32) M L) (fun M11 L12 => mlet (v4 + 1) (fun x13 => r52 (x13, M11, L12)))))
noncomputable def fX19_codeOf_h52 (fu : Nat) (a1 : Int32) (a2 : Int64) : Nat → (Int32 × mwM × mwL) → Option (mwM × mwL) := mloop (fun r52 s => fX19_codeOf_i52 fu a1 a2 r52 s.1 s.2.1 s.2.2)
noncomputable def fX19_codeOf_i17 (fu : Nat) (a1 : Int32) (a2 : Int64) (r17 : (Int32 × mwM × mwL) → Option (mwM × mwL)) (v4 : Int32) (M : mwM) (L : mwL) : Option (mwM × mwL) :=
  (if 8 ≤ v4 then fX19_codeOf_h52 fu a1 a2 fu (0, M, L) else mb2 (DX14_octet fu (((a2 >>> ((56 - (8 * v4)).toInt64 &&& 63)).toInt32).toInt8.toInt32) M L) (fun M2 L3 => mlet (v4 + 1) (fun x4 => r17 (x4, M2, L3))))
noncomputable def fX19_codeOf_h17 (fu : Nat) (a1 : Int32) (a2 : Int64) : Nat → (Int32 × mwM × mwL) → Option (mwM × mwL) := mloop (fun r17 s => fX19_codeOf_i17 fu a1 a2 r17 s.1 s.2.1 s.2.2)
noncomputable def DX19_codeOf (fu : Nat) (a1 : Int32) (a2 : Int64) (M : mwM) (L : mwL) : Option (mwM × mwL) :=
  mck a1 40 (mb2 (DX14_octet fu ((M 784 a1.toNatClampNeg).toInt8.toInt32) M L) (fun M15 L16 => fX19_codeOf_h17 fu a1 a2 fu (0, M15, L16)))
set_option maxHeartbeats 4000000 in
set_option maxRecDepth 100000 in
theorem tX19_codeOf (l : Launch) (G : mwG) (ad : Nat → Nat) (fu : Nat) (a1 : Int32) (a2 : Int64) (M : mwM) (L : mwL) {M0 : mwM} {L0 : mwL} (hD : DX19_codeOf fu a1 a2 M L = some (M0, L0)) : Met l yX19_codeOf (Cond.code yX19_codeOf cX19_codeOf 5 (none) :: GT) ({ frames := 5, cells := 0, slots := 0, locals := 126 }) (mw_Pre G ad NF TF FF M L [.ref (ad 732), .int a1, .long a2]) (mw_Qv G ad NF TF FF (mw_eqV M0 L0)) 0 0 (mw_fr G) := by
  refine mw_enter (by decide) (Nat.le_of_ble_eq_true rfl) ?_
  intro p e s m below meth c ls C hr hlocks hnm hw hl
  have hl : lv_has ls 5 [(0, .ref (ad 732)), (1, .int a1), (2, .long a2)] := hl
  have hh52 : ∀ (f : Nat) (v4 : Int32) (M : mwM) (L : mwL) (H : Heap) (locs : List Loc) (ls : Array Slot), fX19_codeOf_h52 fu a1 a2 f (v4, M, L) = some (M0, L0) → mw_W G ad NF TF FF M L H locs → lv_has ls 5 [(0, .ref (ad 732)), (1, .int a1), (4, .int v4)] → W p l e ({ frames := 5, cells := 0, slots := 0, locals := 126 }) s m [.ref (ad 732), .int a1, .long a2].toArray below meth c H locs 0 0 (MQ below (mw_Qv G ad NF TF FF (mw_eqV M0 L0)) [.ref (ad 732), .int a1, .long a2].toArray s 0 0 (mw_fr G)) (F0 m 52 ls []) := by
    intro f
    induction f with
    | zero => intro v4 M L H locs ls hD; cases hD
    | succ f52 ih52 =>
      intro v4 M L H locs ls hD hw hl
      replace hD : fX19_codeOf_i52 fu a1 a2 (fX19_codeOf_h52 fu a1 a2 f52) v4 M L = some (M0, L0) := hD
      unfold fX19_codeOf_i52 at hD
      refine lv_iload C.1.1 C.1.2.1 dX19_codeOf_52 (lv_at hl 2 rfl) ?_
      refine lv_iconst (v := 3) C.1.1 C.1.2.1 dX19_codeOf_54 (by decide) ?_
      refine lv_icmp_ge (tgt := 79) C.1.1 C.1.2.1 dX19_codeOf_55 (by decide) (fun c5 => ?_) (fun c5 => ?_)
      · replace hD := g_pos c5 hD
        refine lv_aload_n C.1.1 C.1.2.1 dX19_codeOf_79 rfl (lv_at hl 0 rfl) ?_
        refine mr_getR C hw kc_19 78 (by decide) tf_732 ff_732_78 wd_2859 dX19_codeOf_80 (by decide) rfl ?_
        refine lv_aload_n C.1.1 C.1.2.1 dX19_codeOf_83 rfl (lv_at hl 0 rfl) ?_
        refine mr_getR C hw kc_19 72 (by decide) tf_732 ff_732_72 wd_2853 dX19_codeOf_84 (by decide) rfl ?_
        refine lv_iload_n C.1.1 C.1.2.1 dX19_codeOf_87 rfl (lv_at hl 1 rfl) ?_
        obtain ⟨q6, hD⟩ := g_ck hD
        refine mr_iald C hw (by decide) tf_783 q6 dX19_codeOf_88 ?_
        refine lv_bipush (v := 32) C.1.1 C.1.2.1 dX19_codeOf_89 (by decide) ?_
        obtain ⟨r9, M7, L8, h1, hD⟩ := g_b3 hD
        refine md_cvI (As := [.int (M 783 a1.toNatClampNeg), .int 32]) (rest := []) C hw (tX14_code l G ad fu (M 783 a1.toNatClampNeg) 32 M L h1) kc_14 (by decide) tf_854 wd_3582 cwX14_code ⟨Nat.le_of_ble_eq_true rfl, Nat.le_of_ble_eq_true rfl⟩ rfl hl.1 (Nat.le_of_ble_eq_true rfl) dX19_codeOf_91 rfl rfl ⟨Nat.zero_le _, Nat.zero_le _⟩ rfl (fun H locs hw => ?_)
        refine lv_istore (lv' := [(4, .int r9), (0, .ref (ad 732)), (1, .int a1)]) C.1.1 C.1.2.1 dX19_codeOf_94 hl (by decide) rfl (fun ls hl => ?_)
        exact mr_vret C hr hlocks hw (Option.some.inj hD) dX19_codeOf_96
      · replace hD := g_neg c5 hD
        refine lv_aload_n C.1.1 C.1.2.1 dX19_codeOf_58 rfl (lv_at hl 0 rfl) ?_
        refine mr_getR C hw kc_19 78 (by decide) tf_732 ff_732_78 wd_2859 dX19_codeOf_59 (by decide) rfl ?_
        refine lv_aload_n C.1.1 C.1.2.1 dX19_codeOf_62 rfl (lv_at hl 0 rfl) ?_
        refine mr_getR C hw kc_19 87 (by decide) tf_732 ff_732_87 wd_2868 dX19_codeOf_63 (by decide) rfl ?_
        refine lv_iload C.1.1 C.1.2.1 dX19_codeOf_66 (lv_at hl 2 rfl) ?_
        obtain ⟨q10, hD⟩ := g_ck hD
        refine mr_iald C hw (by decide) tf_926 q10 dX19_codeOf_68 ?_
        refine lv_i2b C.1.1 C.1.2.1 dX19_codeOf_69 rfl ?_
        obtain ⟨M11, L12, h1, hD⟩ := g_b2 hD
        refine md_cvV (As := [.int ((M 926 v4.toNatClampNeg).toInt8.toInt32)]) (rest := []) C hw (tX14_octet l G ad fu ((M 926 v4.toNatClampNeg).toInt8.toInt32) M L h1) kc_14 (by decide) tf_854 wd_3578 cwX14_octet ⟨Nat.le_of_ble_eq_true rfl, Nat.le_of_ble_eq_true rfl⟩ rfl hl.1 (Nat.le_of_ble_eq_true rfl) dX19_codeOf_70 rfl rfl ⟨Nat.zero_le _, Nat.zero_le _⟩ rfl (fun H locs hw => ?_)
        obtain ⟨x13, ex13, hD⟩ := g_let hD
        refine lv_iinc (v := x13) (lv' := [(4, .int x13), (0, .ref (ad 732)), (1, .int a1)]) C.1.1 C.1.2.1 dX19_codeOf_73 hl (k := 2) rfl (by rw [ex13]; rfl) (by decide) rfl (fun ls hl => ?_)
        refine lv_goto (tgt := 52) C.1.1 C.1.2.1 dX19_codeOf_76 (by decide) ?_
        exact ih52 x13 M11 L12 _ _ ls hD hw (lv_sub hl [1, 2, 0] rfl)
  have hh17 : ∀ (f : Nat) (v4 : Int32) (M : mwM) (L : mwL) (H : Heap) (locs : List Loc) (ls : Array Slot), fX19_codeOf_h17 fu a1 a2 f (v4, M, L) = some (M0, L0) → mw_W G ad NF TF FF M L H locs → lv_has ls 5 [(0, .ref (ad 732)), (1, .int a1), (2, .long a2), (4, .int v4)] → W p l e ({ frames := 5, cells := 0, slots := 0, locals := 126 }) s m [.ref (ad 732), .int a1, .long a2].toArray below meth c H locs 0 0 (MQ below (mw_Qv G ad NF TF FF (mw_eqV M0 L0)) [.ref (ad 732), .int a1, .long a2].toArray s 0 0 (mw_fr G)) (F0 m 17 ls []) := by
    intro f
    induction f with
    | zero => intro v4 M L H locs ls hD; cases hD
    | succ f17 ih17 =>
      intro v4 M L H locs ls hD hw hl
      replace hD : fX19_codeOf_i17 fu a1 a2 (fX19_codeOf_h17 fu a1 a2 f17) v4 M L = some (M0, L0) := hD
      unfold fX19_codeOf_i17 at hD
      refine lv_iload C.1.1 C.1.2.1 dX19_codeOf_17 (lv_at hl 3 rfl) ?_
      refine lv_bipush (v := 8) C.1.1 C.1.2.1 dX19_codeOf_19 (by decide) ?_
      refine lv_icmp_ge (tgt := 49) C.1.1 C.1.2.1 dX19_codeOf_21 (by decide) (fun c1 => ?_) (fun c1 => ?_)
      · replace hD := g_pos c1 hD
        refine lv_iconst (v := 0) C.1.1 C.1.2.1 dX19_codeOf_49 (by decide) ?_
        refine lv_istore (lv' := [(4, .int 0), (0, .ref (ad 732)), (1, .int a1), (2, .long a2)]) C.1.1 C.1.2.1 dX19_codeOf_50 hl (by decide) rfl (fun ls hl => ?_)
        exact hh52 fu 0 M L _ _ ls hD hw (lv_sub hl [1, 2, 0] rfl)
      · replace hD := g_neg c1 hD
        refine lv_aload_n C.1.1 C.1.2.1 dX19_codeOf_24 rfl (lv_at hl 0 rfl) ?_
        refine mr_getR C hw kc_19 78 (by decide) tf_732 ff_732_78 wd_2859 dX19_codeOf_25 (by decide) rfl ?_
        refine lv_lload_n C.1.1 C.1.2.1 dX19_codeOf_28 rfl (lv_at hl 2 rfl) ?_
        refine lv_bipush (v := 56) C.1.1 C.1.2.1 dX19_codeOf_29 (by decide) ?_
        refine lv_bipush (v := 8) C.1.1 C.1.2.1 dX19_codeOf_31 (by decide) ?_
        refine lv_iload C.1.1 C.1.2.1 dX19_codeOf_33 (lv_at hl 3 rfl) ?_
        refine lv_imul C.1.1 C.1.2.1 dX19_codeOf_35 ?_
        refine lv_isub C.1.1 C.1.2.1 dX19_codeOf_36 ?_
        refine lv_lshr C.1.1 C.1.2.1 dX19_codeOf_37 rfl ?_
        refine lv_l2i C.1.1 C.1.2.1 dX19_codeOf_38 rfl ?_
        refine lv_i2b C.1.1 C.1.2.1 dX19_codeOf_39 rfl ?_
        obtain ⟨M2, L3, h1, hD⟩ := g_b2 hD
        refine md_cvV (As := [.int (((a2 >>> ((56 - (8 * v4)).toInt64 &&& 63)).toInt32).toInt8.toInt32)]) (rest := []) C hw (tX14_octet l G ad fu (((a2 >>> ((56 - (8 * v4)).toInt64 &&& 63)).toInt32).toInt8.toInt32) M L h1) kc_14 (by decide) tf_854 wd_3578 cwX14_octet ⟨Nat.le_of_ble_eq_true rfl, Nat.le_of_ble_eq_true rfl⟩ rfl hl.1 (Nat.le_of_ble_eq_true rfl) dX19_codeOf_40 rfl rfl ⟨Nat.zero_le _, Nat.zero_le _⟩ rfl (fun H locs hw => ?_)
        obtain ⟨x4, ex4, hD⟩ := g_let hD
        refine lv_iinc (v := x4) (lv' := [(4, .int x4), (0, .ref (ad 732)), (1, .int a1), (2, .long a2)]) C.1.1 C.1.2.1 dX19_codeOf_43 hl (k := 3) rfl (by rw [ex4]; rfl) (by decide) rfl (fun ls hl => ?_)
        refine lv_goto (tgt := 17) C.1.1 C.1.2.1 dX19_codeOf_46 (by decide) ?_
        exact ih17 x4 M2 L3 _ _ ls hD hw (lv_sub hl [1, 2, 3, 0] rfl)
  unfold DX19_codeOf at hD
  refine lv_aload_n C.1.1 C.1.2.1 dX19_codeOf_0 rfl (lv_at hl 0 rfl) ?_
  refine mr_getR C hw kc_19 78 (by decide) tf_732 ff_732_78 wd_2859 dX19_codeOf_1 (by decide) rfl ?_
  refine lv_aload_n C.1.1 C.1.2.1 dX19_codeOf_4 rfl (lv_at hl 0 rfl) ?_
  refine mr_getR C hw kc_19 73 (by decide) tf_732 ff_732_73 wd_2854 dX19_codeOf_5 (by decide) rfl ?_
  refine lv_iload_n C.1.1 C.1.2.1 dX19_codeOf_8 rfl (lv_at hl 1 rfl) ?_
  obtain ⟨q14, hD⟩ := g_ck hD
  refine mr_iald C hw (by decide) tf_784 q14 dX19_codeOf_9 ?_
  refine lv_i2b C.1.1 C.1.2.1 dX19_codeOf_10 rfl ?_
  obtain ⟨M15, L16, h1, hD⟩ := g_b2 hD
  refine md_cvV (As := [.int ((M 784 a1.toNatClampNeg).toInt8.toInt32)]) (rest := []) C hw (tX14_octet l G ad fu ((M 784 a1.toNatClampNeg).toInt8.toInt32) M L h1) kc_14 (by decide) tf_854 wd_3578 cwX14_octet ⟨Nat.le_of_ble_eq_true rfl, Nat.le_of_ble_eq_true rfl⟩ rfl hl.1 (Nat.le_of_ble_eq_true rfl) dX19_codeOf_11 rfl rfl ⟨Nat.zero_le _, Nat.zero_le _⟩ rfl (fun H locs hw => ?_)
  refine lv_iconst (v := 0) C.1.1 C.1.2.1 dX19_codeOf_14 (by decide) ?_
  refine lv_istore (lv' := [(4, .int 0), (0, .ref (ad 732)), (1, .int a1), (2, .long a2)]) C.1.1 C.1.2.1 dX19_codeOf_15 hl (by decide) rfl (fun ls hl => ?_)
  exact hh17 fu 0 M15 L16 _ _ ls hD hw (lv_sub hl [1, 2, 3, 0] rfl)

theorem dX19_send_0 : decode cX19_send 0 = .ok (.aload_n 0, 1) := by decide +kernel
theorem dX19_send_1 : decode cX19_send 1 = .ok (.getfield 211, 3) := by decide +kernel
theorem dX19_send_4 : decode cX19_send 4 = .ok (.aload_n 0, 1) := by decide +kernel
theorem dX19_send_5 : decode cX19_send 5 = .ok (.getfield 153, 3) := by decide +kernel
theorem dX19_send_8 : decode cX19_send 8 = .ok (.iload_n 1, 1) := by decide +kernel
theorem dX19_send_9 : decode cX19_send 9 = .ok (.iaload, 1) := by decide +kernel
theorem dX19_send_10 : decode cX19_send 10 = .ok (.aaload, 1) := by decide +kernel
theorem dX19_send_11 : decode cX19_send 11 = .ok (.astore_n 2, 1) := by decide +kernel
theorem dX19_send_12 : decode cX19_send 12 = .ok (.iconst 0, 1) := by decide +kernel
theorem dX19_send_13 : decode cX19_send 13 = .ok (.istore_n 3, 1) := by decide +kernel
theorem dX19_send_14 : decode cX19_send 14 = .ok (.iload_n 3, 1) := by decide +kernel
theorem dX19_send_15 : decode cX19_send 15 = .ok (.aload_n 0, 1) := by decide +kernel
theorem dX19_send_16 : decode cX19_send 16 = .ok (.getfield 541, 3) := by decide +kernel
theorem dX19_send_19 : decode cX19_send 19 = .ok (.if_icmp .ge 49, 3) := by decide +kernel
theorem dX19_send_22 : decode cX19_send 22 = .ok (.aload_n 0, 1) := by decide +kernel
theorem dX19_send_23 : decode cX19_send 23 = .ok (.getfield 113, 3) := by decide +kernel
theorem dX19_send_26 : decode cX19_send 26 = .ok (.iload_n 3, 1) := by decide +kernel
theorem dX19_send_27 : decode cX19_send 27 = .ok (.iaload, 1) := by decide +kernel
theorem dX19_send_28 : decode cX19_send 28 = .ok (.iload_n 1, 1) := by decide +kernel
theorem dX19_send_29 : decode cX19_send 29 = .ok (.if_icmp .ne 33, 3) := by decide +kernel
theorem dX19_send_32 : decode cX19_send 32 = .ok (.aload_n 2, 1) := by decide +kernel
theorem dX19_send_33 : decode cX19_send 33 = .ok (.aload_n 0, 1) := by decide +kernel
theorem dX19_send_34 : decode cX19_send 34 = .ok (.getfield 110, 3) := by decide +kernel
theorem dX19_send_37 : decode cX19_send 37 = .ok (.iload_n 3, 1) := by decide +kernel
theorem dX19_send_38 : decode cX19_send 38 = .ok (.iaload, 1) := by decide +kernel
theorem dX19_send_39 : decode cX19_send 39 = .ok (.aload_n 0, 1) := by decide +kernel
theorem dX19_send_40 : decode cX19_send 40 = .ok (.getfield 217, 3) := by decide +kernel
theorem dX19_send_43 : decode cX19_send 43 = .ok (.aload_n 0, 1) := by decide +kernel
theorem dX19_send_44 : decode cX19_send 44 = .ok (.getfield 97, 3) := by decide +kernel
theorem dX19_send_47 : decode cX19_send 47 = .ok (.iload_n 3, 1) := by decide +kernel
theorem dX19_send_48 : decode cX19_send 48 = .ok (.iaload, 1) := by decide +kernel
theorem dX19_send_49 : decode cX19_send 49 = .ok (.aaload, 1) := by decide +kernel
theorem dX19_send_50 : decode cX19_send 50 = .ok (.aload_n 0, 1) := by decide +kernel
theorem dX19_send_51 : decode cX19_send 51 = .ok (.getfield 100, 3) := by decide +kernel
theorem dX19_send_54 : decode cX19_send 54 = .ok (.iload_n 3, 1) := by decide +kernel
theorem dX19_send_55 : decode cX19_send 55 = .ok (.iaload, 1) := by decide +kernel
theorem dX19_send_56 : decode cX19_send 56 = .ok (.invokevirtual 661, 3) := by decide +kernel
theorem dX19_send_59 : decode cX19_send 59 = .ok (.invokevirtual 665, 3) := by decide +kernel
theorem dX19_send_62 : decode cX19_send 62 = .ok (.iinc 3 1, 3) := by decide +kernel
theorem dX19_send_65 : decode cX19_send 65 = .ok (.goto (-51), 3) := by decide +kernel
theorem dX19_send_68 : decode cX19_send 68 = .ok (.aload_n 0, 1) := by decide +kernel
theorem dX19_send_69 : decode cX19_send 69 = .ok (.getfield 162, 3) := by decide +kernel
theorem dX19_send_72 : decode cX19_send 72 = .ok (.iload_n 1, 1) := by decide +kernel
theorem dX19_send_73 : decode cX19_send 73 = .ok (.iaload, 1) := by decide +kernel
theorem dX19_send_74 : decode cX19_send 74 = .ok (.ifCond .le 7, 3) := by decide +kernel
theorem dX19_send_77 : decode cX19_send 77 = .ok (.iconst 3, 1) := by decide +kernel
theorem dX19_send_78 : decode cX19_send 78 = .ok (.goto 5, 3) := by decide +kernel
theorem dX19_send_81 : decode cX19_send 81 = .ok (.bipush 8, 2) := by decide +kernel
theorem dX19_send_83 : decode cX19_send 83 = .ok (.istore_n 3, 1) := by decide +kernel
theorem dX19_send_84 : decode cX19_send 84 = .ok (.iconst 0, 1) := by decide +kernel
theorem dX19_send_85 : decode cX19_send 85 = .ok (.istore 4, 2) := by decide +kernel
theorem dX19_send_87 : decode cX19_send 87 = .ok (.iload 4, 2) := by decide +kernel
theorem dX19_send_89 : decode cX19_send 89 = .ok (.bipush 8, 2) := by decide +kernel
theorem dX19_send_91 : decode cX19_send 91 = .ok (.if_icmp .ge 42, 3) := by decide +kernel
theorem dX19_send_94 : decode cX19_send 94 = .ok (.aload_n 0, 1) := by decide +kernel
theorem dX19_send_95 : decode cX19_send 95 = .ok (.getfield 230, 3) := by decide +kernel
theorem dX19_send_98 : decode cX19_send 98 = .ok (.iload 4, 2) := by decide +kernel
theorem dX19_send_100 : decode cX19_send 100 = .ok (.iload 4, 2) := by decide +kernel
theorem dX19_send_102 : decode cX19_send 102 = .ok (.iload_n 3, 1) := by decide +kernel
theorem dX19_send_103 : decode cX19_send 103 = .ok (.if_icmp .ge 22, 3) := by decide +kernel
theorem dX19_send_106 : decode cX19_send 106 = .ok (.aload_n 2, 1) := by decide +kernel
theorem dX19_send_107 : decode cX19_send 107 = .ok (.aload_n 0, 1) := by decide +kernel
theorem dX19_send_108 : decode cX19_send 108 = .ok (.getfield 156, 3) := by decide +kernel
theorem dX19_send_111 : decode cX19_send 111 = .ok (.iload_n 1, 1) := by decide +kernel
theorem dX19_send_112 : decode cX19_send 112 = .ok (.iaload, 1) := by decide +kernel
theorem dX19_send_113 : decode cX19_send 113 = .ok (.iload 4, 2) := by decide +kernel
theorem dX19_send_115 : decode cX19_send 115 = .ok (.invokevirtual 669, 3) := by decide +kernel
theorem dX19_send_118 : decode cX19_send 118 = .ok (.sipush 255, 3) := by decide +kernel
theorem dX19_send_121 : decode cX19_send 121 = .ok (.iand, 1) := by decide +kernel
theorem dX19_send_122 : decode cX19_send 122 = .ok (.goto 4, 3) := by decide +kernel
theorem dX19_send_125 : decode cX19_send 125 = .ok (.iconst 0, 1) := by decide +kernel
theorem dX19_send_126 : decode cX19_send 126 = .ok (.iastore, 1) := by decide +kernel
theorem dX19_send_127 : decode cX19_send 127 = .ok (.iinc 4 1, 3) := by decide +kernel
theorem dX19_send_130 : decode cX19_send 130 = .ok (.goto (-43), 3) := by decide +kernel
theorem dX19_send_133 : decode cX19_send 133 = .ok (.aload_n 0, 1) := by decide +kernel
theorem dX19_send_134 : decode cX19_send 134 = .ok (.getfield 168, 3) := by decide +kernel
theorem dX19_send_137 : decode cX19_send 137 = .ok (.iload_n 1, 1) := by decide +kernel
theorem dX19_send_138 : decode cX19_send 138 = .ok (.dup2, 1) := by decide +kernel
theorem dX19_send_139 : decode cX19_send 139 = .ok (.iaload, 1) := by decide +kernel
theorem dX19_send_140 : decode cX19_send 140 = .ok (.iconst 1, 1) := by decide +kernel
theorem dX19_send_141 : decode cX19_send 141 = .ok (.iadd, 1) := by decide +kernel
theorem dX19_send_142 : decode cX19_send 142 = .ok (.iastore, 1) := by decide +kernel
theorem dX19_send_143 : decode cX19_send 143 = .ok (.aload_n 0, 1) := by decide +kernel
theorem dX19_send_144 : decode cX19_send 144 = .ok (.getfield 162, 3) := by decide +kernel
theorem dX19_send_147 : decode cX19_send 147 = .ok (.iload_n 1, 1) := by decide +kernel
theorem dX19_send_148 : decode cX19_send 148 = .ok (.iaload, 1) := by decide +kernel
theorem dX19_send_149 : decode cX19_send 149 = .ok (.ifCond .le 68, 3) := by decide +kernel
theorem dX19_send_152 : decode cX19_send 152 = .ok (.aload_n 0, 1) := by decide +kernel
theorem dX19_send_153 : decode cX19_send 153 = .ok (.getfield 230, 3) := by decide +kernel
theorem dX19_send_156 : decode cX19_send 156 = .ok (.iconst 3, 1) := by decide +kernel
theorem dX19_send_157 : decode cX19_send 157 = .ok (.aload_n 0, 1) := by decide +kernel
theorem dX19_send_158 : decode cX19_send 158 = .ok (.getfield 168, 3) := by decide +kernel
theorem dX19_send_161 : decode cX19_send 161 = .ok (.iload_n 1, 1) := by decide +kernel
theorem dX19_send_162 : decode cX19_send 162 = .ok (.iaload, 1) := by decide +kernel
theorem dX19_send_163 : decode cX19_send 163 = .ok (.sipush 255, 3) := by decide +kernel
theorem dX19_send_166 : decode cX19_send 166 = .ok (.iand, 1) := by decide +kernel
theorem dX19_send_167 : decode cX19_send 167 = .ok (.iastore, 1) := by decide +kernel
theorem dX19_send_168 : decode cX19_send 168 = .ok (.aload_n 0, 1) := by decide +kernel
theorem dX19_send_169 : decode cX19_send 169 = .ok (.iload_n 1, 1) := by decide +kernel
theorem dX19_send_170 : decode cX19_send 170 = .ok (.aload_n 0, 1) := by decide +kernel
theorem dX19_send_171 : decode cX19_send 171 = .ok (.getfield 168, 3) := by decide +kernel
theorem dX19_send_174 : decode cX19_send 174 = .ok (.iload_n 1, 1) := by decide +kernel
theorem dX19_send_175 : decode cX19_send 175 = .ok (.iaload, 1) := by decide +kernel
theorem dX19_send_176 : decode cX19_send 176 = .ok (.i2l, 1) := by decide +kernel
theorem dX19_send_177 : decode cX19_send 177 = .ok (.invokevirtual 672, 3) := by decide +kernel
theorem dX19_send_180 : decode cX19_send 180 = .ok (.iconst 0, 1) := by decide +kernel
theorem dX19_send_181 : decode cX19_send 181 = .ok (.istore 4, 2) := by decide +kernel
theorem dX19_send_183 : decode cX19_send 183 = .ok (.iload 4, 2) := by decide +kernel
theorem dX19_send_185 : decode cX19_send 185 = .ok (.iconst 4, 1) := by decide +kernel
theorem dX19_send_186 : decode cX19_send 186 = .ok (.if_icmp .ge 31, 3) := by decide +kernel
theorem dX19_send_189 : decode cX19_send 189 = .ok (.aload_n 0, 1) := by decide +kernel
theorem dX19_send_190 : decode cX19_send 190 = .ok (.getfield 230, 3) := by decide +kernel
theorem dX19_send_193 : decode cX19_send 193 = .ok (.iconst 4, 1) := by decide +kernel
theorem dX19_send_194 : decode cX19_send 194 = .ok (.iload 4, 2) := by decide +kernel
theorem dX19_send_196 : decode cX19_send 196 = .ok (.iadd, 1) := by decide +kernel
theorem dX19_send_197 : decode cX19_send 197 = .ok (.aload_n 0, 1) := by decide +kernel
theorem dX19_send_198 : decode cX19_send 198 = .ok (.getfield 191, 3) := by decide +kernel
theorem dX19_send_201 : decode cX19_send 201 = .ok (.iload 4, 2) := by decide +kernel
theorem dX19_send_203 : decode cX19_send 203 = .ok (.invokevirtual 675, 3) := by decide +kernel
theorem dX19_send_206 : decode cX19_send 206 = .ok (.sipush 255, 3) := by decide +kernel
theorem dX19_send_209 : decode cX19_send 209 = .ok (.iand, 1) := by decide +kernel
theorem dX19_send_210 : decode cX19_send 210 = .ok (.iastore, 1) := by decide +kernel
theorem dX19_send_211 : decode cX19_send 211 = .ok (.iinc 4 1, 3) := by decide +kernel
theorem dX19_send_214 : decode cX19_send 214 = .ok (.goto (-31), 3) := by decide +kernel
theorem dX19_send_217 : decode cX19_send 217 = .ok (.aload_n 0, 1) := by decide +kernel
theorem dX19_send_218 : decode cX19_send 218 = .ok (.aload_n 0, 1) := by decide +kernel
theorem dX19_send_219 : decode cX19_send 219 = .ok (.getfield 150, 3) := by decide +kernel
theorem dX19_send_222 : decode cX19_send 222 = .ok (.iload_n 1, 1) := by decide +kernel
theorem dX19_send_223 : decode cX19_send 223 = .ok (.iaload, 1) := by decide +kernel
theorem dX19_send_224 : decode cX19_send 224 = .ok (.bipush 64, 2) := by decide +kernel
theorem dX19_send_226 : decode cX19_send 226 = .ok (.bipush 8, 2) := by decide +kernel
theorem dX19_send_228 : decode cX19_send 228 = .ok (.aload_n 0, 1) := by decide +kernel
theorem dX19_send_229 : decode cX19_send 229 = .ok (.getfield 165, 3) := by decide +kernel
theorem dX19_send_232 : decode cX19_send 232 = .ok (.iload_n 1, 1) := by decide +kernel
theorem dX19_send_233 : decode cX19_send 233 = .ok (.iaload, 1) := by decide +kernel
theorem dX19_send_234 : decode cX19_send 234 = .ok (.imul, 1) := by decide +kernel
theorem dX19_send_235 : decode cX19_send 235 = .ok (.iadd, 1) := by decide +kernel
theorem dX19_send_236 : decode cX19_send 236 = .ok (.iconst 0, 1) := by decide +kernel
theorem dX19_send_237 : decode cX19_send 237 = .ok (.invokevirtual 679, 3) := by decide +kernel
theorem dX19_send_240 : decode cX19_send 240 = .ok (.istore 4, 2) := by decide +kernel
theorem dX19_send_242 : decode cX19_send 242 = .ok (.return_, 1) := by decide +kernel
theorem cwX19_send : mw_cwV yX19_send cX19_send 5 (none) 1 := ⟨⟨wd_13, wd_3549, by decide +kernel⟩, wd_3548, sl_216⟩
noncomputable def fX19_send_b217 (fu : Nat) (a1 : Int32) (M : mwM) (L : mwL) : Option (mwM × mwL) :=
  mck a1 40 (mck a1 40 (mb3 (DX19_put fu (M 779 a1.toNatClampNeg) (64 + (8 * (M 784 a1.toNatClampNeg))) 0 M L) (fun r47 M45 L46 => some (M45, L46))))
noncomputable def fX19_send_i183 (fu : Nat) (a1 : Int32) (r183 : (Int32 × mwM × mwL) → Option (mwM × mwL)) (v4 : Int32) (M : mwM) (L : mwL) : Option (mwM × mwL) :=
  (if 4 ≤ v4 then fX19_send_b217 fu a1 M L else mb3 (DX14_out fu v4 M L) (fun r39 M37 L38 => mck (4 + v4) 8 (mlet (mset M37 926 ((4 + v4).toNatClampNeg) (r39 &&& 255)) (fun M41 => mlet (v4 + 1) (fun x42 => r183 (x42, M41, L38))))))
noncomputable def fX19_send_h183 (fu : Nat) (a1 : Int32) : Nat → (Int32 × mwM × mwL) → Option (mwM × mwL) := mloop (fun r183 s => fX19_send_i183 fu a1 r183 s.1 s.2.1 s.2.2)
noncomputable def fX19_send_b126 (fu : Nat) (a1 : Int32) (r87 : (Nat × Int32 × Int32 × mwM × mwL) → Option (mwM × mwL)) (v2 : Nat) (v3 : Int32) (v4 : Int32) (s1 : Int32) (s2 : Int32) (M : mwM) (L : mwL) : Option (mwM × mwL) :=
  mck s1 8 (mlet (mset M 926 (s1.toNatClampNeg) s2) (fun M34 => mlet (v4 + 1) (fun x35 => r87 (v2, v3, x35, M34, L))))
noncomputable def fX19_send_i87 (fu : Nat) (a1 : Int32) (r87 : (Nat × Int32 × Int32 × mwM × mwL) → Option (mwM × mwL)) (v2 : Nat) (v3 : Int32) (v4 : Int32) (M : mwM) (L : mwL) : Option (mwM × mwL) :=
  (if 8 ≤ v4 then mck a1 40 (mck a1 40 (mlet (mset M 785 (a1.toNatClampNeg) ((M 785 a1.toNatClampNeg) + 1)) (fun M19 => mck a1 40 ((if (M19 783 a1.toNatClampNeg) ≤ 0 then fX19_send_b217 fu a1 M19 L else mck a1 40 (mlet (mset M19 926 ((3 : Int32).toNatClampNeg) ((M19 785 a1.toNatClampNeg) &&& 255)) (fun M24 => mck a1 40 (mb2 (DX19_codeOf fu a1 ((M24 785 a1.toNatClampNeg).toInt64) M24 L) (fun M26 L27 => fX19_send_h183 fu a1 fu (0, M26, L27)))))))))) else (if v3 ≤ v4 then fX19_send_b126 fu a1 r87 v2 v3 v4 v4 0 M L else mck a1 40 (mb3 (DX16_octet fu v2 (M 781 a1.toNatClampNeg) v4 M L) (fun r32 M30 L31 => fX19_send_b126 fu a1 r87 v2 v3 v4 v4 (r32 &&& 255) M30 L31))))
noncomputable def fX19_send_h87 (fu : Nat) (a1 : Int32) : Nat → (Nat × Int32 × Int32 × mwM × mwL) → Option (mwM × mwL) := mloop (fun r87 s => fX19_send_i87 fu a1 r87 s.1 s.2.1 s.2.2.1 s.2.2.2.1 s.2.2.2.2)
noncomputable def fX19_send_b83 (fu : Nat) (a1 : Int32) (v2 : Nat) (s0 : Int32) (M : mwM) (L : mwL) : Option (mwM × mwL) :=
  fX19_send_h87 fu a1 fu (v2, s0, 0, M, L)
noncomputable def fX19_send_b62 (fu : Nat) (a1 : Int32) (r14 : (Nat × Int32 × mwM × mwL) → Option (mwM × mwL)) (v2 : Nat) (v3 : Int32) (M : mwM) (L : mwL) : Option (mwM × mwL) :=
  mlet (v3 + 1) (fun x15 => r14 (v2, x15, M, L))
noncomputable def fX19_send_i14 (fu : Nat) (a1 : Int32) (r14 : (Nat × Int32 × mwM × mwL) → Option (mwM × mwL)) (v2 : Nat) (v3 : Int32) (M : mwM) (L : mwL) : Option (mwM × mwL) :=
  (if (M 732 45) ≤ v3 then mck a1 40 ((if (M 783 a1.toNatClampNeg) ≤ 0 then fX19_send_b83 fu a1 v2 8 M L else fX19_send_b83 fu a1 v2 3 M L)) else mck v3 40 ((if (M 767 v3.toNatClampNeg) = a1 then mck v3 40 (mck v3 40 (mck (M 762 v3.toNatClampNeg) 12 (mck v3 40 (mb3 (DX13_value fu ((964 + 53 * (M 762 v3.toNatClampNeg).toNatClampNeg)) (M 763 v3.toNatClampNeg) M L) (fun r12 M10 L11 => mb2 (DX16_put fu v2 (M 766 v3.toNatClampNeg) r12 M10 L11) (fun M13 L14 => fX19_send_b62 fu a1 r14 v2 v3 M13 L14)))))) else fX19_send_b62 fu a1 r14 v2 v3 M L)))
noncomputable def fX19_send_h14 (fu : Nat) (a1 : Int32) : Nat → (Nat × Int32 × mwM × mwL) → Option (mwM × mwL) := mloop (fun r14 s => fX19_send_i14 fu a1 r14 s.1 s.2.1 s.2.2.1 s.2.2.2)
noncomputable def DX19_send (fu : Nat) (a1 : Int32) (M : mwM) (L : mwL) : Option (mwM × mwL) :=
  mck a1 40 (mck (M 780 a1.toNatClampNeg) 12 (fX19_send_h14 fu a1 fu ((((941 + 53 * (M 780 a1.toNatClampNeg).toNatClampNeg) + 0)), 0, M, L)))
set_option maxHeartbeats 4000000 in
set_option maxRecDepth 100000 in
theorem tX19_send (l : Launch) (G : mwG) (ad : Nat → Nat) (fu : Nat) (a1 : Int32) (M : mwM) (L : mwL) {M0 : mwM} {L0 : mwL} (hD : DX19_send fu a1 M L = some (M0, L0)) : Met l yX19_send (Cond.code yX19_send cX19_send 5 (none) :: GT) ({ frames := 6, cells := 0, slots := 0, locals := 150 }) (mw_Pre G ad NF TF FF M L [.ref (ad 732), .int a1]) (mw_Qv G ad NF TF FF (mw_eqV M0 L0)) 0 0 (mw_fr G) := by
  refine mw_enter (by decide) (Nat.le_of_ble_eq_true rfl) ?_
  intro p e s m below meth c ls C hr hlocks hnm hw hl
  have hl : lv_has ls 5 [(0, .ref (ad 732)), (1, .int a1)] := hl
  have hb217 : ∀ (M : mwM) (L : mwL) (H : Heap) (locs : List Loc) (ls : Array Slot), fX19_send_b217 fu a1 M L = some (M0, L0) → mw_W G ad NF TF FF M L H locs → lv_has ls 5 [(0, .ref (ad 732)), (1, .int a1)] → W p l e ({ frames := 6, cells := 0, slots := 0, locals := 150 }) s m [.ref (ad 732), .int a1].toArray below meth c H locs 0 0 (MQ below (mw_Qv G ad NF TF FF (mw_eqV M0 L0)) [.ref (ad 732), .int a1].toArray s 0 0 (mw_fr G)) (F0 m 217 ls []) := by
    intro M L H locs ls hD hw hl
    unfold fX19_send_b217 at hD
    refine lv_aload_n C.1.1 C.1.2.1 dX19_send_217 rfl (lv_at hl 0 rfl) ?_
    refine lv_aload_n C.1.1 C.1.2.1 dX19_send_218 rfl (lv_at hl 0 rfl) ?_
    refine mr_getR C hw kc_19 68 (by decide) tf_732 ff_732_68 wd_2849 dX19_send_219 (by decide) rfl ?_
    refine lv_iload_n C.1.1 C.1.2.1 dX19_send_222 rfl (lv_at hl 1 rfl) ?_
    obtain ⟨q43, hD⟩ := g_ck hD
    refine mr_iald C hw (by decide) tf_779 q43 dX19_send_223 ?_
    refine lv_bipush (v := 64) C.1.1 C.1.2.1 dX19_send_224 (by decide) ?_
    refine lv_bipush (v := 8) C.1.1 C.1.2.1 dX19_send_226 (by decide) ?_
    refine lv_aload_n C.1.1 C.1.2.1 dX19_send_228 rfl (lv_at hl 0 rfl) ?_
    refine mr_getR C hw kc_19 73 (by decide) tf_732 ff_732_73 wd_2854 dX19_send_229 (by decide) rfl ?_
    refine lv_iload_n C.1.1 C.1.2.1 dX19_send_232 rfl (lv_at hl 1 rfl) ?_
    obtain ⟨q44, hD⟩ := g_ck hD
    refine mr_iald C hw (by decide) tf_784 q44 dX19_send_233 ?_
    refine lv_imul C.1.1 C.1.2.1 dX19_send_234 ?_
    refine lv_iadd C.1.1 C.1.2.1 dX19_send_235 ?_
    refine lv_iconst (v := 0) C.1.1 C.1.2.1 dX19_send_236 (by decide) ?_
    obtain ⟨r47, M45, L46, h1, hD⟩ := g_b3 hD
    refine md_cvI (As := [.int (M 779 a1.toNatClampNeg), .int (64 + (8 * (M 784 a1.toNatClampNeg))), .int 0]) (rest := []) C hw (tX19_put l G ad fu (M 779 a1.toNatClampNeg) (64 + (8 * (M 784 a1.toNatClampNeg))) 0 M L h1) kc_19 (by decide) tf_732 wd_3614 cwX19_put ⟨Nat.le_of_ble_eq_true rfl, Nat.le_of_ble_eq_true rfl⟩ rfl hl.1 (Nat.le_of_ble_eq_true rfl) dX19_send_237 rfl rfl ⟨Nat.zero_le _, Nat.zero_le _⟩ rfl (fun H locs hw => ?_)
    refine lv_istore (lv' := [(4, .int r47), (0, .ref (ad 732)), (1, .int a1)]) C.1.1 C.1.2.1 dX19_send_240 hl (by decide) rfl (fun ls hl => ?_)
    exact mr_vret C hr hlocks hw (Option.some.inj hD) dX19_send_242
  have hh183 : ∀ (f : Nat) (v4 : Int32) (M : mwM) (L : mwL) (H : Heap) (locs : List Loc) (ls : Array Slot), fX19_send_h183 fu a1 f (v4, M, L) = some (M0, L0) → mw_W G ad NF TF FF M L H locs → lv_has ls 5 [(0, .ref (ad 732)), (1, .int a1), (4, .int v4)] → W p l e ({ frames := 6, cells := 0, slots := 0, locals := 150 }) s m [.ref (ad 732), .int a1].toArray below meth c H locs 0 0 (MQ below (mw_Qv G ad NF TF FF (mw_eqV M0 L0)) [.ref (ad 732), .int a1].toArray s 0 0 (mw_fr G)) (F0 m 183 ls []) := by
    intro f
    induction f with
    | zero => intro v4 M L H locs ls hD; cases hD
    | succ f183 ih183 =>
      intro v4 M L H locs ls hD hw hl
      replace hD : fX19_send_i183 fu a1 (fX19_send_h183 fu a1 f183) v4 M L = some (M0, L0) := hD
      unfold fX19_send_i183 at hD
      refine lv_iload C.1.1 C.1.2.1 dX19_send_183 (lv_at hl 2 rfl) ?_
      refine lv_iconst (v := 4) C.1.1 C.1.2.1 dX19_send_185 (by decide) ?_
      refine lv_icmp_ge (tgt := 217) C.1.1 C.1.2.1 dX19_send_186 (by decide) (fun c36 => ?_) (fun c36 => ?_)
      · replace hD := g_pos c36 hD
        exact hb217 M L _ _ ls hD hw (lv_sub hl [0, 1] rfl)
      · replace hD := g_neg c36 hD
        refine lv_aload_n C.1.1 C.1.2.1 dX19_send_189 rfl (lv_at hl 0 rfl) ?_
        refine mr_getR C hw kc_19 87 (by decide) tf_732 ff_732_87 wd_2868 dX19_send_190 (by decide) rfl ?_
        refine lv_iconst (v := 4) C.1.1 C.1.2.1 dX19_send_193 (by decide) ?_
        refine lv_iload C.1.1 C.1.2.1 dX19_send_194 (lv_at hl 2 rfl) ?_
        refine lv_iadd C.1.1 C.1.2.1 dX19_send_196 ?_
        refine lv_aload_n C.1.1 C.1.2.1 dX19_send_197 rfl (lv_at hl 0 rfl) ?_
        refine mr_getR C hw kc_19 78 (by decide) tf_732 ff_732_78 wd_2859 dX19_send_198 (by decide) rfl ?_
        refine lv_iload C.1.1 C.1.2.1 dX19_send_201 (lv_at hl 2 rfl) ?_
        obtain ⟨r39, M37, L38, h1, hD⟩ := g_b3 hD
        refine md_cvI (As := [.int v4]) (rest := [.int (4 + v4), .ref (ad 926)]) C hw (tX14_out l G ad fu v4 M L h1) kc_14 (by decide) tf_854 wd_3610 cwX14_out ⟨Nat.le_of_ble_eq_true rfl, Nat.le_of_ble_eq_true rfl⟩ rfl hl.1 (Nat.le_of_ble_eq_true rfl) dX19_send_203 rfl rfl ⟨Nat.zero_le _, Nat.zero_le _⟩ rfl (fun H locs hw => ?_)
        refine lv_sipush (v := 255) C.1.1 C.1.2.1 dX19_send_206 (by decide) ?_
        refine lv_iand C.1.1 C.1.2.1 dX19_send_209 ?_
        obtain ⟨q40, hD⟩ := g_ck hD
        obtain ⟨M41, eM41, hD⟩ := g_let hD
        refine mr_iast C hw (by decide) tf_926 q40 dX19_send_210 (fun H locs hw => ?_)
        replace hw : mw_W G ad NF TF FF M41 L38 H locs := by rw [eM41]; exact hw
        obtain ⟨x42, ex42, hD⟩ := g_let hD
        refine lv_iinc (v := x42) (lv' := [(4, .int x42), (0, .ref (ad 732)), (1, .int a1)]) C.1.1 C.1.2.1 dX19_send_211 hl (k := 2) rfl (by rw [ex42]; rfl) (by decide) rfl (fun ls hl => ?_)
        refine lv_goto (tgt := 183) C.1.1 C.1.2.1 dX19_send_214 (by decide) ?_
        exact ih183 x42 M41 L38 _ _ ls hD hw (lv_sub hl [1, 2, 0] rfl)
  have hh87 : ∀ (f : Nat) (v2 : Nat) (v3 : Int32) (v4 : Int32) (M : mwM) (L : mwL) (H : Heap) (locs : List Loc) (ls : Array Slot), fX19_send_h87 fu a1 f (v2, v3, v4, M, L) = some (M0, L0) → isMp v2 → mw_W G ad NF TF FF M L H locs → lv_has ls 5 [(0, .ref (ad 732)), (1, .int a1), (2, .ref (ad v2)), (3, .int v3), (4, .int v4)] → W p l e ({ frames := 6, cells := 0, slots := 0, locals := 150 }) s m [.ref (ad 732), .int a1].toArray below meth c H locs 0 0 (MQ below (mw_Qv G ad NF TF FF (mw_eqV M0 L0)) [.ref (ad 732), .int a1].toArray s 0 0 (mw_fr G)) (F0 m 87 ls []) := by
    intro f
    induction f with
    | zero => intro v2 v3 v4 M L H locs ls hD; cases hD
    | succ f87 ih87 =>
      intro v2 v3 v4 M L H locs ls hD hv2 hw hl
      replace hD : fX19_send_i87 fu a1 (fX19_send_h87 fu a1 f87) v2 v3 v4 M L = some (M0, L0) := hD
      have hb126 : ∀ (v2 : Nat) (v3 : Int32) (v4 : Int32) (s1 : Int32) (s2 : Int32) (M : mwM) (L : mwL) (H : Heap) (locs : List Loc) (ls : Array Slot), fX19_send_b126 fu a1 (fX19_send_h87 fu a1 f87) v2 v3 v4 s1 s2 M L = some (M0, L0) → isMp v2 → mw_W G ad NF TF FF M L H locs → lv_has ls 5 [(0, .ref (ad 732)), (1, .int a1), (2, .ref (ad v2)), (3, .int v3), (4, .int v4)] → W p l e ({ frames := 6, cells := 0, slots := 0, locals := 150 }) s m [.ref (ad 732), .int a1].toArray below meth c H locs 0 0 (MQ below (mw_Qv G ad NF TF FF (mw_eqV M0 L0)) [.ref (ad 732), .int a1].toArray s 0 0 (mw_fr G)) (F0 m 126 ls [.int s2, .int s1, .ref (ad 926)]) := by
        intro v2 v3 v4 s1 s2 M L H locs ls hD hv2 hw hl
        unfold fX19_send_b126 at hD
        obtain ⟨q33, hD⟩ := g_ck hD
        obtain ⟨M34, eM34, hD⟩ := g_let hD
        refine mr_iast C hw (by decide) tf_926 q33 dX19_send_126 (fun H locs hw => ?_)
        replace hw : mw_W G ad NF TF FF M34 L H locs := by rw [eM34]; exact hw
        obtain ⟨x35, ex35, hD⟩ := g_let hD
        refine lv_iinc (v := x35) (lv' := [(4, .int x35), (0, .ref (ad 732)), (1, .int a1), (2, .ref (ad v2)), (3, .int v3)]) C.1.1 C.1.2.1 dX19_send_127 hl (k := 4) rfl (by rw [ex35]; rfl) (by decide) rfl (fun ls hl => ?_)
        refine lv_goto (tgt := 87) C.1.1 C.1.2.1 dX19_send_130 (by decide) ?_
        exact ih87 v2 v3 x35 M34 L _ _ ls hD hv2 hw (lv_sub hl [1, 2, 3, 4, 0] rfl)
      unfold fX19_send_i87 at hD
      refine lv_iload C.1.1 C.1.2.1 dX19_send_87 (lv_at hl 4 rfl) ?_
      refine lv_bipush (v := 8) C.1.1 C.1.2.1 dX19_send_89 (by decide) ?_
      refine lv_icmp_ge (tgt := 133) C.1.1 C.1.2.1 dX19_send_91 (by decide) (fun c16 => ?_) (fun c16 => ?_)
      · replace hD := g_pos c16 hD
        refine lv_aload_n C.1.1 C.1.2.1 dX19_send_133 rfl (lv_at hl 0 rfl) ?_
        refine mr_getR C hw kc_19 74 (by decide) tf_732 ff_732_74 wd_2855 dX19_send_134 (by decide) rfl ?_
        refine lv_iload_n C.1.1 C.1.2.1 dX19_send_137 rfl (lv_at hl 1 rfl) ?_
        refine lv_dup2_11 C.1.1 C.1.2.1 dX19_send_138 rfl rfl ?_
        obtain ⟨q17, hD⟩ := g_ck hD
        refine mr_iald C hw (by decide) tf_785 q17 dX19_send_139 ?_
        refine lv_iconst (v := 1) C.1.1 C.1.2.1 dX19_send_140 (by decide) ?_
        refine lv_iadd C.1.1 C.1.2.1 dX19_send_141 ?_
        obtain ⟨q18, hD⟩ := g_ck hD
        obtain ⟨M19, eM19, hD⟩ := g_let hD
        refine mr_iast C hw (by decide) tf_785 q18 dX19_send_142 (fun H locs hw => ?_)
        replace hw : mw_W G ad NF TF FF M19 L H locs := by rw [eM19]; exact hw
        refine lv_aload_n C.1.1 C.1.2.1 dX19_send_143 rfl (lv_at hl 0 rfl) ?_
        refine mr_getR C hw kc_19 72 (by decide) tf_732 ff_732_72 wd_2853 dX19_send_144 (by decide) rfl ?_
        refine lv_iload_n C.1.1 C.1.2.1 dX19_send_147 rfl (lv_at hl 1 rfl) ?_
        obtain ⟨q20, hD⟩ := g_ck hD
        refine mr_iald C hw (by decide) tf_783 q20 dX19_send_148 ?_
        refine lv_if_le (tgt := 217) C.1.1 C.1.2.1 dX19_send_149 (by decide) (fun c21 => ?_) (fun c21 => ?_)
        · replace hD := g_pos c21 hD
          exact hb217 M19 L _ _ ls hD hw (lv_sub hl [0, 1] rfl)
        · replace hD := g_neg c21 hD
          refine lv_aload_n C.1.1 C.1.2.1 dX19_send_152 rfl (lv_at hl 0 rfl) ?_
          refine mr_getR C hw kc_19 87 (by decide) tf_732 ff_732_87 wd_2868 dX19_send_153 (by decide) rfl ?_
          refine lv_iconst (v := 3) C.1.1 C.1.2.1 dX19_send_156 (by decide) ?_
          refine lv_aload_n C.1.1 C.1.2.1 dX19_send_157 rfl (lv_at hl 0 rfl) ?_
          refine mr_getR C hw kc_19 74 (by decide) tf_732 ff_732_74 wd_2855 dX19_send_158 (by decide) rfl ?_
          refine lv_iload_n C.1.1 C.1.2.1 dX19_send_161 rfl (lv_at hl 1 rfl) ?_
          obtain ⟨q22, hD⟩ := g_ck hD
          refine mr_iald C hw (by decide) tf_785 q22 dX19_send_162 ?_
          refine lv_sipush (v := 255) C.1.1 C.1.2.1 dX19_send_163 (by decide) ?_
          refine lv_iand C.1.1 C.1.2.1 dX19_send_166 ?_
          obtain ⟨M24, eM24, hD⟩ := g_let hD
          refine mr_iast C hw (by decide) tf_926 (show vp_in 3 8 from by unfold vp_in; decide) dX19_send_167 (fun H locs hw => ?_)
          replace hw : mw_W G ad NF TF FF M24 L H locs := by rw [eM24]; exact hw
          refine lv_aload_n C.1.1 C.1.2.1 dX19_send_168 rfl (lv_at hl 0 rfl) ?_
          refine lv_iload_n C.1.1 C.1.2.1 dX19_send_169 rfl (lv_at hl 1 rfl) ?_
          refine lv_aload_n C.1.1 C.1.2.1 dX19_send_170 rfl (lv_at hl 0 rfl) ?_
          refine mr_getR C hw kc_19 74 (by decide) tf_732 ff_732_74 wd_2855 dX19_send_171 (by decide) rfl ?_
          refine lv_iload_n C.1.1 C.1.2.1 dX19_send_174 rfl (lv_at hl 1 rfl) ?_
          obtain ⟨q25, hD⟩ := g_ck hD
          refine mr_iald C hw (by decide) tf_785 q25 dX19_send_175 ?_
          refine lv_i2l C.1.1 C.1.2.1 dX19_send_176 rfl ?_
          obtain ⟨M26, L27, h1, hD⟩ := g_b2 hD
          refine md_cvV (As := [.int a1, .long ((M24 785 a1.toNatClampNeg).toInt64)]) (rest := []) C hw (tX19_codeOf l G ad fu a1 ((M24 785 a1.toNatClampNeg).toInt64) M24 L h1) kc_19 (by decide) tf_732 wd_3574 cwX19_codeOf ⟨Nat.le_of_ble_eq_true rfl, Nat.le_of_ble_eq_true rfl⟩ rfl hl.1 (Nat.le_of_ble_eq_true rfl) dX19_send_177 rfl rfl ⟨Nat.zero_le _, Nat.zero_le _⟩ rfl (fun H locs hw => ?_)
          refine lv_iconst (v := 0) C.1.1 C.1.2.1 dX19_send_180 (by decide) ?_
          refine lv_istore (lv' := [(4, .int 0), (0, .ref (ad 732)), (1, .int a1), (2, .ref (ad v2)), (3, .int v3)]) C.1.1 C.1.2.1 dX19_send_181 hl (by decide) rfl (fun ls hl => ?_)
          exact hh183 fu 0 M26 L27 _ _ ls hD hw (lv_sub hl [1, 2, 0] rfl)
      · replace hD := g_neg c16 hD
        refine lv_aload_n C.1.1 C.1.2.1 dX19_send_94 rfl (lv_at hl 0 rfl) ?_
        refine mr_getR C hw kc_19 87 (by decide) tf_732 ff_732_87 wd_2868 dX19_send_95 (by decide) rfl ?_
        refine lv_iload C.1.1 C.1.2.1 dX19_send_98 (lv_at hl 4 rfl) ?_
        refine lv_iload C.1.1 C.1.2.1 dX19_send_100 (lv_at hl 4 rfl) ?_
        refine lv_iload_n C.1.1 C.1.2.1 dX19_send_102 rfl (lv_at hl 3 rfl) ?_
        refine lv_icmp_ge (tgt := 125) C.1.1 C.1.2.1 dX19_send_103 (by decide) (fun c28 => ?_) (fun c28 => ?_)
        · replace hD := g_pos c28 hD
          refine lv_iconst (v := 0) C.1.1 C.1.2.1 dX19_send_125 (by decide) ?_
          exact hb126 v2 v3 v4 v4 0 M L _ _ ls hD hv2 hw (lv_sub hl [0, 1, 2, 3, 4] rfl)
        · replace hD := g_neg c28 hD
          refine lv_aload_n C.1.1 C.1.2.1 dX19_send_106 rfl (lv_at hl 2 rfl) ?_
          refine lv_aload_n C.1.1 C.1.2.1 dX19_send_107 rfl (lv_at hl 0 rfl) ?_
          refine mr_getR C hw kc_19 70 (by decide) tf_732 ff_732_70 wd_2851 dX19_send_108 (by decide) rfl ?_
          refine lv_iload_n C.1.1 C.1.2.1 dX19_send_111 rfl (lv_at hl 1 rfl) ?_
          obtain ⟨q29, hD⟩ := g_ck hD
          refine mr_iald C hw (by decide) tf_781 q29 dX19_send_112 ?_
          refine lv_iload C.1.1 C.1.2.1 dX19_send_113 (lv_at hl 4 rfl) ?_
          obtain ⟨r32, M30, L31, h1, hD⟩ := g_b3 hD
          refine md_cvI (As := [.int (M 781 a1.toNatClampNeg), .int v4]) (rest := [.int v4, .ref (ad 926)]) C hw (tX16_octet l G ad fu v2 (M 781 a1.toNatClampNeg) v4 M L h1 hv2) kc_16 (Mp_N0 hv2) (Mp_T0 hv2) wd_3566 cwX16_octet ⟨Nat.le_of_ble_eq_true rfl, Nat.le_of_ble_eq_true rfl⟩ rfl hl.1 (Nat.le_of_ble_eq_true rfl) dX19_send_115 rfl rfl ⟨Nat.zero_le _, Nat.zero_le _⟩ rfl (fun H locs hw => ?_)
          refine lv_sipush (v := 255) C.1.1 C.1.2.1 dX19_send_118 (by decide) ?_
          refine lv_iand C.1.1 C.1.2.1 dX19_send_121 ?_
          refine lv_goto (tgt := 126) C.1.1 C.1.2.1 dX19_send_122 (by decide) ?_
          exact hb126 v2 v3 v4 v4 (r32 &&& 255) M30 L31 _ _ ls hD hv2 hw (lv_sub hl [0, 1, 2, 3, 4] rfl)
  have hb83 : ∀ (v2 : Nat) (s0 : Int32) (M : mwM) (L : mwL) (H : Heap) (locs : List Loc) (ls : Array Slot), fX19_send_b83 fu a1 v2 s0 M L = some (M0, L0) → isMp v2 → mw_W G ad NF TF FF M L H locs → lv_has ls 5 [(0, .ref (ad 732)), (1, .int a1), (2, .ref (ad v2))] → W p l e ({ frames := 6, cells := 0, slots := 0, locals := 150 }) s m [.ref (ad 732), .int a1].toArray below meth c H locs 0 0 (MQ below (mw_Qv G ad NF TF FF (mw_eqV M0 L0)) [.ref (ad 732), .int a1].toArray s 0 0 (mw_fr G)) (F0 m 83 ls [.int s0]) := by
    intro v2 s0 M L H locs ls hD hv2 hw hl
    unfold fX19_send_b83 at hD
    refine lv_istore_n (lv' := [(3, .int s0), (0, .ref (ad 732)), (1, .int a1), (2, .ref (ad v2))]) C.1.1 C.1.2.1 dX19_send_83 rfl hl (by decide) rfl (fun ls hl => ?_)
    refine lv_iconst (v := 0) C.1.1 C.1.2.1 dX19_send_84 (by decide) ?_
    refine lv_istore (lv' := [(4, .int 0), (3, .int s0), (0, .ref (ad 732)), (1, .int a1), (2, .ref (ad v2))]) C.1.1 C.1.2.1 dX19_send_85 hl (by decide) rfl (fun ls hl => ?_)
    exact hh87 fu v2 s0 0 M L _ _ ls hD hv2 hw (lv_sub hl [2, 3, 4, 1, 0] rfl)
  have hh14 : ∀ (f : Nat) (v2 : Nat) (v3 : Int32) (M : mwM) (L : mwL) (H : Heap) (locs : List Loc) (ls : Array Slot), fX19_send_h14 fu a1 f (v2, v3, M, L) = some (M0, L0) → isMp v2 → mw_W G ad NF TF FF M L H locs → lv_has ls 5 [(0, .ref (ad 732)), (1, .int a1), (2, .ref (ad v2)), (3, .int v3)] → W p l e ({ frames := 6, cells := 0, slots := 0, locals := 150 }) s m [.ref (ad 732), .int a1].toArray below meth c H locs 0 0 (MQ below (mw_Qv G ad NF TF FF (mw_eqV M0 L0)) [.ref (ad 732), .int a1].toArray s 0 0 (mw_fr G)) (F0 m 14 ls []) := by
    intro f
    induction f with
    | zero => intro v2 v3 M L H locs ls hD; cases hD
    | succ f14 ih14 =>
      intro v2 v3 M L H locs ls hD hv2 hw hl
      replace hD : fX19_send_i14 fu a1 (fX19_send_h14 fu a1 f14) v2 v3 M L = some (M0, L0) := hD
      have hb62 : ∀ (v2 : Nat) (v3 : Int32) (M : mwM) (L : mwL) (H : Heap) (locs : List Loc) (ls : Array Slot), fX19_send_b62 fu a1 (fX19_send_h14 fu a1 f14) v2 v3 M L = some (M0, L0) → isMp v2 → mw_W G ad NF TF FF M L H locs → lv_has ls 5 [(0, .ref (ad 732)), (1, .int a1), (2, .ref (ad v2)), (3, .int v3)] → W p l e ({ frames := 6, cells := 0, slots := 0, locals := 150 }) s m [.ref (ad 732), .int a1].toArray below meth c H locs 0 0 (MQ below (mw_Qv G ad NF TF FF (mw_eqV M0 L0)) [.ref (ad 732), .int a1].toArray s 0 0 (mw_fr G)) (F0 m 62 ls []) := by
        intro v2 v3 M L H locs ls hD hv2 hw hl
        unfold fX19_send_b62 at hD
        obtain ⟨x15, ex15, hD⟩ := g_let hD
        refine lv_iinc (v := x15) (lv' := [(3, .int x15), (0, .ref (ad 732)), (1, .int a1), (2, .ref (ad v2))]) C.1.1 C.1.2.1 dX19_send_62 hl (k := 3) rfl (by rw [ex15]; rfl) (by decide) rfl (fun ls hl => ?_)
        refine lv_goto (tgt := 14) C.1.1 C.1.2.1 dX19_send_65 (by decide) ?_
        exact ih14 v2 x15 M L _ _ ls hD hv2 hw (lv_sub hl [1, 2, 3, 0] rfl)
      unfold fX19_send_i14 at hD
      refine lv_iload_n C.1.1 C.1.2.1 dX19_send_14 rfl (lv_at hl 3 rfl) ?_
      refine lv_aload_n C.1.1 C.1.2.1 dX19_send_15 rfl (lv_at hl 0 rfl) ?_
      refine mr_getI C hw kc_19 45 (by decide) tf_732 wd_2826 dX19_send_16 (by decide) rfl ?_
      refine lv_icmp_ge (tgt := 68) C.1.1 C.1.2.1 dX19_send_19 (by decide) (fun c1 => ?_) (fun c1 => ?_)
      · replace hD := g_pos c1 hD
        refine lv_aload_n C.1.1 C.1.2.1 dX19_send_68 rfl (lv_at hl 0 rfl) ?_
        refine mr_getR C hw kc_19 72 (by decide) tf_732 ff_732_72 wd_2853 dX19_send_69 (by decide) rfl ?_
        refine lv_iload_n C.1.1 C.1.2.1 dX19_send_72 rfl (lv_at hl 1 rfl) ?_
        obtain ⟨q2, hD⟩ := g_ck hD
        refine mr_iald C hw (by decide) tf_783 q2 dX19_send_73 ?_
        refine lv_if_le (tgt := 81) C.1.1 C.1.2.1 dX19_send_74 (by decide) (fun c3 => ?_) (fun c3 => ?_)
        · replace hD := g_pos c3 hD
          refine lv_bipush (v := 8) C.1.1 C.1.2.1 dX19_send_81 (by decide) ?_
          exact hb83 v2 8 M L _ _ ls hD hv2 hw (lv_sub hl [0, 1, 2] rfl)
        · replace hD := g_neg c3 hD
          refine lv_iconst (v := 3) C.1.1 C.1.2.1 dX19_send_77 (by decide) ?_
          refine lv_goto (tgt := 83) C.1.1 C.1.2.1 dX19_send_78 (by decide) ?_
          exact hb83 v2 3 M L _ _ ls hD hv2 hw (lv_sub hl [0, 1, 2] rfl)
      · replace hD := g_neg c1 hD
        refine lv_aload_n C.1.1 C.1.2.1 dX19_send_22 rfl (lv_at hl 0 rfl) ?_
        refine mr_getR C hw kc_19 53 (by decide) tf_732 ff_732_53 wd_2834 dX19_send_23 (by decide) rfl ?_
        refine lv_iload_n C.1.1 C.1.2.1 dX19_send_26 rfl (lv_at hl 3 rfl) ?_
        obtain ⟨q4, hD⟩ := g_ck hD
        refine mr_iald C hw (by decide) tf_767 q4 dX19_send_27 ?_
        refine lv_iload_n C.1.1 C.1.2.1 dX19_send_28 rfl (lv_at hl 1 rfl) ?_
        refine lv_icmp_ne (tgt := 62) C.1.1 C.1.2.1 dX19_send_29 (by decide) (fun c5 => ?_) (fun c5 => ?_)
        · replace hD := g_neg c5 hD
          exact hb62 v2 v3 M L _ _ ls hD hv2 hw (lv_sub hl [0, 1, 2, 3] rfl)
        · replace hD := g_pos c5 hD
          refine lv_aload_n C.1.1 C.1.2.1 dX19_send_32 rfl (lv_at hl 2 rfl) ?_
          refine lv_aload_n C.1.1 C.1.2.1 dX19_send_33 rfl (lv_at hl 0 rfl) ?_
          refine mr_getR C hw kc_19 52 (by decide) tf_732 ff_732_52 wd_2833 dX19_send_34 (by decide) rfl ?_
          refine lv_iload_n C.1.1 C.1.2.1 dX19_send_37 rfl (lv_at hl 3 rfl) ?_
          obtain ⟨q6, hD⟩ := g_ck hD
          refine mr_iald C hw (by decide) tf_766 q6 dX19_send_38 ?_
          refine lv_aload_n C.1.1 C.1.2.1 dX19_send_39 rfl (lv_at hl 0 rfl) ?_
          refine mr_getR C hw kc_19 82 (by decide) tf_732 ff_732_82 wd_2863 dX19_send_40 (by decide) rfl ?_
          refine lv_aload_n C.1.1 C.1.2.1 dX19_send_43 rfl (lv_at hl 0 rfl) ?_
          refine mr_getR C hw kc_19 48 (by decide) tf_732 ff_732_48 wd_2829 dX19_send_44 (by decide) rfl ?_
          refine lv_iload_n C.1.1 C.1.2.1 dX19_send_47 rfl (lv_at hl 3 rfl) ?_
          obtain ⟨q7, hD⟩ := g_ck hD
          refine mr_iald C hw (by decide) tf_762 q7 dX19_send_48 ?_
          obtain ⟨q8, hD⟩ := g_ck hD
          refine mr_aald C hw (by decide) tf_922 (by decide) (by decide) rfl rfl q8 (fr_922 _ (g_lt q8)) dX19_send_49 ?_
          refine lv_aload_n C.1.1 C.1.2.1 dX19_send_50 rfl (lv_at hl 0 rfl) ?_
          refine mr_getR C hw kc_19 49 (by decide) tf_732 ff_732_49 wd_2830 dX19_send_51 (by decide) rfl ?_
          refine lv_iload_n C.1.1 C.1.2.1 dX19_send_54 rfl (lv_at hl 3 rfl) ?_
          obtain ⟨q9, hD⟩ := g_ck hD
          refine mr_iald C hw (by decide) tf_763 q9 dX19_send_55 ?_
          obtain ⟨r12, M10, L11, h1, hD⟩ := g_b3 hD
          refine md_cvL (As := [.int (M 763 v3.toNatClampNeg)]) (rest := [.int (M 766 v3.toNatClampNeg), .ref (ad v2)]) C hw (tX13_value l G ad fu ((964 + 53 * (M 762 v3.toNatClampNeg).toNatClampNeg)) (M 763 v3.toNatClampNeg) M L h1 (isMc_of (g_lt q8))) kc_13 (Mc_N0 (isMc_of (g_lt q8))) (Mc_T0 (isMc_of (g_lt q8))) wd_3550 cwX13_value ⟨Nat.le_of_ble_eq_true rfl, Nat.le_of_ble_eq_true rfl⟩ rfl hl.1 (Nat.le_of_ble_eq_true rfl) dX19_send_56 rfl rfl ⟨Nat.zero_le _, Nat.zero_le _⟩ rfl (fun H locs hw => ?_)
          obtain ⟨M13, L14, h1, hD⟩ := g_b2 hD
          refine md_cvV (As := [.int (M 766 v3.toNatClampNeg), .long r12]) (rest := []) C hw (tX16_put l G ad fu v2 (M 766 v3.toNatClampNeg) r12 M10 L11 h1 hv2) kc_16 (Mp_N0 hv2) (Mp_T0 hv2) wd_3554 cwX16_put ⟨Nat.le_of_ble_eq_true rfl, Nat.le_of_ble_eq_true rfl⟩ rfl hl.1 (Nat.le_of_ble_eq_true rfl) dX19_send_59 rfl rfl ⟨Nat.zero_le _, Nat.zero_le _⟩ rfl (fun H locs hw => ?_)
          exact hb62 v2 v3 M13 L14 _ _ ls hD hv2 hw (lv_sub hl [0, 1, 2, 3] rfl)
  unfold DX19_send at hD
  refine lv_aload_n C.1.1 C.1.2.1 dX19_send_0 rfl (lv_at hl 0 rfl) ?_
  refine mr_getR C hw kc_19 81 (by decide) tf_732 ff_732_81 wd_2862 dX19_send_1 (by decide) rfl ?_
  refine lv_aload_n C.1.1 C.1.2.1 dX19_send_4 rfl (lv_at hl 0 rfl) ?_
  refine mr_getR C hw kc_19 69 (by decide) tf_732 ff_732_69 wd_2850 dX19_send_5 (by decide) rfl ?_
  refine lv_iload_n C.1.1 C.1.2.1 dX19_send_8 rfl (lv_at hl 1 rfl) ?_
  obtain ⟨q48, hD⟩ := g_ck hD
  refine mr_iald C hw (by decide) tf_780 q48 dX19_send_9 ?_
  obtain ⟨q49, hD⟩ := g_ck hD
  refine mr_aald C hw (by decide) tf_921 (by decide) (by decide) rfl rfl q49 (fr_921 _ (g_lt q49)) dX19_send_10 ?_
  refine lv_astore_n (lv' := [(2, .ref (ad ((941 + 53 * (M 780 a1.toNatClampNeg).toNatClampNeg) + 0))), (0, .ref (ad 732)), (1, .int a1)]) C.1.1 C.1.2.1 dX19_send_11 rfl hl (by decide) rfl (fun ls hl => ?_)
  refine lv_iconst (v := 0) C.1.1 C.1.2.1 dX19_send_12 (by decide) ?_
  refine lv_istore_n (lv' := [(3, .int 0), (2, .ref (ad ((941 + 53 * (M 780 a1.toNatClampNeg).toNatClampNeg) + 0))), (0, .ref (ad 732)), (1, .int a1)]) C.1.1 C.1.2.1 dX19_send_13 rfl hl (by decide) rfl (fun ls hl => ?_)
  exact hh14 fu (((941 + 53 * (M 780 a1.toNatClampNeg).toNatClampNeg) + 0)) 0 M L _ _ ls hD (isMp_of (g_lt q49)) hw (lv_sub hl [2, 3, 1, 0] rfl)

theorem dX19_right_0 : decode cX19_right 0 = .ok (.aload_n 0, 1) := by decide +kernel
theorem dX19_right_1 : decode cX19_right 1 = .ok (.getfield 162, 3) := by decide +kernel
theorem dX19_right_4 : decode cX19_right 4 = .ok (.iload_n 2, 1) := by decide +kernel
theorem dX19_right_5 : decode cX19_right 5 = .ok (.iaload, 1) := by decide +kernel
theorem dX19_right_6 : decode cX19_right 6 = .ok (.ifCond .ne 5, 3) := by decide +kernel
theorem dX19_right_9 : decode cX19_right 9 = .ok (.iconst 1, 1) := by decide +kernel
theorem dX19_right_10 : decode cX19_right 10 = .ok (.ireturn, 1) := by decide +kernel
theorem dX19_right_11 : decode cX19_right 11 = .ok (.aload_n 0, 1) := by decide +kernel
theorem dX19_right_12 : decode cX19_right 12 = .ok (.getfield 171, 3) := by decide +kernel
theorem dX19_right_15 : decode cX19_right 15 = .ok (.bipush 6, 2) := by decide +kernel
theorem dX19_right_17 : decode cX19_right 17 = .ok (.iload_n 2, 1) := by decide +kernel
theorem dX19_right_18 : decode cX19_right 18 = .ok (.imul, 1) := by decide +kernel
theorem dX19_right_19 : decode cX19_right 19 = .ok (.iload_n 1, 1) := by decide +kernel
theorem dX19_right_20 : decode cX19_right 20 = .ok (.iadd, 1) := by decide +kernel
theorem dX19_right_21 : decode cX19_right 21 = .ok (.laload, 1) := by decide +kernel
theorem dX19_right_22 : decode cX19_right 22 = .ok (.lstore_n 3, 1) := by decide +kernel
theorem dX19_right_23 : decode cX19_right 23 = .ok (.aload_n 0, 1) := by decide +kernel
theorem dX19_right_24 : decode cX19_right 24 = .ok (.getfield 230, 3) := by decide +kernel
theorem dX19_right_27 : decode cX19_right 27 = .ok (.iconst 3, 1) := by decide +kernel
theorem dX19_right_28 : decode cX19_right 28 = .ok (.iaload, 1) := by decide +kernel
theorem dX19_right_29 : decode cX19_right 29 = .ok (.i2l, 1) := by decide +kernel
theorem dX19_right_30 : decode cX19_right 30 = .ok (.lload_n 3, 1) := by decide +kernel
theorem dX19_right_31 : decode cX19_right 31 = .ok (.ldc2_w 695, 3) := by decide +kernel
theorem dX19_right_34 : decode cX19_right 34 = .ok (.land, 1) := by decide +kernel
theorem dX19_right_35 : decode cX19_right 35 = .ok (.lsub, 1) := by decide +kernel
theorem dX19_right_36 : decode cX19_right 36 = .ok (.ldc2_w 325, 3) := by decide +kernel
theorem dX19_right_39 : decode cX19_right 39 = .ok (.ladd, 1) := by decide +kernel
theorem dX19_right_40 : decode cX19_right 40 = .ok (.ldc2_w 325, 3) := by decide +kernel
theorem dX19_right_43 : decode cX19_right 43 = .ok (.lrem, 1) := by decide +kernel
theorem dX19_right_44 : decode cX19_right 44 = .ok (.lstore 5, 2) := by decide +kernel
theorem dX19_right_46 : decode cX19_right 46 = .ok (.lload 5, 2) := by decide +kernel
theorem dX19_right_48 : decode cX19_right 48 = .ok (.lconst 1, 1) := by decide +kernel
theorem dX19_right_49 : decode cX19_right 49 = .ok (.lcmp, 1) := by decide +kernel
theorem dX19_right_50 : decode cX19_right 50 = .ok (.ifCond .lt 12, 3) := by decide +kernel
theorem dX19_right_53 : decode cX19_right 53 = .ok (.lload 5, 2) := by decide +kernel
theorem dX19_right_55 : decode cX19_right 55 = .ok (.ldc2_w 697, 3) := by decide +kernel
theorem dX19_right_58 : decode cX19_right 58 = .ok (.lcmp, 1) := by decide +kernel
theorem dX19_right_59 : decode cX19_right 59 = .ok (.ifCond .le 5, 3) := by decide +kernel
theorem dX19_right_62 : decode cX19_right 62 = .ok (.iconst 0, 1) := by decide +kernel
theorem dX19_right_63 : decode cX19_right 63 = .ok (.ireturn, 1) := by decide +kernel
theorem dX19_right_64 : decode cX19_right 64 = .ok (.aload_n 0, 1) := by decide +kernel
theorem dX19_right_65 : decode cX19_right 65 = .ok (.iload_n 2, 1) := by decide +kernel
theorem dX19_right_66 : decode cX19_right 66 = .ok (.lload_n 3, 1) := by decide +kernel
theorem dX19_right_67 : decode cX19_right 67 = .ok (.lload 5, 2) := by decide +kernel
theorem dX19_right_69 : decode cX19_right 69 = .ok (.ladd, 1) := by decide +kernel
theorem dX19_right_70 : decode cX19_right 70 = .ok (.invokevirtual 672, 3) := by decide +kernel
theorem dX19_right_73 : decode cX19_right 73 = .ok (.iconst 0, 1) := by decide +kernel
theorem dX19_right_74 : decode cX19_right 74 = .ok (.istore 7, 2) := by decide +kernel
theorem dX19_right_76 : decode cX19_right 76 = .ok (.iload 7, 2) := by decide +kernel
theorem dX19_right_78 : decode cX19_right 78 = .ok (.iconst 4, 1) := by decide +kernel
theorem dX19_right_79 : decode cX19_right 79 = .ok (.if_icmp .ge 36, 3) := by decide +kernel
theorem dX19_right_82 : decode cX19_right 82 = .ok (.aload_n 0, 1) := by decide +kernel
theorem dX19_right_83 : decode cX19_right 83 = .ok (.getfield 191, 3) := by decide +kernel
theorem dX19_right_86 : decode cX19_right 86 = .ok (.iload 7, 2) := by decide +kernel
theorem dX19_right_88 : decode cX19_right 88 = .ok (.invokevirtual 675, 3) := by decide +kernel
theorem dX19_right_91 : decode cX19_right 91 = .ok (.sipush 255, 3) := by decide +kernel
theorem dX19_right_94 : decode cX19_right 94 = .ok (.iand, 1) := by decide +kernel
theorem dX19_right_95 : decode cX19_right 95 = .ok (.aload_n 0, 1) := by decide +kernel
theorem dX19_right_96 : decode cX19_right 96 = .ok (.getfield 230, 3) := by decide +kernel
theorem dX19_right_99 : decode cX19_right 99 = .ok (.iconst 4, 1) := by decide +kernel
theorem dX19_right_100 : decode cX19_right 100 = .ok (.iload 7, 2) := by decide +kernel
theorem dX19_right_102 : decode cX19_right 102 = .ok (.iadd, 1) := by decide +kernel
theorem dX19_right_103 : decode cX19_right 103 = .ok (.iaload, 1) := by decide +kernel
theorem dX19_right_104 : decode cX19_right 104 = .ok (.if_icmp .eq 5, 3) := by decide +kernel
theorem dX19_right_107 : decode cX19_right 107 = .ok (.iconst 0, 1) := by decide +kernel
theorem dX19_right_108 : decode cX19_right 108 = .ok (.ireturn, 1) := by decide +kernel
theorem dX19_right_109 : decode cX19_right 109 = .ok (.iinc 7 1, 3) := by decide +kernel
theorem dX19_right_112 : decode cX19_right 112 = .ok (.goto (-36), 3) := by decide +kernel
theorem dX19_right_115 : decode cX19_right 115 = .ok (.aload_n 0, 1) := by decide +kernel
theorem dX19_right_116 : decode cX19_right 116 = .ok (.getfield 171, 3) := by decide +kernel
theorem dX19_right_119 : decode cX19_right 119 = .ok (.bipush 6, 2) := by decide +kernel
theorem dX19_right_121 : decode cX19_right 121 = .ok (.iload_n 2, 1) := by decide +kernel
theorem dX19_right_122 : decode cX19_right 122 = .ok (.imul, 1) := by decide +kernel
theorem dX19_right_123 : decode cX19_right 123 = .ok (.iload_n 1, 1) := by decide +kernel
theorem dX19_right_124 : decode cX19_right 124 = .ok (.iadd, 1) := by decide +kernel
theorem dX19_right_125 : decode cX19_right 125 = .ok (.lload_n 3, 1) := by decide +kernel
theorem dX19_right_126 : decode cX19_right 126 = .ok (.lload 5, 2) := by decide +kernel
theorem dX19_right_128 : decode cX19_right 128 = .ok (.ladd, 1) := by decide +kernel
theorem dX19_right_129 : decode cX19_right 129 = .ok (.lastore, 1) := by decide +kernel
theorem dX19_right_130 : decode cX19_right 130 = .ok (.iconst 1, 1) := by decide +kernel
theorem dX19_right_131 : decode cX19_right 131 = .ok (.ireturn, 1) := by decide +kernel
theorem cwX19_right : mw_cwV yX19_right cX19_right 8 ((some .boolean)) 2 := ⟨⟨wd_13, wd_3877, by decide +kernel⟩, wd_3876, sl_280⟩
noncomputable def fX19_right_b62 (fu : Nat) (a1 : Int32) (a2 : Int32) (M : mwM) (L : mwL) : Option (Int32 × mwM × mwL) :=
  some (0, M, L)
noncomputable def fX19_right_i76 (fu : Nat) (a1 : Int32) (a2 : Int32) (r76 : (Int64 × Int64 × Int32 × mwM × mwL) → Option (Int32 × mwM × mwL)) (v3 : Int64) (v5 : Int64) (v7 : Int32) (M : mwM) (L : mwL) : Option (Int32 × mwM × mwL) :=
  (if 4 ≤ v7 then mck ((6 * a2) + a1) 240 (mlet (mset L 786 (((6 * a2) + a1).toNatClampNeg) (v3 + v5)) (fun L3 => some (1, M, L3))) else mb3 (DX14_out fu v7 M L) (fun r6 M4 L5 => mck (4 + v7) 8 ((if (r6 &&& 255) = (M4 926 (4 + v7).toNatClampNeg) then mlet (v7 + 1) (fun x9 => r76 (v3, v5, x9, M4, L5)) else some (0, M4, L5)))))
noncomputable def fX19_right_h76 (fu : Nat) (a1 : Int32) (a2 : Int32) : Nat → (Int64 × Int64 × Int32 × mwM × mwL) → Option (Int32 × mwM × mwL) := mloop (fun r76 s => fX19_right_i76 fu a1 a2 r76 s.1 s.2.1 s.2.2.1 s.2.2.2.1 s.2.2.2.2)
noncomputable def DX19_right (fu : Nat) (a1 : Int32) (a2 : Int32) (M : mwM) (L : mwL) : Option (Int32 × mwM × mwL) :=
  mck a2 40 ((if (M 783 a2.toNatClampNeg) = 0 then some (1, M, L) else mck ((6 * a2) + a1) 240 (mlet (L 786 ((6 * a2) + a1).toNatClampNeg) (fun x13 => mnzL 256 (mlet (((((M 926 (3 : Int32).toNatClampNeg).toInt64) - (x13 &&& 255)) + 256) - ((((M 926 (3 : Int32).toNatClampNeg).toInt64) - (x13 &&& 255)) + 256) / 256 * 256) (fun x16 => (if (lg_cmp x16 1) < 0 then fX19_right_b62 fu a1 a2 M L else (if (lg_cmp x16 64) ≤ 0 then mb2 (DX19_codeOf fu a2 (x13 + x16) M L) (fun M19 L20 => fX19_right_h76 fu a1 a2 fu (x13, x16, 0, M19, L20)) else fX19_right_b62 fu a1 a2 M L))))))))
set_option maxHeartbeats 4000000 in
set_option maxRecDepth 100000 in
theorem tX19_right (l : Launch) (G : mwG) (ad : Nat → Nat) (fu : Nat) (a1 : Int32) (a2 : Int32) (M : mwM) (L : mwL) {r0 : Int32} {M0 : mwM} {L0 : mwL} (hD : DX19_right fu a1 a2 M L = some (r0, M0, L0)) : Met l yX19_right (Cond.code yX19_right cX19_right 8 ((some .boolean)) :: GT) ({ frames := 6, cells := 0, slots := 0, locals := 150 }) (mw_Pre G ad NF TF FF M L [.ref (ad 732), .int a1, .int a2]) (mw_Qi G ad NF TF FF (mw_eqI r0 M0 L0)) 0 0 (mw_fr G) := by
  refine mw_enter (by decide) (Nat.le_of_ble_eq_true rfl) ?_
  intro p e s m below meth c ls C hr hlocks hnm hw hl
  have hl : lv_has ls 8 [(0, .ref (ad 732)), (1, .int a1), (2, .int a2)] := hl
  have hb62 : ∀ (M : mwM) (L : mwL) (H : Heap) (locs : List Loc) (ls : Array Slot), fX19_right_b62 fu a1 a2 M L = some (r0, M0, L0) → mw_W G ad NF TF FF M L H locs → lv_has ls 8 [] → W p l e ({ frames := 6, cells := 0, slots := 0, locals := 150 }) s m [.ref (ad 732), .int a1, .int a2].toArray below meth c H locs 0 0 (MQ below (mw_Qi G ad NF TF FF (mw_eqI r0 M0 L0)) [.ref (ad 732), .int a1, .int a2].toArray s 0 0 (mw_fr G)) (F0 m 62 ls []) := by
    intro M L H locs ls hD hw hl
    unfold fX19_right_b62 at hD
    refine lv_iconst (v := 0) C.1.1 C.1.2.1 dX19_right_62 (by decide) ?_
    exact mr_iret C hr hlocks hw (by decide +kernel) (Option.some.inj hD) dX19_right_63
  have hh76 : ∀ (f : Nat) (v3 : Int64) (v5 : Int64) (v7 : Int32) (M : mwM) (L : mwL) (H : Heap) (locs : List Loc) (ls : Array Slot), fX19_right_h76 fu a1 a2 f (v3, v5, v7, M, L) = some (r0, M0, L0) → mw_W G ad NF TF FF M L H locs → lv_has ls 8 [(0, .ref (ad 732)), (1, .int a1), (2, .int a2), (3, .long v3), (5, .long v5), (7, .int v7)] → W p l e ({ frames := 6, cells := 0, slots := 0, locals := 150 }) s m [.ref (ad 732), .int a1, .int a2].toArray below meth c H locs 0 0 (MQ below (mw_Qi G ad NF TF FF (mw_eqI r0 M0 L0)) [.ref (ad 732), .int a1, .int a2].toArray s 0 0 (mw_fr G)) (F0 m 76 ls []) := by
    intro f
    induction f with
    | zero => intro v3 v5 v7 M L H locs ls hD; cases hD
    | succ f76 ih76 =>
      intro v3 v5 v7 M L H locs ls hD hw hl
      replace hD : fX19_right_i76 fu a1 a2 (fX19_right_h76 fu a1 a2 f76) v3 v5 v7 M L = some (r0, M0, L0) := hD
      unfold fX19_right_i76 at hD
      refine lv_iload C.1.1 C.1.2.1 dX19_right_76 (lv_at hl 5 rfl) ?_
      refine lv_iconst (v := 4) C.1.1 C.1.2.1 dX19_right_78 (by decide) ?_
      refine lv_icmp_ge (tgt := 115) C.1.1 C.1.2.1 dX19_right_79 (by decide) (fun c1 => ?_) (fun c1 => ?_)
      · replace hD := g_pos c1 hD
        refine lv_aload_n C.1.1 C.1.2.1 dX19_right_115 rfl (lv_at hl 0 rfl) ?_
        refine mr_getR C hw kc_19 75 (by decide) tf_732 ff_732_75 wd_2856 dX19_right_116 (by decide) rfl ?_
        refine lv_bipush (v := 6) C.1.1 C.1.2.1 dX19_right_119 (by decide) ?_
        refine lv_iload_n C.1.1 C.1.2.1 dX19_right_121 rfl (lv_at hl 2 rfl) ?_
        refine lv_imul C.1.1 C.1.2.1 dX19_right_122 ?_
        refine lv_iload_n C.1.1 C.1.2.1 dX19_right_123 rfl (lv_at hl 1 rfl) ?_
        refine lv_iadd C.1.1 C.1.2.1 dX19_right_124 ?_
        refine lv_lload_n C.1.1 C.1.2.1 dX19_right_125 rfl (lv_at hl 3 rfl) ?_
        refine lv_lload C.1.1 C.1.2.1 dX19_right_126 (lv_at hl 4 rfl) ?_
        refine lv_ladd C.1.1 C.1.2.1 dX19_right_128 ?_
        obtain ⟨q2, hD⟩ := g_ck hD
        obtain ⟨L3, eL3, hD⟩ := g_let hD
        refine mr_last C hw (by decide) tf_786 q2 dX19_right_129 (fun H locs hw => ?_)
        replace hw : mw_W G ad NF TF FF M L3 H locs := by rw [eL3]; exact hw
        refine lv_iconst (v := 1) C.1.1 C.1.2.1 dX19_right_130 (by decide) ?_
        exact mr_iret C hr hlocks hw (by decide +kernel) (Option.some.inj hD) dX19_right_131
      · replace hD := g_neg c1 hD
        refine lv_aload_n C.1.1 C.1.2.1 dX19_right_82 rfl (lv_at hl 0 rfl) ?_
        refine mr_getR C hw kc_19 78 (by decide) tf_732 ff_732_78 wd_2859 dX19_right_83 (by decide) rfl ?_
        refine lv_iload C.1.1 C.1.2.1 dX19_right_86 (lv_at hl 5 rfl) ?_
        obtain ⟨r6, M4, L5, h1, hD⟩ := g_b3 hD
        refine md_cvI (As := [.int v7]) (rest := []) C hw (tX14_out l G ad fu v7 M L h1) kc_14 (by decide) tf_854 wd_3610 cwX14_out ⟨Nat.le_of_ble_eq_true rfl, Nat.le_of_ble_eq_true rfl⟩ rfl hl.1 (Nat.le_of_ble_eq_true rfl) dX19_right_88 rfl rfl ⟨Nat.zero_le _, Nat.zero_le _⟩ rfl (fun H locs hw => ?_)
        refine lv_sipush (v := 255) C.1.1 C.1.2.1 dX19_right_91 (by decide) ?_
        refine lv_iand C.1.1 C.1.2.1 dX19_right_94 ?_
        refine lv_aload_n C.1.1 C.1.2.1 dX19_right_95 rfl (lv_at hl 0 rfl) ?_
        refine mr_getR C hw kc_19 87 (by decide) tf_732 ff_732_87 wd_2868 dX19_right_96 (by decide) rfl ?_
        refine lv_iconst (v := 4) C.1.1 C.1.2.1 dX19_right_99 (by decide) ?_
        refine lv_iload C.1.1 C.1.2.1 dX19_right_100 (lv_at hl 5 rfl) ?_
        refine lv_iadd C.1.1 C.1.2.1 dX19_right_102 ?_
        obtain ⟨q7, hD⟩ := g_ck hD
        refine mr_iald C hw (by decide) tf_926 q7 dX19_right_103 ?_
        refine lv_icmp_eq (tgt := 109) C.1.1 C.1.2.1 dX19_right_104 (by decide) (fun c8 => ?_) (fun c8 => ?_)
        · replace hD := g_pos c8 hD
          obtain ⟨x9, ex9, hD⟩ := g_let hD
          refine lv_iinc (v := x9) (lv' := [(7, .int x9), (0, .ref (ad 732)), (1, .int a1), (2, .int a2), (3, .long v3), (5, .long v5)]) C.1.1 C.1.2.1 dX19_right_109 hl (k := 5) rfl (by rw [ex9]; rfl) (by decide) rfl (fun ls hl => ?_)
          refine lv_goto (tgt := 76) C.1.1 C.1.2.1 dX19_right_112 (by decide) ?_
          exact ih76 v3 v5 x9 M4 L5 _ _ ls hD hw (lv_sub hl [1, 2, 3, 4, 5, 0] rfl)
        · replace hD := g_neg c8 hD
          refine lv_iconst (v := 0) C.1.1 C.1.2.1 dX19_right_107 (by decide) ?_
          exact mr_iret C hr hlocks hw (by decide +kernel) (Option.some.inj hD) dX19_right_108
  unfold DX19_right at hD
  refine lv_aload_n C.1.1 C.1.2.1 dX19_right_0 rfl (lv_at hl 0 rfl) ?_
  refine mr_getR C hw kc_19 72 (by decide) tf_732 ff_732_72 wd_2853 dX19_right_1 (by decide) rfl ?_
  refine lv_iload_n C.1.1 C.1.2.1 dX19_right_4 rfl (lv_at hl 2 rfl) ?_
  obtain ⟨q10, hD⟩ := g_ck hD
  refine mr_iald C hw (by decide) tf_783 q10 dX19_right_5 ?_
  refine lv_if_ne (tgt := 11) C.1.1 C.1.2.1 dX19_right_6 (by decide) (fun c11 => ?_) (fun c11 => ?_)
  · replace hD := g_neg c11 hD
    refine lv_aload_n C.1.1 C.1.2.1 dX19_right_11 rfl (lv_at hl 0 rfl) ?_
    refine mr_getR C hw kc_19 75 (by decide) tf_732 ff_732_75 wd_2856 dX19_right_12 (by decide) rfl ?_
    refine lv_bipush (v := 6) C.1.1 C.1.2.1 dX19_right_15 (by decide) ?_
    refine lv_iload_n C.1.1 C.1.2.1 dX19_right_17 rfl (lv_at hl 2 rfl) ?_
    refine lv_imul C.1.1 C.1.2.1 dX19_right_18 ?_
    refine lv_iload_n C.1.1 C.1.2.1 dX19_right_19 rfl (lv_at hl 1 rfl) ?_
    refine lv_iadd C.1.1 C.1.2.1 dX19_right_20 ?_
    obtain ⟨q12, hD⟩ := g_ck hD
    refine mr_lald C hw (by decide) tf_786 q12 dX19_right_21 ?_
    obtain ⟨x13, ex13, hD⟩ := g_let hD
    refine W.eq (g2 := F0 m 22 ls (.long x13 :: [])) (by rw [ex13]) ?_
    refine lv_lstore_n (lv' := [(3, .long x13), (0, .ref (ad 732)), (1, .int a1), (2, .int a2)]) C.1.1 C.1.2.1 dX19_right_22 rfl hl (by decide) rfl (fun ls hl => ?_)
    refine lv_aload_n C.1.1 C.1.2.1 dX19_right_23 rfl (lv_at hl 1 rfl) ?_
    refine mr_getR C hw kc_19 87 (by decide) tf_732 ff_732_87 wd_2868 dX19_right_24 (by decide) rfl ?_
    refine lv_iconst (v := 3) C.1.1 C.1.2.1 dX19_right_27 (by decide) ?_
    refine mr_iald C hw (by decide) tf_926 (show vp_in 3 8 from by unfold vp_in; decide) dX19_right_28 ?_
    refine lv_i2l C.1.1 C.1.2.1 dX19_right_29 rfl ?_
    refine lv_lload_n C.1.1 C.1.2.1 dX19_right_30 rfl (lv_at hl 0 rfl) ?_
    refine lv_ldc2 (v := 255) C.1.1 C.1.2.1 C.1.2.2.2.1 (C.1.2.2.2.2 _ wd_3878) dX19_right_31 ?_
    refine lv_land C.1.1 C.1.2.1 dX19_right_34 ?_
    refine lv_lsub C.1.1 C.1.2.1 dX19_right_35 ?_
    refine lv_ldc2 (v := 256) C.1.1 C.1.2.1 C.1.2.2.2.1 (C.1.2.2.2.2 _ wd_3159) dX19_right_36 ?_
    refine lv_ladd C.1.1 C.1.2.1 dX19_right_39 ?_
    refine lv_ldc2 (v := 256) C.1.1 C.1.2.1 C.1.2.2.2.1 (C.1.2.2.2.2 _ wd_3159) dX19_right_40 ?_
    obtain ⟨q15, hD⟩ := g_nzL hD
    refine lv_lrem C.1.1 C.1.2.1 dX19_right_43 q15 ?_
    obtain ⟨x16, ex16, hD⟩ := g_let hD
    refine W.eq (g2 := F0 m 44 ls (.long x16 :: [])) (by rw [ex16]) ?_
    refine lv_lstore (lv' := [(5, .long x16), (3, .long x13), (0, .ref (ad 732)), (1, .int a1), (2, .int a2)]) C.1.1 C.1.2.1 dX19_right_44 hl (by decide) rfl (fun ls hl => ?_)
    refine lv_lload C.1.1 C.1.2.1 dX19_right_46 (lv_at hl 0 rfl) ?_
    refine lv_lconst (v := 1) C.1.1 C.1.2.1 dX19_right_48 (by decide) ?_
    refine W.lcmp C.1.1 C.1.2.1 dX19_right_49 ?_
    refine lv_if_lt (tgt := 62) C.1.1 C.1.2.1 dX19_right_50 (by decide) (fun c17 => ?_) (fun c17 => ?_)
    · replace hD := g_pos c17 hD
      exact hb62 M L _ _ ls hD hw (lv_sub hl [] rfl)
    · replace hD := g_neg c17 hD
      refine lv_lload C.1.1 C.1.2.1 dX19_right_53 (lv_at hl 0 rfl) ?_
      refine lv_ldc2 (v := 64) C.1.1 C.1.2.1 C.1.2.2.2.1 (C.1.2.2.2.2 _ wd_3879) dX19_right_55 ?_
      refine W.lcmp C.1.1 C.1.2.1 dX19_right_58 ?_
      refine lv_if_le (tgt := 64) C.1.1 C.1.2.1 dX19_right_59 (by decide) (fun c18 => ?_) (fun c18 => ?_)
      · replace hD := g_pos c18 hD
        refine lv_aload_n C.1.1 C.1.2.1 dX19_right_64 rfl (lv_at hl 2 rfl) ?_
        refine lv_iload_n C.1.1 C.1.2.1 dX19_right_65 rfl (lv_at hl 4 rfl) ?_
        refine lv_lload_n C.1.1 C.1.2.1 dX19_right_66 rfl (lv_at hl 1 rfl) ?_
        refine lv_lload C.1.1 C.1.2.1 dX19_right_67 (lv_at hl 0 rfl) ?_
        refine lv_ladd C.1.1 C.1.2.1 dX19_right_69 ?_
        obtain ⟨M19, L20, h1, hD⟩ := g_b2 hD
        refine md_cvV (As := [.int a2, .long (x13 + x16)]) (rest := []) C hw (tX19_codeOf l G ad fu a2 (x13 + x16) M L h1) kc_19 (by decide) tf_732 wd_3574 cwX19_codeOf ⟨Nat.le_of_ble_eq_true rfl, Nat.le_of_ble_eq_true rfl⟩ rfl hl.1 (Nat.le_of_ble_eq_true rfl) dX19_right_70 rfl rfl ⟨Nat.zero_le _, Nat.zero_le _⟩ rfl (fun H locs hw => ?_)
        refine lv_iconst (v := 0) C.1.1 C.1.2.1 dX19_right_73 (by decide) ?_
        refine lv_istore (lv' := [(7, .int 0), (5, .long x16), (3, .long x13), (0, .ref (ad 732)), (1, .int a1), (2, .int a2)]) C.1.1 C.1.2.1 dX19_right_74 hl (by decide) rfl (fun ls hl => ?_)
        exact hh76 fu x13 x16 0 M19 L20 _ _ ls hD hw (lv_sub hl [3, 4, 5, 2, 1, 0] rfl)
      · replace hD := g_neg c18 hD
        exact hb62 M L _ _ ls hD hw (lv_sub hl [] rfl)
  · replace hD := g_pos c11 hD
    refine lv_iconst (v := 1) C.1.1 C.1.2.1 dX19_right_9 (by decide) ?_
    exact mr_iret C hr hlocks hw (by decide +kernel) (Option.some.inj hD) dX19_right_10
