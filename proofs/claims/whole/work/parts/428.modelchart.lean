theorem dX13_event_0 : decode cX13_event 0 = .ok (.aload_n 0, 1) := by decide +kernel
theorem dX13_event_1 : decode cX13_event 1 = .ok (.iconst 0, 1) := by decide +kernel
theorem dX13_event_2 : decode cX13_event 2 = .ok (.putfield 132, 3) := by decide +kernel
theorem dX13_event_5 : decode cX13_event 5 = .ok (.iload_n 1, 1) := by decide +kernel
theorem dX13_event_6 : decode cX13_event 6 = .ok (.ifCond .lt 33, 3) := by decide +kernel
theorem dX13_event_9 : decode cX13_event 9 = .ok (.iload_n 1, 1) := by decide +kernel
theorem dX13_event_10 : decode cX13_event 10 = .ok (.sipush 999, 3) := by decide +kernel
theorem dX13_event_13 : decode cX13_event 13 = .ok (.if_icmp .gt 26, 3) := by decide +kernel
theorem dX13_event_16 : decode cX13_event 16 = .ok (.lload_n 2, 1) := by decide +kernel
theorem dX13_event_17 : decode cX13_event 17 = .ok (.aload_n 0, 1) := by decide +kernel
theorem dX13_event_18 : decode cX13_event 18 = .ok (.getfield 119, 3) := by decide +kernel
theorem dX13_event_21 : decode cX13_event 21 = .ok (.lcmp, 1) := by decide +kernel
theorem dX13_event_22 : decode cX13_event 22 = .ok (.ifCond .lt 17, 3) := by decide +kernel
theorem dX13_event_25 : decode cX13_event 25 = .ok (.lload_n 2, 1) := by decide +kernel
theorem dX13_event_26 : decode cX13_event 26 = .ok (.lconst 0, 1) := by decide +kernel
theorem dX13_event_27 : decode cX13_event 27 = .ok (.lcmp, 1) := by decide +kernel
theorem dX13_event_28 : decode cX13_event 28 = .ok (.ifCond .lt 11, 3) := by decide +kernel
theorem dX13_event_31 : decode cX13_event 31 = .ok (.lload_n 2, 1) := by decide +kernel
theorem dX13_event_32 : decode cX13_event 32 = .ok (.ldc2_w 215, 3) := by decide +kernel
theorem dX13_event_35 : decode cX13_event 35 = .ok (.lcmp, 1) := by decide +kernel
theorem dX13_event_36 : decode cX13_event 36 = .ok (.ifCond .le 6, 3) := by decide +kernel
theorem dX13_event_39 : decode cX13_event 39 = .ok (.bipush (-2), 2) := by decide +kernel
theorem dX13_event_41 : decode cX13_event 41 = .ok (.ireturn, 1) := by decide +kernel
theorem dX13_event_42 : decode cX13_event 42 = .ok (.aload_n 0, 1) := by decide +kernel
theorem dX13_event_43 : decode cX13_event 43 = .ok (.iconst 0, 1) := by decide +kernel
theorem dX13_event_44 : decode cX13_event 44 = .ok (.iconst 0, 1) := by decide +kernel
theorem dX13_event_45 : decode cX13_event 45 = .ok (.invokevirtual 184, 3) := by decide +kernel
theorem dX13_event_48 : decode cX13_event 48 = .ok (.ifCond .ne 6, 3) := by decide +kernel
theorem dX13_event_51 : decode cX13_event 51 = .ok (.bipush (-3), 2) := by decide +kernel
theorem dX13_event_53 : decode cX13_event 53 = .ok (.ireturn, 1) := by decide +kernel
theorem dX13_event_54 : decode cX13_event 54 = .ok (.aload_n 0, 1) := by decide +kernel
theorem dX13_event_55 : decode cX13_event 55 = .ok (.iconst 0, 1) := by decide +kernel
theorem dX13_event_56 : decode cX13_event 56 = .ok (.putfield 129, 3) := by decide +kernel
theorem dX13_event_59 : decode cX13_event 59 = .ok (.aload_n 0, 1) := by decide +kernel
theorem dX13_event_60 : decode cX13_event 60 = .ok (.lload_n 2, 1) := by decide +kernel
theorem dX13_event_61 : decode cX13_event 61 = .ok (.putfield 119, 3) := by decide +kernel
theorem dX13_event_64 : decode cX13_event 64 = .ok (.iconst 0, 1) := by decide +kernel
theorem dX13_event_65 : decode cX13_event 65 = .ok (.istore 4, 2) := by decide +kernel
theorem dX13_event_67 : decode cX13_event 67 = .ok (.aload_n 0, 1) := by decide +kernel
theorem dX13_event_68 : decode cX13_event 68 = .ok (.getfield 115, 3) := by decide +kernel
theorem dX13_event_71 : decode cX13_event 71 = .ok (.ifCond .ne 36, 3) := by decide +kernel
theorem dX13_event_74 : decode cX13_event 74 = .ok (.aload_n 0, 1) := by decide +kernel
theorem dX13_event_75 : decode cX13_event 75 = .ok (.iconst 1, 1) := by decide +kernel
theorem dX13_event_76 : decode cX13_event 76 = .ok (.putfield 115, 3) := by decide +kernel
theorem dX13_event_79 : decode cX13_event 79 = .ok (.aload_n 0, 1) := by decide +kernel
theorem dX13_event_80 : decode cX13_event 80 = .ok (.getfield 36, 3) := by decide +kernel
theorem dX13_event_83 : decode cX13_event 83 = .ok (.iconst 0, 1) := by decide +kernel
theorem dX13_event_84 : decode cX13_event 84 = .ok (.iconst 1, 1) := by decide +kernel
theorem dX13_event_85 : decode cX13_event 85 = .ok (.bastore, 1) := by decide +kernel
theorem dX13_event_86 : decode cX13_event 86 = .ok (.aload_n 0, 1) := by decide +kernel
theorem dX13_event_87 : decode cX13_event 87 = .ok (.iconst 0, 1) := by decide +kernel
theorem dX13_event_88 : decode cX13_event 88 = .ok (.iconst 0, 1) := by decide +kernel
theorem dX13_event_89 : decode cX13_event 89 = .ok (.lload_n 2, 1) := by decide +kernel
theorem dX13_event_90 : decode cX13_event 90 = .ok (.invokevirtual 192, 3) := by decide +kernel
theorem dX13_event_93 : decode cX13_event 93 = .ok (.aload_n 0, 1) := by decide +kernel
theorem dX13_event_94 : decode cX13_event 94 = .ok (.lload_n 2, 1) := by decide +kernel
theorem dX13_event_95 : decode cX13_event 95 = .ok (.invokevirtual 217, 3) := by decide +kernel
theorem dX13_event_98 : decode cX13_event 98 = .ok (.istore 4, 2) := by decide +kernel
theorem dX13_event_100 : decode cX13_event 100 = .ok (.iload 4, 2) := by decide +kernel
theorem dX13_event_102 : decode cX13_event 102 = .ok (.ifCond .ge 5, 3) := by decide +kernel
theorem dX13_event_105 : decode cX13_event 105 = .ok (.iconst (-1), 1) := by decide +kernel
theorem dX13_event_106 : decode cX13_event 106 = .ok (.ireturn, 1) := by decide +kernel
theorem dX13_event_107 : decode cX13_event 107 = .ok (.aload_n 0, 1) := by decide +kernel
theorem dX13_event_108 : decode cX13_event 108 = .ok (.lload_n 2, 1) := by decide +kernel
theorem dX13_event_109 : decode cX13_event 109 = .ok (.invokevirtual 220, 3) := by decide +kernel
theorem dX13_event_112 : decode cX13_event 112 = .ok (.istore 5, 2) := by decide +kernel
theorem dX13_event_114 : decode cX13_event 114 = .ok (.iconst 0, 1) := by decide +kernel
theorem dX13_event_115 : decode cX13_event 115 = .ok (.istore 6, 2) := by decide +kernel
theorem dX13_event_117 : decode cX13_event 117 = .ok (.iload 5, 2) := by decide +kernel
theorem dX13_event_119 : decode cX13_event 119 = .ok (.ifCond .le 104, 3) := by decide +kernel
theorem dX13_event_122 : decode cX13_event 122 = .ok (.iload 6, 2) := by decide +kernel
theorem dX13_event_124 : decode cX13_event 124 = .ok (.sipush 1000, 3) := by decide +kernel
theorem dX13_event_127 : decode cX13_event 127 = .ok (.if_icmp .ne 13, 3) := by decide +kernel
theorem dX13_event_130 : decode cX13_event 130 = .ok (.aload_n 0, 1) := by decide +kernel
theorem dX13_event_131 : decode cX13_event 131 = .ok (.bipush 6, 2) := by decide +kernel
theorem dX13_event_133 : decode cX13_event 133 = .ok (.iconst 0, 1) := by decide +kernel
theorem dX13_event_134 : decode cX13_event 134 = .ok (.lconst 0, 1) := by decide +kernel
theorem dX13_event_135 : decode cX13_event 135 = .ok (.invokevirtual 144, 3) := by decide +kernel
theorem dX13_event_138 : decode cX13_event 138 = .ok (.iconst (-1), 1) := by decide +kernel
theorem dX13_event_139 : decode cX13_event 139 = .ok (.ireturn, 1) := by decide +kernel
theorem dX13_event_140 : decode cX13_event 140 = .ok (.iinc 6 1, 3) := by decide +kernel
theorem dX13_event_143 : decode cX13_event 143 = .ok (.aload_n 0, 1) := by decide +kernel
theorem dX13_event_144 : decode cX13_event 144 = .ok (.getfield 29, 3) := by decide +kernel
theorem dX13_event_147 : decode cX13_event 147 = .ok (.iload 5, 2) := by decide +kernel
theorem dX13_event_149 : decode cX13_event 149 = .ok (.iconst 1, 1) := by decide +kernel
theorem dX13_event_150 : decode cX13_event 150 = .ok (.bastore, 1) := by decide +kernel
theorem dX13_event_151 : decode cX13_event 151 = .ok (.aload_n 0, 1) := by decide +kernel
theorem dX13_event_152 : decode cX13_event 152 = .ok (.getfield 26, 3) := by decide +kernel
theorem dX13_event_155 : decode cX13_event 155 = .ok (.iload 5, 2) := by decide +kernel
theorem dX13_event_157 : decode cX13_event 157 = .ok (.laload, 1) := by decide +kernel
theorem dX13_event_158 : decode cX13_event 158 = .ok (.aload_n 0, 1) := by decide +kernel
theorem dX13_event_159 : decode cX13_event 159 = .ok (.getfield 22, 3) := by decide +kernel
theorem dX13_event_162 : decode cX13_event 162 = .ok (.iload 5, 2) := by decide +kernel
theorem dX13_event_164 : decode cX13_event 164 = .ok (.laload, 1) := by decide +kernel
theorem dX13_event_165 : decode cX13_event 165 = .ok (.ladd, 1) := by decide +kernel
theorem dX13_event_166 : decode cX13_event 166 = .ok (.lstore 7, 2) := by decide +kernel
theorem dX13_event_168 : decode cX13_event 168 = .ok (.aload_n 0, 1) := by decide +kernel
theorem dX13_event_169 : decode cX13_event 169 = .ok (.sipush 1000, 3) := by decide +kernel
theorem dX13_event_172 : decode cX13_event 172 = .ok (.iload 5, 2) := by decide +kernel
theorem dX13_event_174 : decode cX13_event 174 = .ok (.iadd, 1) := by decide +kernel
theorem dX13_event_175 : decode cX13_event 175 = .ok (.invokevirtual 208, 3) := by decide +kernel
theorem dX13_event_178 : decode cX13_event 178 = .ok (.istore 9, 2) := by decide +kernel
theorem dX13_event_180 : decode cX13_event 180 = .ok (.iload 4, 2) := by decide +kernel
theorem dX13_event_182 : decode cX13_event 182 = .ok (.aload_n 0, 1) := by decide +kernel
theorem dX13_event_183 : decode cX13_event 183 = .ok (.lload 7, 2) := by decide +kernel
theorem dX13_event_185 : decode cX13_event 185 = .ok (.invokevirtual 211, 3) := by decide +kernel
theorem dX13_event_188 : decode cX13_event 188 = .ok (.iadd, 1) := by decide +kernel
theorem dX13_event_189 : decode cX13_event 189 = .ok (.istore 4, 2) := by decide +kernel
theorem dX13_event_191 : decode cX13_event 191 = .ok (.aload_n 0, 1) := by decide +kernel
theorem dX13_event_192 : decode cX13_event 192 = .ok (.lload 7, 2) := by decide +kernel
theorem dX13_event_194 : decode cX13_event 194 = .ok (.invokevirtual 217, 3) := by decide +kernel
theorem dX13_event_197 : decode cX13_event 197 = .ok (.istore 9, 2) := by decide +kernel
theorem dX13_event_199 : decode cX13_event 199 = .ok (.iload 9, 2) := by decide +kernel
theorem dX13_event_201 : decode cX13_event 201 = .ok (.ifCond .ge 5, 3) := by decide +kernel
theorem dX13_event_204 : decode cX13_event 204 = .ok (.iconst (-1), 1) := by decide +kernel
theorem dX13_event_205 : decode cX13_event 205 = .ok (.ireturn, 1) := by decide +kernel
theorem dX13_event_206 : decode cX13_event 206 = .ok (.iload 4, 2) := by decide +kernel
theorem dX13_event_208 : decode cX13_event 208 = .ok (.iload 9, 2) := by decide +kernel
theorem dX13_event_210 : decode cX13_event 210 = .ok (.iadd, 1) := by decide +kernel
theorem dX13_event_211 : decode cX13_event 211 = .ok (.istore 4, 2) := by decide +kernel
theorem dX13_event_213 : decode cX13_event 213 = .ok (.aload_n 0, 1) := by decide +kernel
theorem dX13_event_214 : decode cX13_event 214 = .ok (.lload_n 2, 1) := by decide +kernel
theorem dX13_event_215 : decode cX13_event 215 = .ok (.invokevirtual 220, 3) := by decide +kernel
theorem dX13_event_218 : decode cX13_event 218 = .ok (.istore 5, 2) := by decide +kernel
theorem dX13_event_220 : decode cX13_event 220 = .ok (.goto (-103), 3) := by decide +kernel
theorem dX13_event_223 : decode cX13_event 223 = .ok (.iload_n 1, 1) := by decide +kernel
theorem dX13_event_224 : decode cX13_event 224 = .ok (.ifCond .ne 6, 3) := by decide +kernel
theorem dX13_event_227 : decode cX13_event 227 = .ok (.iload 4, 2) := by decide +kernel
theorem dX13_event_229 : decode cX13_event 229 = .ok (.ireturn, 1) := by decide +kernel
theorem dX13_event_230 : decode cX13_event 230 = .ok (.aload_n 0, 1) := by decide +kernel
theorem dX13_event_231 : decode cX13_event 231 = .ok (.iload_n 1, 1) := by decide +kernel
theorem dX13_event_232 : decode cX13_event 232 = .ok (.invokevirtual 208, 3) := by decide +kernel
theorem dX13_event_235 : decode cX13_event 235 = .ok (.istore 7, 2) := by decide +kernel
theorem dX13_event_237 : decode cX13_event 237 = .ok (.aload_n 0, 1) := by decide +kernel
theorem dX13_event_238 : decode cX13_event 238 = .ok (.iload 7, 2) := by decide +kernel
theorem dX13_event_240 : decode cX13_event 240 = .ok (.ifCond .ne 12, 3) := by decide +kernel
theorem dX13_event_243 : decode cX13_event 243 = .ok (.aload_n 0, 1) := by decide +kernel
theorem dX13_event_244 : decode cX13_event 244 = .ok (.getfield 123, 3) := by decide +kernel
theorem dX13_event_247 : decode cX13_event 247 = .ok (.iconst 1, 1) := by decide +kernel
theorem dX13_event_248 : decode cX13_event 248 = .ok (.iadd, 1) := by decide +kernel
theorem dX13_event_249 : decode cX13_event 249 = .ok (.goto 7, 3) := by decide +kernel
theorem dX13_event_252 : decode cX13_event 252 = .ok (.aload_n 0, 1) := by decide +kernel
theorem dX13_event_253 : decode cX13_event 253 = .ok (.getfield 123, 3) := by decide +kernel
theorem dX13_event_256 : decode cX13_event 256 = .ok (.putfield 123, 3) := by decide +kernel
theorem dX13_event_259 : decode cX13_event 259 = .ok (.iload 4, 2) := by decide +kernel
theorem dX13_event_261 : decode cX13_event 261 = .ok (.aload_n 0, 1) := by decide +kernel
theorem dX13_event_262 : decode cX13_event 262 = .ok (.lload_n 2, 1) := by decide +kernel
theorem dX13_event_263 : decode cX13_event 263 = .ok (.invokevirtual 211, 3) := by decide +kernel
theorem dX13_event_266 : decode cX13_event 266 = .ok (.iadd, 1) := by decide +kernel
theorem dX13_event_267 : decode cX13_event 267 = .ok (.istore 4, 2) := by decide +kernel
theorem dX13_event_269 : decode cX13_event 269 = .ok (.aload_n 0, 1) := by decide +kernel
theorem dX13_event_270 : decode cX13_event 270 = .ok (.lload_n 2, 1) := by decide +kernel
theorem dX13_event_271 : decode cX13_event 271 = .ok (.invokevirtual 217, 3) := by decide +kernel
theorem dX13_event_274 : decode cX13_event 274 = .ok (.istore 7, 2) := by decide +kernel
theorem dX13_event_276 : decode cX13_event 276 = .ok (.iload 7, 2) := by decide +kernel
theorem dX13_event_278 : decode cX13_event 278 = .ok (.ifCond .ge 7, 3) := by decide +kernel
theorem dX13_event_281 : decode cX13_event 281 = .ok (.iconst (-1), 1) := by decide +kernel
theorem dX13_event_282 : decode cX13_event 282 = .ok (.goto 8, 3) := by decide +kernel
theorem dX13_event_285 : decode cX13_event 285 = .ok (.iload 4, 2) := by decide +kernel
theorem dX13_event_287 : decode cX13_event 287 = .ok (.iload 7, 2) := by decide +kernel
theorem dX13_event_289 : decode cX13_event 289 = .ok (.iadd, 1) := by decide +kernel
theorem dX13_event_290 : decode cX13_event 290 = .ok (.ireturn, 1) := by decide +kernel
theorem cwX13_event : mw_cwV yX13_event cX13_event 10 ((some .int)) 2 := ⟨⟨wd_20, wd_4065, by decide +kernel⟩, wd_4063, wd_4064⟩
noncomputable def fX13_event_b39 (fu : Nat) (k : Nat) (a1 : Int32) (a2 : Int64) (M : mwM) (L : mwL) : Option (Int32 × mwM × mwL) :=
  some ((-2), M, L)
noncomputable def fX13_event_b290 (fu : Nat) (k : Nat) (a1 : Int32) (a2 : Int64) (s0 : Int32) (M : mwM) (L : mwL) : Option (Int32 × mwM × mwL) :=
  some (s0, M, L)
noncomputable def fX13_event_b256 (fu : Nat) (k : Nat) (a1 : Int32) (a2 : Int64) (v4 : Int32) (s1 : Int32) (M : mwM) (L : mwL) : Option (Int32 × mwM × mwL) :=
  mlet (mset M k 29 s1) (fun M34 => mb3 (DX13_step fu k a2 M34 L) (fun r37 M35 L36 => mlet (v4 + r37) (fun x38 => mb3 (DX13_chain fu k a2 M35 L36) (fun r41 M39 L40 => (if 0 ≤ r41 then fX13_event_b290 fu k a1 a2 (x38 + r41) M39 L40 else fX13_event_b290 fu k a1 a2 ((-1)) M39 L40)))))
noncomputable def fX13_event_i117 (fu : Nat) (k : Nat) (a1 : Int32) (a2 : Int64) (r117 : (Int32 × Int32 × Int32 × mwM × mwL) → Option (Int32 × mwM × mwL)) (v4 : Int32) (v5 : Int32) (v6 : Int32) (M : mwM) (L : mwL) : Option (Int32 × mwM × mwL) :=
  (if v5 ≤ 0 then (if a1 = 0 then some (v4, M, L) else mb3 (DX13_choose fu k a1 M L) (fun r8 M6 L7 => (if r8 = 0 then fX13_event_b256 fu k a1 a2 v4 ((M6 k 29) + 1) M6 L7 else fX13_event_b256 fu k a1 a2 v4 (M6 k 29) M6 L7))) else (if v6 = 1000 then mb2 (DX13_note fu k 6 0 0 M L) (fun M32 L33 => some ((-1), M32, L33)) else mlet (v6 + 1) (fun x11 => mck v5 201 (mlet (mset M (k + 7) (v5.toNatClampNeg) (vp_nar .boolean 1)) (fun M13 => mck v5 201 (mck v5 201 (mlet ((L (k + 6) v5.toNatClampNeg) + (L (k + 5) v5.toNatClampNeg)) (fun x16 => mb3 (DX13_choose fu k (1000 + v5) M13 L) (fun r19 M17 L18 => mb3 (DX13_step fu k x16 M17 L18) (fun r22 M20 L21 => mlet (v4 + r22) (fun x23 => mb3 (DX13_chain fu k x16 M20 L21) (fun r26 M24 L25 => (if 0 ≤ r26 then mlet (x23 + r26) (fun x28 => mb3 (DX13_due fu k a2 M24 L25) (fun r31 M29 L30 => r117 (x28, r31, x11, M29, L30))) else some ((-1), M24, L25))))))))))))))
noncomputable def fX13_event_h117 (fu : Nat) (k : Nat) (a1 : Int32) (a2 : Int64) : Nat → (Int32 × Int32 × Int32 × mwM × mwL) → Option (Int32 × mwM × mwL) := mloop (fun r117 s => fX13_event_i117 fu k a1 a2 r117 s.1 s.2.1 s.2.2.1 s.2.2.2.1 s.2.2.2.2)
noncomputable def fX13_event_b107 (fu : Nat) (k : Nat) (a1 : Int32) (a2 : Int64) (v4 : Int32) (M : mwM) (L : mwL) : Option (Int32 × mwM × mwL) :=
  mb3 (DX13_due fu k a2 M L) (fun r3 M1 L2 => fX13_event_h117 fu k a1 a2 fu (v4, r3, 0, M1, L2))
noncomputable def DX13_event (fu : Nat) (k : Nat) (a1 : Int32) (a2 : Int64) (M : mwM) (L : mwL) : Option (Int32 × mwM × mwL) :=
  mlet (mset M k 0 0) (fun M43 => (if a1 < 0 then fX13_event_b39 fu k a1 a2 M43 L else (if 999 < a1 then fX13_event_b39 fu k a1 a2 M43 L else (if (lg_cmp a2 (L k 28)) < 0 then fX13_event_b39 fu k a1 a2 M43 L else (if (lg_cmp a2 0) < 0 then fX13_event_b39 fu k a1 a2 M43 L else (if (lg_cmp a2 4611686018427387904) ≤ 0 then mb3 (DX13_child fu k 0 0 M43 L) (fun r51 M49 L50 => (if r51 = 0 then some ((-3), M49, L50) else mlet (mset M49 k 31 0) (fun M53 => mlet (mset L50 k 28 a2) (fun L54 => (if (M53 k 27) = 0 then mlet (mset M53 k 27 1) (fun M56 => mlet (mset M56 (k + 9) ((0 : Int32).toNatClampNeg) (vp_nar .boolean 1)) (fun M58 => mb2 (DX13_enter fu k 0 0 a2 M58 L54) (fun M59 L60 => mb3 (DX13_chain fu k a2 M59 L60) (fun r63 M61 L62 => (if 0 ≤ r63 then fX13_event_b107 fu k a1 a2 r63 M61 L62 else some ((-1), M61, L62)))))) else fX13_event_b107 fu k a1 a2 0 M53 L54))))) else fX13_event_b39 fu k a1 a2 M43 L))))))
set_option maxHeartbeats 4000000 in
set_option maxRecDepth 100000 in
theorem tX13_event (l : Launch) (G : mwG) (ad : Nat → Nat) (fu : Nat) (k : Nat) (a1 : Int32) (a2 : Int64) (M : mwM) (L : mwL) {r0 : Int32} {M0 : mwM} {L0 : mwL} (hD : DX13_event fu k a1 a2 M L = some (r0, M0, L0)) (hk0 : isMc k) : Met l yX13_event (Cond.code yX13_event cX13_event 10 ((some .int)) :: GT) ({ frames := 7, cells := 0, slots := 0, locals := 167 }) (mw_Pre G ad NF TF FF M L [.ref (ad k), .int a1, .long a2]) (mw_Qi G ad NF TF FF (mw_eqI r0 M0 L0)) 0 0 (mw_fr G) := by
  refine mw_enter (by decide) (Nat.le_of_ble_eq_true rfl) ?_
  intro p e s m below meth c ls C hr hlocks hnm hw hl
  have hl : lv_has ls 10 [(0, .ref (ad k)), (1, .int a1), (2, .long a2)] := hl
  have hb39 : ∀ (M : mwM) (L : mwL) (H : Heap) (locs : List Loc) (ls : Array Slot), fX13_event_b39 fu k a1 a2 M L = some (r0, M0, L0) → mw_W G ad NF TF FF M L H locs → lv_has ls 10 [] → W p l e ({ frames := 7, cells := 0, slots := 0, locals := 167 }) s m [.ref (ad k), .int a1, .long a2].toArray below meth c H locs 0 0 (MQ below (mw_Qi G ad NF TF FF (mw_eqI r0 M0 L0)) [.ref (ad k), .int a1, .long a2].toArray s 0 0 (mw_fr G)) (F0 m 39 ls []) := by
    intro M L H locs ls hD hw hl
    unfold fX13_event_b39 at hD
    refine lv_bipush (v := (-2)) C.1.1 C.1.2.1 dX13_event_39 (by decide) ?_
    exact mr_iret C hr hlocks hw rfl (Option.some.inj hD) dX13_event_41
  have hb290 : ∀ (s0 : Int32) (M : mwM) (L : mwL) (H : Heap) (locs : List Loc) (ls : Array Slot), fX13_event_b290 fu k a1 a2 s0 M L = some (r0, M0, L0) → mw_W G ad NF TF FF M L H locs → lv_has ls 10 [] → W p l e ({ frames := 7, cells := 0, slots := 0, locals := 167 }) s m [.ref (ad k), .int a1, .long a2].toArray below meth c H locs 0 0 (MQ below (mw_Qi G ad NF TF FF (mw_eqI r0 M0 L0)) [.ref (ad k), .int a1, .long a2].toArray s 0 0 (mw_fr G)) (F0 m 290 ls [.int s0]) := by
    intro s0 M L H locs ls hD hw hl
    unfold fX13_event_b290 at hD
    exact mr_iret C hr hlocks hw rfl (Option.some.inj hD) dX13_event_290
  have hb256 : ∀ (v4 : Int32) (s1 : Int32) (M : mwM) (L : mwL) (H : Heap) (locs : List Loc) (ls : Array Slot), fX13_event_b256 fu k a1 a2 v4 s1 M L = some (r0, M0, L0) → mw_W G ad NF TF FF M L H locs → lv_has ls 10 [(0, .ref (ad k)), (2, .long a2), (4, .int v4)] → W p l e ({ frames := 7, cells := 0, slots := 0, locals := 167 }) s m [.ref (ad k), .int a1, .long a2].toArray below meth c H locs 0 0 (MQ below (mw_Qi G ad NF TF FF (mw_eqI r0 M0 L0)) [.ref (ad k), .int a1, .long a2].toArray s 0 0 (mw_fr G)) (F0 m 256 ls [.int s1, .ref (ad k)]) := by
    intro v4 s1 M L H locs ls hD hw hl
    unfold fX13_event_b256 at hD
    obtain ⟨M34, eM34, hD⟩ := g_let hD
    refine mr_putI C hw kc_13 29 (Mc_N0 hk0) (Mc_T0 hk0) wd_2671 dX13_event_256 (by decide) rfl rfl rfl rfl (fun H locs hw => ?_)
    replace hw : mw_W G ad NF TF FF M34 L H locs := by rw [eM34]; exact hw
    refine lv_iload C.1.1 C.1.2.1 dX13_event_259 (lv_at hl 2 rfl) ?_
    refine lv_aload_n C.1.1 C.1.2.1 dX13_event_261 rfl (lv_at hl 0 rfl) ?_
    refine lv_lload_n C.1.1 C.1.2.1 dX13_event_262 rfl (lv_at hl 1 rfl) ?_
    obtain ⟨r37, M35, L36, h1, hD⟩ := g_b3 hD
    refine md_cvI (As := [.long a2]) (rest := [.int v4]) C hw (tX13_step l G ad fu k a2 M34 L h1 hk0) kc_13 (Mc_N0 hk0) (Mc_T0 hk0) wd_4134 cwX13_step ⟨Nat.le_of_ble_eq_true rfl, Nat.le_of_ble_eq_true rfl⟩ rfl hl.1 (Nat.le_of_ble_eq_true rfl) dX13_event_263 rfl rfl ⟨Nat.zero_le _, Nat.zero_le _⟩ rfl (fun H locs hw => ?_)
    refine lv_iadd C.1.1 C.1.2.1 dX13_event_266 ?_
    obtain ⟨x38, ex38, hD⟩ := g_let hD
    refine W.eq (g2 := F0 m 267 ls (.int x38 :: [])) (by rw [ex38]) ?_
    refine lv_istore (lv' := [(4, .int x38), (0, .ref (ad k)), (2, .long a2)]) C.1.1 C.1.2.1 dX13_event_267 hl (by decide) rfl (fun ls hl => ?_)
    refine lv_aload_n C.1.1 C.1.2.1 dX13_event_269 rfl (lv_at hl 1 rfl) ?_
    refine lv_lload_n C.1.1 C.1.2.1 dX13_event_270 rfl (lv_at hl 2 rfl) ?_
    obtain ⟨r41, M39, L40, h1, hD⟩ := g_b3 hD
    refine md_cvI (As := [.long a2]) (rest := []) C hw (tX13_chain l G ad fu k a2 M35 L36 h1 hk0) kc_13 (Mc_N0 hk0) (Mc_T0 hk0) wd_4099 cwX13_chain ⟨Nat.le_of_ble_eq_true rfl, Nat.le_of_ble_eq_true rfl⟩ rfl hl.1 (Nat.le_of_ble_eq_true rfl) dX13_event_271 rfl rfl ⟨Nat.zero_le _, Nat.zero_le _⟩ rfl (fun H locs hw => ?_)
    refine lv_istore (lv' := [(7, .int r41), (4, .int x38), (0, .ref (ad k)), (2, .long a2)]) C.1.1 C.1.2.1 dX13_event_274 hl (by decide) rfl (fun ls hl => ?_)
    refine lv_iload C.1.1 C.1.2.1 dX13_event_276 (lv_at hl 0 rfl) ?_
    refine lv_if_ge (tgt := 285) C.1.1 C.1.2.1 dX13_event_278 (by decide) (fun c42 => ?_) (fun c42 => ?_)
    · replace hD := g_pos c42 hD
      refine lv_iload C.1.1 C.1.2.1 dX13_event_285 (lv_at hl 1 rfl) ?_
      refine lv_iload C.1.1 C.1.2.1 dX13_event_287 (lv_at hl 0 rfl) ?_
      refine lv_iadd C.1.1 C.1.2.1 dX13_event_289 ?_
      exact hb290 (x38 + r41) M39 L40 _ _ ls hD hw (lv_sub hl [] rfl)
    · replace hD := g_neg c42 hD
      refine lv_iconst (v := (-1)) C.1.1 C.1.2.1 dX13_event_281 (by decide) ?_
      refine lv_goto (tgt := 290) C.1.1 C.1.2.1 dX13_event_282 (by decide) ?_
      exact hb290 ((-1)) M39 L40 _ _ ls hD hw (lv_sub hl [] rfl)
  have hh117 : ∀ (f : Nat) (v4 : Int32) (v5 : Int32) (v6 : Int32) (M : mwM) (L : mwL) (H : Heap) (locs : List Loc) (ls : Array Slot), fX13_event_h117 fu k a1 a2 f (v4, v5, v6, M, L) = some (r0, M0, L0) → mw_W G ad NF TF FF M L H locs → lv_has ls 10 [(0, .ref (ad k)), (1, .int a1), (2, .long a2), (4, .int v4), (5, .int v5), (6, .int v6)] → W p l e ({ frames := 7, cells := 0, slots := 0, locals := 167 }) s m [.ref (ad k), .int a1, .long a2].toArray below meth c H locs 0 0 (MQ below (mw_Qi G ad NF TF FF (mw_eqI r0 M0 L0)) [.ref (ad k), .int a1, .long a2].toArray s 0 0 (mw_fr G)) (F0 m 117 ls []) := by
    intro f
    induction f with
    | zero => intro v4 v5 v6 M L H locs ls hD; cases hD
    | succ f117 ih117 =>
      intro v4 v5 v6 M L H locs ls hD hw hl
      replace hD : fX13_event_i117 fu k a1 a2 (fX13_event_h117 fu k a1 a2 f117) v4 v5 v6 M L = some (r0, M0, L0) := hD
      unfold fX13_event_i117 at hD
      refine lv_iload C.1.1 C.1.2.1 dX13_event_117 (lv_at hl 4 rfl) ?_
      refine lv_if_le (tgt := 223) C.1.1 C.1.2.1 dX13_event_119 (by decide) (fun c4 => ?_) (fun c4 => ?_)
      · replace hD := g_pos c4 hD
        refine lv_iload_n C.1.1 C.1.2.1 dX13_event_223 rfl (lv_at hl 1 rfl) ?_
        refine lv_if_ne (tgt := 230) C.1.1 C.1.2.1 dX13_event_224 (by decide) (fun c5 => ?_) (fun c5 => ?_)
        · replace hD := g_neg c5 hD
          refine lv_aload_n C.1.1 C.1.2.1 dX13_event_230 rfl (lv_at hl 0 rfl) ?_
          refine lv_iload_n C.1.1 C.1.2.1 dX13_event_231 rfl (lv_at hl 1 rfl) ?_
          obtain ⟨r8, M6, L7, h1, hD⟩ := g_b3 hD
          refine md_cvI (As := [.int a1]) (rest := []) C hw (tX13_choose l G ad fu k a1 M L h1 hk0) kc_13 (Mc_N0 hk0) (Mc_T0 hk0) wd_4103 cwX13_choose ⟨Nat.le_of_ble_eq_true rfl, Nat.le_of_ble_eq_true rfl⟩ rfl hl.1 (Nat.le_of_ble_eq_true rfl) dX13_event_232 rfl rfl ⟨Nat.zero_le _, Nat.zero_le _⟩ rfl (fun H locs hw => ?_)
          refine lv_istore (lv' := [(7, .int r8), (0, .ref (ad k)), (1, .int a1), (2, .long a2), (4, .int v4), (5, .int v5), (6, .int v6)]) C.1.1 C.1.2.1 dX13_event_235 hl (by decide) rfl (fun ls hl => ?_)
          refine lv_aload_n C.1.1 C.1.2.1 dX13_event_237 rfl (lv_at hl 1 rfl) ?_
          refine lv_iload C.1.1 C.1.2.1 dX13_event_238 (lv_at hl 0 rfl) ?_
          refine lv_if_ne (tgt := 252) C.1.1 C.1.2.1 dX13_event_240 (by decide) (fun c9 => ?_) (fun c9 => ?_)
          · replace hD := g_neg c9 hD
            refine lv_aload_n C.1.1 C.1.2.1 dX13_event_252 rfl (lv_at hl 1 rfl) ?_
            refine mr_getI C hw kc_13 29 (Mc_N0 hk0) (Mc_T0 hk0) wd_2671 dX13_event_253 (by decide) rfl ?_
            exact hb256 v4 (M6 k 29) M6 L7 _ _ ls hD hw (lv_sub hl [1, 3, 4] rfl)
          · replace hD := g_pos c9 hD
            refine lv_aload_n C.1.1 C.1.2.1 dX13_event_243 rfl (lv_at hl 1 rfl) ?_
            refine mr_getI C hw kc_13 29 (Mc_N0 hk0) (Mc_T0 hk0) wd_2671 dX13_event_244 (by decide) rfl ?_
            refine lv_iconst (v := 1) C.1.1 C.1.2.1 dX13_event_247 (by decide) ?_
            refine lv_iadd C.1.1 C.1.2.1 dX13_event_248 ?_
            refine lv_goto (tgt := 256) C.1.1 C.1.2.1 dX13_event_249 (by decide) ?_
            exact hb256 v4 ((M6 k 29) + 1) M6 L7 _ _ ls hD hw (lv_sub hl [1, 3, 4] rfl)
        · replace hD := g_pos c5 hD
          refine lv_iload C.1.1 C.1.2.1 dX13_event_227 (lv_at hl 3 rfl) ?_
          exact mr_iret C hr hlocks hw rfl (Option.some.inj hD) dX13_event_229
      · replace hD := g_neg c4 hD
        refine lv_iload C.1.1 C.1.2.1 dX13_event_122 (lv_at hl 5 rfl) ?_
        refine lv_sipush (v := 1000) C.1.1 C.1.2.1 dX13_event_124 (by decide) ?_
        refine lv_icmp_ne (tgt := 140) C.1.1 C.1.2.1 dX13_event_127 (by decide) (fun c10 => ?_) (fun c10 => ?_)
        · replace hD := g_neg c10 hD
          obtain ⟨x11, ex11, hD⟩ := g_let hD
          refine lv_iinc (v := x11) (lv' := [(6, .int x11), (0, .ref (ad k)), (1, .int a1), (2, .long a2), (4, .int v4), (5, .int v5)]) C.1.1 C.1.2.1 dX13_event_140 hl (k := 5) rfl (by rw [ex11]; rfl) (by decide) rfl (fun ls hl => ?_)
          refine lv_aload_n C.1.1 C.1.2.1 dX13_event_143 rfl (lv_at hl 1 rfl) ?_
          refine mr_getR C hw kc_13 9 (Mc_N0 hk0) (Mc_T0 hk0) (Mc_F0_9 hk0) wd_2651 dX13_event_144 (by decide) rfl ?_
          refine lv_iload C.1.1 C.1.2.1 dX13_event_147 (lv_at hl 5 rfl) ?_
          refine lv_iconst (v := 1) C.1.1 C.1.2.1 dX13_event_149 (by decide) ?_
          obtain ⟨q12, hD⟩ := g_ck hD
          obtain ⟨M13, eM13, hD⟩ := g_let hD
          refine mr_zast C hw (Mc_N7 hk0) (Mc_T7 hk0) q12 dX13_event_150 (fun H locs hw => ?_)
          replace hw : mw_W G ad NF TF FF M13 L H locs := by rw [eM13]; exact hw
          refine lv_aload_n C.1.1 C.1.2.1 dX13_event_151 rfl (lv_at hl 1 rfl) ?_
          refine mr_getR C hw kc_13 8 (Mc_N0 hk0) (Mc_T0 hk0) (Mc_F0_8 hk0) wd_2650 dX13_event_152 (by decide) rfl ?_
          refine lv_iload C.1.1 C.1.2.1 dX13_event_155 (lv_at hl 5 rfl) ?_
          obtain ⟨q14, hD⟩ := g_ck hD
          refine mr_lald C hw (Mc_N6 hk0) (Mc_T6 hk0) q14 dX13_event_157 ?_
          refine lv_aload_n C.1.1 C.1.2.1 dX13_event_158 rfl (lv_at hl 1 rfl) ?_
          refine mr_getR C hw kc_13 7 (Mc_N0 hk0) (Mc_T0 hk0) (Mc_F0_7 hk0) wd_2649 dX13_event_159 (by decide) rfl ?_
          refine lv_iload C.1.1 C.1.2.1 dX13_event_162 (lv_at hl 5 rfl) ?_
          obtain ⟨q15, hD⟩ := g_ck hD
          refine mr_lald C hw (Mc_N5 hk0) (Mc_T5 hk0) q15 dX13_event_164 ?_
          refine lv_ladd C.1.1 C.1.2.1 dX13_event_165 ?_
          obtain ⟨x16, ex16, hD⟩ := g_let hD
          refine W.eq (g2 := F0 m 166 ls (.long x16 :: [])) (by rw [ex16]) ?_
          refine lv_lstore (lv' := [(7, .long x16), (6, .int x11), (0, .ref (ad k)), (1, .int a1), (2, .long a2), (4, .int v4), (5, .int v5)]) C.1.1 C.1.2.1 dX13_event_166 hl (by decide) rfl (fun ls hl => ?_)
          refine lv_aload_n C.1.1 C.1.2.1 dX13_event_168 rfl (lv_at hl 2 rfl) ?_
          refine lv_sipush (v := 1000) C.1.1 C.1.2.1 dX13_event_169 (by decide) ?_
          refine lv_iload C.1.1 C.1.2.1 dX13_event_172 (lv_at hl 6 rfl) ?_
          refine lv_iadd C.1.1 C.1.2.1 dX13_event_174 ?_
          obtain ⟨r19, M17, L18, h1, hD⟩ := g_b3 hD
          refine md_cvI (As := [.int (1000 + v5)]) (rest := []) C hw (tX13_choose l G ad fu k (1000 + v5) M13 L h1 hk0) kc_13 (Mc_N0 hk0) (Mc_T0 hk0) wd_4103 cwX13_choose ⟨Nat.le_of_ble_eq_true rfl, Nat.le_of_ble_eq_true rfl⟩ rfl hl.1 (Nat.le_of_ble_eq_true rfl) dX13_event_175 rfl rfl ⟨Nat.zero_le _, Nat.zero_le _⟩ rfl (fun H locs hw => ?_)
          refine lv_istore (lv' := [(9, .int r19), (7, .long x16), (6, .int x11), (0, .ref (ad k)), (1, .int a1), (2, .long a2), (4, .int v4), (5, .int v5)]) C.1.1 C.1.2.1 dX13_event_178 hl (by decide) rfl (fun ls hl => ?_)
          refine lv_iload C.1.1 C.1.2.1 dX13_event_180 (lv_at hl 6 rfl) ?_
          refine lv_aload_n C.1.1 C.1.2.1 dX13_event_182 rfl (lv_at hl 3 rfl) ?_
          refine lv_lload C.1.1 C.1.2.1 dX13_event_183 (lv_at hl 1 rfl) ?_
          obtain ⟨r22, M20, L21, h1, hD⟩ := g_b3 hD
          refine md_cvI (As := [.long x16]) (rest := [.int v4]) C hw (tX13_step l G ad fu k x16 M17 L18 h1 hk0) kc_13 (Mc_N0 hk0) (Mc_T0 hk0) wd_4134 cwX13_step ⟨Nat.le_of_ble_eq_true rfl, Nat.le_of_ble_eq_true rfl⟩ rfl hl.1 (Nat.le_of_ble_eq_true rfl) dX13_event_185 rfl rfl ⟨Nat.zero_le _, Nat.zero_le _⟩ rfl (fun H locs hw => ?_)
          refine lv_iadd C.1.1 C.1.2.1 dX13_event_188 ?_
          obtain ⟨x23, ex23, hD⟩ := g_let hD
          refine W.eq (g2 := F0 m 189 ls (.int x23 :: [])) (by rw [ex23]) ?_
          refine lv_istore (lv' := [(4, .int x23), (9, .int r19), (7, .long x16), (6, .int x11), (0, .ref (ad k)), (1, .int a1), (2, .long a2), (5, .int v5)]) C.1.1 C.1.2.1 dX13_event_189 hl (by decide) rfl (fun ls hl => ?_)
          refine lv_aload_n C.1.1 C.1.2.1 dX13_event_191 rfl (lv_at hl 4 rfl) ?_
          refine lv_lload C.1.1 C.1.2.1 dX13_event_192 (lv_at hl 2 rfl) ?_
          obtain ⟨r26, M24, L25, h1, hD⟩ := g_b3 hD
          refine md_cvI (As := [.long x16]) (rest := []) C hw (tX13_chain l G ad fu k x16 M20 L21 h1 hk0) kc_13 (Mc_N0 hk0) (Mc_T0 hk0) wd_4099 cwX13_chain ⟨Nat.le_of_ble_eq_true rfl, Nat.le_of_ble_eq_true rfl⟩ rfl hl.1 (Nat.le_of_ble_eq_true rfl) dX13_event_194 rfl rfl ⟨Nat.zero_le _, Nat.zero_le _⟩ rfl (fun H locs hw => ?_)
          refine lv_istore (lv' := [(9, .int r26), (4, .int x23), (7, .long x16), (6, .int x11), (0, .ref (ad k)), (1, .int a1), (2, .long a2), (5, .int v5)]) C.1.1 C.1.2.1 dX13_event_197 hl (by decide) rfl (fun ls hl => ?_)
          refine lv_iload C.1.1 C.1.2.1 dX13_event_199 (lv_at hl 0 rfl) ?_
          refine lv_if_ge (tgt := 206) C.1.1 C.1.2.1 dX13_event_201 (by decide) (fun c27 => ?_) (fun c27 => ?_)
          · replace hD := g_pos c27 hD
            refine lv_iload C.1.1 C.1.2.1 dX13_event_206 (lv_at hl 1 rfl) ?_
            refine lv_iload C.1.1 C.1.2.1 dX13_event_208 (lv_at hl 0 rfl) ?_
            refine lv_iadd C.1.1 C.1.2.1 dX13_event_210 ?_
            obtain ⟨x28, ex28, hD⟩ := g_let hD
            refine W.eq (g2 := F0 m 211 ls (.int x28 :: [])) (by rw [ex28]) ?_
            refine lv_istore (lv' := [(4, .int x28), (9, .int r26), (7, .long x16), (6, .int x11), (0, .ref (ad k)), (1, .int a1), (2, .long a2), (5, .int v5)]) C.1.1 C.1.2.1 dX13_event_211 hl (by decide) rfl (fun ls hl => ?_)
            refine lv_aload_n C.1.1 C.1.2.1 dX13_event_213 rfl (lv_at hl 4 rfl) ?_
            refine lv_lload_n C.1.1 C.1.2.1 dX13_event_214 rfl (lv_at hl 6 rfl) ?_
            obtain ⟨r31, M29, L30, h1, hD⟩ := g_b3 hD
            refine md_cvI (As := [.long a2]) (rest := []) C hw (tX13_due l G ad fu k a2 M24 L25 h1 hk0) kc_13 (Mc_N0 hk0) (Mc_T0 hk0) wd_4142 cwX13_due ⟨Nat.le_of_ble_eq_true rfl, Nat.le_of_ble_eq_true rfl⟩ rfl hl.1 (Nat.le_of_ble_eq_true rfl) dX13_event_215 rfl rfl ⟨Nat.zero_le _, Nat.zero_le _⟩ rfl (fun H locs hw => ?_)
            refine lv_istore (lv' := [(5, .int r31), (4, .int x28), (9, .int r26), (7, .long x16), (6, .int x11), (0, .ref (ad k)), (1, .int a1), (2, .long a2)]) C.1.1 C.1.2.1 dX13_event_218 hl (by decide) rfl (fun ls hl => ?_)
            refine lv_goto (tgt := 117) C.1.1 C.1.2.1 dX13_event_220 (by decide) ?_
            exact ih117 x28 r31 x11 M29 L30 _ _ ls hD hw (lv_sub hl [5, 6, 7, 1, 0, 4] rfl)
          · replace hD := g_neg c27 hD
            refine lv_iconst (v := (-1)) C.1.1 C.1.2.1 dX13_event_204 (by decide) ?_
            exact mr_iret C hr hlocks hw rfl (Option.some.inj hD) dX13_event_205
        · replace hD := g_pos c10 hD
          refine lv_aload_n C.1.1 C.1.2.1 dX13_event_130 rfl (lv_at hl 0 rfl) ?_
          refine lv_bipush (v := 6) C.1.1 C.1.2.1 dX13_event_131 (by decide) ?_
          refine lv_iconst (v := 0) C.1.1 C.1.2.1 dX13_event_133 (by decide) ?_
          refine lv_lconst (v := 0) C.1.1 C.1.2.1 dX13_event_134 (by decide) ?_
          obtain ⟨M32, L33, h1, hD⟩ := g_b2 hD
          refine md_cvV (As := [.int 6, .int 0, .long 0]) (rest := []) C hw (tX13_note l G ad fu k 6 0 0 M L h1 hk0) kc_13 (Mc_N0 hk0) (Mc_T0 hk0) wd_4091 cwX13_note ⟨Nat.le_of_ble_eq_true rfl, Nat.le_of_ble_eq_true rfl⟩ rfl hl.1 (Nat.le_of_ble_eq_true rfl) dX13_event_135 rfl rfl ⟨Nat.zero_le _, Nat.zero_le _⟩ rfl (fun H locs hw => ?_)
          refine lv_iconst (v := (-1)) C.1.1 C.1.2.1 dX13_event_138 (by decide) ?_
          exact mr_iret C hr hlocks hw rfl (Option.some.inj hD) dX13_event_139
  have hb107 : ∀ (v4 : Int32) (M : mwM) (L : mwL) (H : Heap) (locs : List Loc) (ls : Array Slot), fX13_event_b107 fu k a1 a2 v4 M L = some (r0, M0, L0) → mw_W G ad NF TF FF M L H locs → lv_has ls 10 [(0, .ref (ad k)), (1, .int a1), (2, .long a2), (4, .int v4)] → W p l e ({ frames := 7, cells := 0, slots := 0, locals := 167 }) s m [.ref (ad k), .int a1, .long a2].toArray below meth c H locs 0 0 (MQ below (mw_Qi G ad NF TF FF (mw_eqI r0 M0 L0)) [.ref (ad k), .int a1, .long a2].toArray s 0 0 (mw_fr G)) (F0 m 107 ls []) := by
    intro v4 M L H locs ls hD hw hl
    unfold fX13_event_b107 at hD
    refine lv_aload_n C.1.1 C.1.2.1 dX13_event_107 rfl (lv_at hl 0 rfl) ?_
    refine lv_lload_n C.1.1 C.1.2.1 dX13_event_108 rfl (lv_at hl 2 rfl) ?_
    obtain ⟨r3, M1, L2, h1, hD⟩ := g_b3 hD
    refine md_cvI (As := [.long a2]) (rest := []) C hw (tX13_due l G ad fu k a2 M L h1 hk0) kc_13 (Mc_N0 hk0) (Mc_T0 hk0) wd_4142 cwX13_due ⟨Nat.le_of_ble_eq_true rfl, Nat.le_of_ble_eq_true rfl⟩ rfl hl.1 (Nat.le_of_ble_eq_true rfl) dX13_event_109 rfl rfl ⟨Nat.zero_le _, Nat.zero_le _⟩ rfl (fun H locs hw => ?_)
    refine lv_istore (lv' := [(5, .int r3), (0, .ref (ad k)), (1, .int a1), (2, .long a2), (4, .int v4)]) C.1.1 C.1.2.1 dX13_event_112 hl (by decide) rfl (fun ls hl => ?_)
    refine lv_iconst (v := 0) C.1.1 C.1.2.1 dX13_event_114 (by decide) ?_
    refine lv_istore (lv' := [(6, .int 0), (5, .int r3), (0, .ref (ad k)), (1, .int a1), (2, .long a2), (4, .int v4)]) C.1.1 C.1.2.1 dX13_event_115 hl (by decide) rfl (fun ls hl => ?_)
    exact hh117 fu v4 r3 0 M1 L2 _ _ ls hD hw (lv_sub hl [2, 3, 4, 5, 1, 0] rfl)
  unfold DX13_event at hD
  refine lv_aload_n C.1.1 C.1.2.1 dX13_event_0 rfl (lv_at hl 0 rfl) ?_
  refine lv_iconst (v := 0) C.1.1 C.1.2.1 dX13_event_1 (by decide) ?_
  obtain ⟨M43, eM43, hD⟩ := g_let hD
  refine mr_putI C hw kc_13 0 (Mc_N0 hk0) (Mc_T0 hk0) wd_2642 dX13_event_2 (by decide) rfl rfl rfl rfl (fun H locs hw => ?_)
  replace hw : mw_W G ad NF TF FF M43 L H locs := by rw [eM43]; exact hw
  refine lv_iload_n C.1.1 C.1.2.1 dX13_event_5 rfl (lv_at hl 1 rfl) ?_
  refine lv_if_lt (tgt := 39) C.1.1 C.1.2.1 dX13_event_6 (by decide) (fun c44 => ?_) (fun c44 => ?_)
  · replace hD := g_pos c44 hD
    exact hb39 M43 L _ _ ls hD hw (lv_sub hl [] rfl)
  · replace hD := g_neg c44 hD
    refine lv_iload_n C.1.1 C.1.2.1 dX13_event_9 rfl (lv_at hl 1 rfl) ?_
    refine lv_sipush (v := 999) C.1.1 C.1.2.1 dX13_event_10 (by decide) ?_
    refine lv_icmp_gt (tgt := 39) C.1.1 C.1.2.1 dX13_event_13 (by decide) (fun c45 => ?_) (fun c45 => ?_)
    · replace hD := g_pos c45 hD
      exact hb39 M43 L _ _ ls hD hw (lv_sub hl [] rfl)
    · replace hD := g_neg c45 hD
      refine lv_lload_n C.1.1 C.1.2.1 dX13_event_16 rfl (lv_at hl 2 rfl) ?_
      refine lv_aload_n C.1.1 C.1.2.1 dX13_event_17 rfl (lv_at hl 0 rfl) ?_
      refine mr_getL C hw kc_13 28 (Mc_N0 hk0) (Mc_T0 hk0) wd_2670 dX13_event_18 (by decide) rfl ?_
      refine W.lcmp C.1.1 C.1.2.1 dX13_event_21 ?_
      refine lv_if_lt (tgt := 39) C.1.1 C.1.2.1 dX13_event_22 (by decide) (fun c46 => ?_) (fun c46 => ?_)
      · replace hD := g_pos c46 hD
        exact hb39 M43 L _ _ ls hD hw (lv_sub hl [] rfl)
      · replace hD := g_neg c46 hD
        refine lv_lload_n C.1.1 C.1.2.1 dX13_event_25 rfl (lv_at hl 2 rfl) ?_
        refine lv_lconst (v := 0) C.1.1 C.1.2.1 dX13_event_26 (by decide) ?_
        refine W.lcmp C.1.1 C.1.2.1 dX13_event_27 ?_
        refine lv_if_lt (tgt := 39) C.1.1 C.1.2.1 dX13_event_28 (by decide) (fun c47 => ?_) (fun c47 => ?_)
        · replace hD := g_pos c47 hD
          exact hb39 M43 L _ _ ls hD hw (lv_sub hl [] rfl)
        · replace hD := g_neg c47 hD
          refine lv_lload_n C.1.1 C.1.2.1 dX13_event_31 rfl (lv_at hl 2 rfl) ?_
          refine lv_ldc2 (v := 4611686018427387904) C.1.1 C.1.2.1 C.1.2.2.2.1 (C.1.2.2.2.2 _ wd_4066) dX13_event_32 ?_
          refine W.lcmp C.1.1 C.1.2.1 dX13_event_35 ?_
          refine lv_if_le (tgt := 42) C.1.1 C.1.2.1 dX13_event_36 (by decide) (fun c48 => ?_) (fun c48 => ?_)
          · replace hD := g_pos c48 hD
            refine lv_aload_n C.1.1 C.1.2.1 dX13_event_42 rfl (lv_at hl 0 rfl) ?_
            refine lv_iconst (v := 0) C.1.1 C.1.2.1 dX13_event_43 (by decide) ?_
            refine lv_iconst (v := 0) C.1.1 C.1.2.1 dX13_event_44 (by decide) ?_
            obtain ⟨r51, M49, L50, h1, hD⟩ := g_b3 hD
            refine md_cvI (As := [.int 0, .int 0]) (rest := []) C hw (tX13_child l G ad fu k 0 0 M43 L h1 hk0) kc_13 (Mc_N0 hk0) (Mc_T0 hk0) wd_4067 cwX13_child ⟨Nat.le_of_ble_eq_true rfl, Nat.le_of_ble_eq_true rfl⟩ rfl hl.1 (Nat.le_of_ble_eq_true rfl) dX13_event_45 rfl rfl ⟨Nat.zero_le _, Nat.zero_le _⟩ rfl (fun H locs hw => ?_)
            refine lv_if_ne (tgt := 54) C.1.1 C.1.2.1 dX13_event_48 (by decide) (fun c52 => ?_) (fun c52 => ?_)
            · replace hD := g_neg c52 hD
              refine lv_aload_n C.1.1 C.1.2.1 dX13_event_54 rfl (lv_at hl 0 rfl) ?_
              refine lv_iconst (v := 0) C.1.1 C.1.2.1 dX13_event_55 (by decide) ?_
              obtain ⟨M53, eM53, hD⟩ := g_let hD
              refine mr_putI C hw kc_13 31 (Mc_N0 hk0) (Mc_T0 hk0) wd_2673 dX13_event_56 (by decide) rfl rfl rfl rfl (fun H locs hw => ?_)
              replace hw : mw_W G ad NF TF FF M53 L50 H locs := by rw [eM53]; exact hw
              refine lv_aload_n C.1.1 C.1.2.1 dX13_event_59 rfl (lv_at hl 0 rfl) ?_
              refine lv_lload_n C.1.1 C.1.2.1 dX13_event_60 rfl (lv_at hl 2 rfl) ?_
              obtain ⟨L54, eL54, hD⟩ := g_let hD
              refine mr_putL C hw kc_13 28 (Mc_N0 hk0) (Mc_T0 hk0) wd_2670 dX13_event_61 (by decide) rfl rfl rfl rfl (fun H locs hw => ?_)
              replace hw : mw_W G ad NF TF FF M53 L54 H locs := by rw [eL54]; exact hw
              refine lv_iconst (v := 0) C.1.1 C.1.2.1 dX13_event_64 (by decide) ?_
              refine lv_istore (lv' := [(4, .int 0), (0, .ref (ad k)), (1, .int a1), (2, .long a2)]) C.1.1 C.1.2.1 dX13_event_65 hl (by decide) rfl (fun ls hl => ?_)
              refine lv_aload_n C.1.1 C.1.2.1 dX13_event_67 rfl (lv_at hl 1 rfl) ?_
              refine mr_getI C hw kc_13 27 (Mc_N0 hk0) (Mc_T0 hk0) wd_2669 dX13_event_68 (by decide) rfl ?_
              refine lv_if_ne (tgt := 107) C.1.1 C.1.2.1 dX13_event_71 (by decide) (fun c55 => ?_) (fun c55 => ?_)
              · replace hD := g_neg c55 hD
                exact hb107 0 M53 L54 _ _ ls hD hw (lv_sub hl [1, 2, 3, 0] rfl)
              · replace hD := g_pos c55 hD
                refine lv_aload_n C.1.1 C.1.2.1 dX13_event_74 rfl (lv_at hl 1 rfl) ?_
                refine lv_iconst (v := 1) C.1.1 C.1.2.1 dX13_event_75 (by decide) ?_
                obtain ⟨M56, eM56, hD⟩ := g_let hD
                refine mr_putI C hw kc_13 27 (Mc_N0 hk0) (Mc_T0 hk0) wd_2669 dX13_event_76 (by decide) rfl rfl (by decide +kernel) (by decide +kernel) (fun H locs hw => ?_)
                replace hw : mw_W G ad NF TF FF M56 L54 H locs := by rw [eM56]; exact hw
                refine lv_aload_n C.1.1 C.1.2.1 dX13_event_79 rfl (lv_at hl 1 rfl) ?_
                refine mr_getR C hw kc_13 11 (Mc_N0 hk0) (Mc_T0 hk0) (Mc_F0_11 hk0) wd_2653 dX13_event_80 (by decide) rfl ?_
                refine lv_iconst (v := 0) C.1.1 C.1.2.1 dX13_event_83 (by decide) ?_
                refine lv_iconst (v := 1) C.1.1 C.1.2.1 dX13_event_84 (by decide) ?_
                obtain ⟨M58, eM58, hD⟩ := g_let hD
                refine mr_zast C hw (Mc_N9 hk0) (Mc_T9 hk0) (show vp_in 0 201 from by unfold vp_in; decide) dX13_event_85 (fun H locs hw => ?_)
                replace hw : mw_W G ad NF TF FF M58 L54 H locs := by rw [eM58]; exact hw
                refine lv_aload_n C.1.1 C.1.2.1 dX13_event_86 rfl (lv_at hl 1 rfl) ?_
                refine lv_iconst (v := 0) C.1.1 C.1.2.1 dX13_event_87 (by decide) ?_
                refine lv_iconst (v := 0) C.1.1 C.1.2.1 dX13_event_88 (by decide) ?_
                refine lv_lload_n C.1.1 C.1.2.1 dX13_event_89 rfl (lv_at hl 3 rfl) ?_
                obtain ⟨M59, L60, h1, hD⟩ := g_b2 hD
                refine md_cvV (As := [.int 0, .int 0, .long a2]) (rest := []) C hw (tX13_enter l G ad fu k 0 0 a2 M58 L54 h1 hk0) kc_13 (Mc_N0 hk0) (Mc_T0 hk0) wd_4071 cwX13_enter ⟨Nat.le_of_ble_eq_true rfl, Nat.le_of_ble_eq_true rfl⟩ rfl hl.1 (Nat.le_of_ble_eq_true rfl) dX13_event_90 rfl rfl ⟨Nat.zero_le _, Nat.zero_le _⟩ rfl (fun H locs hw => ?_)
                refine lv_aload_n C.1.1 C.1.2.1 dX13_event_93 rfl (lv_at hl 1 rfl) ?_
                refine lv_lload_n C.1.1 C.1.2.1 dX13_event_94 rfl (lv_at hl 3 rfl) ?_
                obtain ⟨r63, M61, L62, h1, hD⟩ := g_b3 hD
                refine md_cvI (As := [.long a2]) (rest := []) C hw (tX13_chain l G ad fu k a2 M59 L60 h1 hk0) kc_13 (Mc_N0 hk0) (Mc_T0 hk0) wd_4099 cwX13_chain ⟨Nat.le_of_ble_eq_true rfl, Nat.le_of_ble_eq_true rfl⟩ rfl hl.1 (Nat.le_of_ble_eq_true rfl) dX13_event_95 rfl rfl ⟨Nat.zero_le _, Nat.zero_le _⟩ rfl (fun H locs hw => ?_)
                refine lv_istore (lv' := [(4, .int r63), (0, .ref (ad k)), (1, .int a1), (2, .long a2)]) C.1.1 C.1.2.1 dX13_event_98 hl (by decide) rfl (fun ls hl => ?_)
                refine lv_iload C.1.1 C.1.2.1 dX13_event_100 (lv_at hl 0 rfl) ?_
                refine lv_if_ge (tgt := 107) C.1.1 C.1.2.1 dX13_event_102 (by decide) (fun c64 => ?_) (fun c64 => ?_)
                · replace hD := g_pos c64 hD
                  exact hb107 r63 M61 L62 _ _ ls hD hw (lv_sub hl [1, 2, 3, 0] rfl)
                · replace hD := g_neg c64 hD
                  refine lv_iconst (v := (-1)) C.1.1 C.1.2.1 dX13_event_105 (by decide) ?_
                  exact mr_iret C hr hlocks hw rfl (Option.some.inj hD) dX13_event_106
            · replace hD := g_pos c52 hD
              refine lv_bipush (v := (-3)) C.1.1 C.1.2.1 dX13_event_51 (by decide) ?_
              exact mr_iret C hr hlocks hw rfl (Option.some.inj hD) dX13_event_53
          · replace hD := g_neg c48 hD
            exact hb39 M43 L _ _ ls hD hw (lv_sub hl [] rfl)

theorem dX13_active_0 : decode cX13_active 0 = .ok (.aload_n 0, 1) := by decide +kernel
theorem dX13_active_1 : decode cX13_active 1 = .ok (.iconst 0, 1) := by decide +kernel
theorem dX13_active_2 : decode cX13_active 2 = .ok (.putfield 132, 3) := by decide +kernel
theorem dX13_active_5 : decode cX13_active 5 = .ok (.aload_n 0, 1) := by decide +kernel
theorem dX13_active_6 : decode cX13_active 6 = .ok (.iload_n 1, 1) := by decide +kernel
theorem dX13_active_7 : decode cX13_active 7 = .ok (.invokevirtual 135, 3) := by decide +kernel
theorem dX13_active_10 : decode cX13_active 10 = .ok (.ifCond .eq 5, 3) := by decide +kernel
theorem dX13_active_13 : decode cX13_active 13 = .ok (.iconst (-1), 1) := by decide +kernel
theorem dX13_active_14 : decode cX13_active 14 = .ok (.ireturn, 1) := by decide +kernel
theorem dX13_active_15 : decode cX13_active 15 = .ok (.aload_n 0, 1) := by decide +kernel
theorem dX13_active_16 : decode cX13_active 16 = .ok (.getfield 115, 3) := by decide +kernel
theorem dX13_active_19 : decode cX13_active 19 = .ok (.ifCond .ne 6, 3) := by decide +kernel
theorem dX13_active_22 : decode cX13_active 22 = .ok (.bipush (-3), 2) := by decide +kernel
theorem dX13_active_24 : decode cX13_active 24 = .ok (.ireturn, 1) := by decide +kernel
theorem dX13_active_25 : decode cX13_active 25 = .ok (.aload_n 0, 1) := by decide +kernel
theorem dX13_active_26 : decode cX13_active 26 = .ok (.getfield 36, 3) := by decide +kernel
theorem dX13_active_29 : decode cX13_active 29 = .ok (.iload_n 1, 1) := by decide +kernel
theorem dX13_active_30 : decode cX13_active 30 = .ok (.baload, 1) := by decide +kernel
theorem dX13_active_31 : decode cX13_active 31 = .ok (.ifCond .ne 5, 3) := by decide +kernel
theorem dX13_active_34 : decode cX13_active 34 = .ok (.iconst 0, 1) := by decide +kernel
theorem dX13_active_35 : decode cX13_active 35 = .ok (.ireturn, 1) := by decide +kernel
theorem dX13_active_36 : decode cX13_active 36 = .ok (.iload_n 1, 1) := by decide +kernel
theorem dX13_active_37 : decode cX13_active 37 = .ok (.istore_n 2, 1) := by decide +kernel
theorem dX13_active_38 : decode cX13_active 38 = .ok (.aload_n 0, 1) := by decide +kernel
theorem dX13_active_39 : decode cX13_active 39 = .ok (.getfield 7, 3) := by decide +kernel
theorem dX13_active_42 : decode cX13_active 42 = .ok (.iload_n 2, 1) := by decide +kernel
theorem dX13_active_43 : decode cX13_active 43 = .ok (.iaload, 1) := by decide +kernel
theorem dX13_active_44 : decode cX13_active 44 = .ok (.ifCond .ne 22, 3) := by decide +kernel
theorem dX13_active_47 : decode cX13_active 47 = .ok (.aload_n 0, 1) := by decide +kernel
theorem dX13_active_48 : decode cX13_active 48 = .ok (.iload_n 2, 1) := by decide +kernel
theorem dX13_active_49 : decode cX13_active 49 = .ok (.iconst 1, 1) := by decide +kernel
theorem dX13_active_50 : decode cX13_active 50 = .ok (.invokevirtual 184, 3) := by decide +kernel
theorem dX13_active_53 : decode cX13_active 53 = .ok (.ifCond .le 13, 3) := by decide +kernel
theorem dX13_active_56 : decode cX13_active 56 = .ok (.aload_n 0, 1) := by decide +kernel
theorem dX13_active_57 : decode cX13_active 57 = .ok (.iload_n 2, 1) := by decide +kernel
theorem dX13_active_58 : decode cX13_active 58 = .ok (.iconst 1, 1) := by decide +kernel
theorem dX13_active_59 : decode cX13_active 59 = .ok (.invokevirtual 184, 3) := by decide +kernel
theorem dX13_active_62 : decode cX13_active 62 = .ok (.istore_n 2, 1) := by decide +kernel
theorem dX13_active_63 : decode cX13_active 63 = .ok (.goto (-25), 3) := by decide +kernel
theorem dX13_active_66 : decode cX13_active 66 = .ok (.iload_n 2, 1) := by decide +kernel
theorem dX13_active_67 : decode cX13_active 67 = .ok (.ireturn, 1) := by decide +kernel
theorem cwX13_active : mw_cwV yX13_active cX13_active 3 ((some .int)) 1 := ⟨⟨wd_20, wd_4277, by decide +kernel⟩, wd_4275, wd_4276⟩
noncomputable def fX13_active_b66 (fu : Nat) (k : Nat) (a1 : Int32) (v2 : Int32) (M : mwM) (L : mwL) : Option (Int32 × mwM × mwL) :=
  some (v2, M, L)
noncomputable def fX13_active_i38 (fu : Nat) (k : Nat) (a1 : Int32) (r38 : (Int32 × mwM × mwL) → Option (Int32 × mwM × mwL)) (v2 : Int32) (M : mwM) (L : mwL) : Option (Int32 × mwM × mwL) :=
  mck v2 201 ((if (M (k + 1) v2.toNatClampNeg) = 0 then mb3 (DX13_child fu k v2 1 M L) (fun r5 M3 L4 => (if r5 ≤ 0 then fX13_active_b66 fu k a1 v2 M3 L4 else mb3 (DX13_child fu k v2 1 M3 L4) (fun r9 M7 L8 => r38 (r9, M7, L8)))) else fX13_active_b66 fu k a1 v2 M L))
noncomputable def fX13_active_h38 (fu : Nat) (k : Nat) (a1 : Int32) : Nat → (Int32 × mwM × mwL) → Option (Int32 × mwM × mwL) := mloop (fun r38 s => fX13_active_i38 fu k a1 r38 s.1 s.2.1 s.2.2)
noncomputable def DX13_active (fu : Nat) (k : Nat) (a1 : Int32) (M : mwM) (L : mwL) : Option (Int32 × mwM × mwL) :=
  mlet (mset M k 0 0) (fun M10 => mb3 (DX13_none fu k a1 M10 L) (fun r13 M11 L12 => (if r13 = 0 then (if (M11 k 27) = 0 then some ((-3), M11, L12) else mck a1 201 ((if (M11 (k + 9) a1.toNatClampNeg) = 0 then some (0, M11, L12) else fX13_active_h38 fu k a1 fu (a1, M11, L12)))) else some ((-1), M11, L12))))
set_option maxHeartbeats 4000000 in
set_option maxRecDepth 100000 in
theorem tX13_active (l : Launch) (G : mwG) (ad : Nat → Nat) (fu : Nat) (k : Nat) (a1 : Int32) (M : mwM) (L : mwL) {r0 : Int32} {M0 : mwM} {L0 : mwL} (hD : DX13_active fu k a1 M L = some (r0, M0, L0)) (hk0 : isMc k) : Met l yX13_active (Cond.code yX13_active cX13_active 3 ((some .int)) :: GT) ({ frames := 2, cells := 0, slots := 0, locals := 44 }) (mw_Pre G ad NF TF FF M L [.ref (ad k), .int a1]) (mw_Qi G ad NF TF FF (mw_eqI r0 M0 L0)) 0 0 (mw_fr G) := by
  refine mw_enter (by decide) (Nat.le_of_ble_eq_true rfl) ?_
  intro p e s m below meth c ls C hr hlocks hnm hw hl
  have hl : lv_has ls 3 [(0, .ref (ad k)), (1, .int a1)] := hl
  have hb66 : ∀ (v2 : Int32) (M : mwM) (L : mwL) (H : Heap) (locs : List Loc) (ls : Array Slot), fX13_active_b66 fu k a1 v2 M L = some (r0, M0, L0) → mw_W G ad NF TF FF M L H locs → lv_has ls 3 [(2, .int v2)] → W p l e ({ frames := 2, cells := 0, slots := 0, locals := 44 }) s m [.ref (ad k), .int a1].toArray below meth c H locs 0 0 (MQ below (mw_Qi G ad NF TF FF (mw_eqI r0 M0 L0)) [.ref (ad k), .int a1].toArray s 0 0 (mw_fr G)) (F0 m 66 ls []) := by
    intro v2 M L H locs ls hD hw hl
    unfold fX13_active_b66 at hD
    refine lv_iload_n C.1.1 C.1.2.1 dX13_active_66 rfl (lv_at hl 0 rfl) ?_
    exact mr_iret C hr hlocks hw rfl (Option.some.inj hD) dX13_active_67
  have hh38 : ∀ (f : Nat) (v2 : Int32) (M : mwM) (L : mwL) (H : Heap) (locs : List Loc) (ls : Array Slot), fX13_active_h38 fu k a1 f (v2, M, L) = some (r0, M0, L0) → mw_W G ad NF TF FF M L H locs → lv_has ls 3 [(0, .ref (ad k)), (2, .int v2)] → W p l e ({ frames := 2, cells := 0, slots := 0, locals := 44 }) s m [.ref (ad k), .int a1].toArray below meth c H locs 0 0 (MQ below (mw_Qi G ad NF TF FF (mw_eqI r0 M0 L0)) [.ref (ad k), .int a1].toArray s 0 0 (mw_fr G)) (F0 m 38 ls []) := by
    intro f
    induction f with
    | zero => intro v2 M L H locs ls hD; cases hD
    | succ f38 ih38 =>
      intro v2 M L H locs ls hD hw hl
      replace hD : fX13_active_i38 fu k a1 (fX13_active_h38 fu k a1 f38) v2 M L = some (r0, M0, L0) := hD
      unfold fX13_active_i38 at hD
      refine lv_aload_n C.1.1 C.1.2.1 dX13_active_38 rfl (lv_at hl 0 rfl) ?_
      refine mr_getR C hw kc_13 3 (Mc_N0 hk0) (Mc_T0 hk0) (Mc_F0_3 hk0) wd_2645 dX13_active_39 (by decide) rfl ?_
      refine lv_iload_n C.1.1 C.1.2.1 dX13_active_42 rfl (lv_at hl 1 rfl) ?_
      obtain ⟨q1, hD⟩ := g_ck hD
      refine mr_iald C hw (Mc_N1 hk0) (Mc_T1 hk0) q1 dX13_active_43 ?_
      refine lv_if_ne (tgt := 66) C.1.1 C.1.2.1 dX13_active_44 (by decide) (fun c2 => ?_) (fun c2 => ?_)
      · replace hD := g_neg c2 hD
        exact hb66 v2 M L _ _ ls hD hw (lv_sub hl [1] rfl)
      · replace hD := g_pos c2 hD
        refine lv_aload_n C.1.1 C.1.2.1 dX13_active_47 rfl (lv_at hl 0 rfl) ?_
        refine lv_iload_n C.1.1 C.1.2.1 dX13_active_48 rfl (lv_at hl 1 rfl) ?_
        refine lv_iconst (v := 1) C.1.1 C.1.2.1 dX13_active_49 (by decide) ?_
        obtain ⟨r5, M3, L4, h1, hD⟩ := g_b3 hD
        refine md_cvI (As := [.int v2, .int 1]) (rest := []) C hw (tX13_child l G ad fu k v2 1 M L h1 hk0) kc_13 (Mc_N0 hk0) (Mc_T0 hk0) wd_4067 cwX13_child ⟨Nat.le_of_ble_eq_true rfl, Nat.le_of_ble_eq_true rfl⟩ rfl hl.1 (Nat.le_of_ble_eq_true rfl) dX13_active_50 rfl rfl ⟨Nat.zero_le _, Nat.zero_le _⟩ rfl (fun H locs hw => ?_)
        refine lv_if_le (tgt := 66) C.1.1 C.1.2.1 dX13_active_53 (by decide) (fun c6 => ?_) (fun c6 => ?_)
        · replace hD := g_pos c6 hD
          exact hb66 v2 M3 L4 _ _ ls hD hw (lv_sub hl [1] rfl)
        · replace hD := g_neg c6 hD
          refine lv_aload_n C.1.1 C.1.2.1 dX13_active_56 rfl (lv_at hl 0 rfl) ?_
          refine lv_iload_n C.1.1 C.1.2.1 dX13_active_57 rfl (lv_at hl 1 rfl) ?_
          refine lv_iconst (v := 1) C.1.1 C.1.2.1 dX13_active_58 (by decide) ?_
          obtain ⟨r9, M7, L8, h1, hD⟩ := g_b3 hD
          refine md_cvI (As := [.int v2, .int 1]) (rest := []) C hw (tX13_child l G ad fu k v2 1 M3 L4 h1 hk0) kc_13 (Mc_N0 hk0) (Mc_T0 hk0) wd_4067 cwX13_child ⟨Nat.le_of_ble_eq_true rfl, Nat.le_of_ble_eq_true rfl⟩ rfl hl.1 (Nat.le_of_ble_eq_true rfl) dX13_active_59 rfl rfl ⟨Nat.zero_le _, Nat.zero_le _⟩ rfl (fun H locs hw => ?_)
          refine lv_istore_n (lv' := [(2, .int r9), (0, .ref (ad k))]) C.1.1 C.1.2.1 dX13_active_62 rfl hl (by decide) rfl (fun ls hl => ?_)
          refine lv_goto (tgt := 38) C.1.1 C.1.2.1 dX13_active_63 (by decide) ?_
          exact ih38 r9 M7 L8 _ _ ls hD hw (lv_sub hl [1, 0] rfl)
  unfold DX13_active at hD
  refine lv_aload_n C.1.1 C.1.2.1 dX13_active_0 rfl (lv_at hl 0 rfl) ?_
  refine lv_iconst (v := 0) C.1.1 C.1.2.1 dX13_active_1 (by decide) ?_
  obtain ⟨M10, eM10, hD⟩ := g_let hD
  refine mr_putI C hw kc_13 0 (Mc_N0 hk0) (Mc_T0 hk0) wd_2642 dX13_active_2 (by decide) rfl rfl rfl rfl (fun H locs hw => ?_)
  replace hw : mw_W G ad NF TF FF M10 L H locs := by rw [eM10]; exact hw
  refine lv_aload_n C.1.1 C.1.2.1 dX13_active_5 rfl (lv_at hl 0 rfl) ?_
  refine lv_iload_n C.1.1 C.1.2.1 dX13_active_6 rfl (lv_at hl 1 rfl) ?_
  obtain ⟨r13, M11, L12, h1, hD⟩ := g_b3 hD
  refine md_cvI (As := [.int a1]) (rest := []) C hw (tX13_none l G ad fu k a1 M10 L h1 hk0) kc_13 (Mc_N0 hk0) (Mc_T0 hk0) wd_3264 cwX13_none ⟨Nat.le_of_ble_eq_true rfl, Nat.le_of_ble_eq_true rfl⟩ rfl hl.1 (Nat.le_of_ble_eq_true rfl) dX13_active_7 rfl rfl ⟨Nat.zero_le _, Nat.zero_le _⟩ rfl (fun H locs hw => ?_)
  refine lv_if_eq (tgt := 15) C.1.1 C.1.2.1 dX13_active_10 (by decide) (fun c14 => ?_) (fun c14 => ?_)
  · replace hD := g_pos c14 hD
    refine lv_aload_n C.1.1 C.1.2.1 dX13_active_15 rfl (lv_at hl 0 rfl) ?_
    refine mr_getI C hw kc_13 27 (Mc_N0 hk0) (Mc_T0 hk0) wd_2669 dX13_active_16 (by decide) rfl ?_
    refine lv_if_ne (tgt := 25) C.1.1 C.1.2.1 dX13_active_19 (by decide) (fun c15 => ?_) (fun c15 => ?_)
    · replace hD := g_neg c15 hD
      refine lv_aload_n C.1.1 C.1.2.1 dX13_active_25 rfl (lv_at hl 0 rfl) ?_
      refine mr_getR C hw kc_13 11 (Mc_N0 hk0) (Mc_T0 hk0) (Mc_F0_11 hk0) wd_2653 dX13_active_26 (by decide) rfl ?_
      refine lv_iload_n C.1.1 C.1.2.1 dX13_active_29 rfl (lv_at hl 1 rfl) ?_
      obtain ⟨q16, hD⟩ := g_ck hD
      refine mr_zald C hw (Mc_N9 hk0) (Mc_T9 hk0) q16 dX13_active_30 ?_
      refine lv_if_ne (tgt := 36) C.1.1 C.1.2.1 dX13_active_31 (by decide) (fun c17 => ?_) (fun c17 => ?_)
      · replace hD := g_neg c17 hD
        refine lv_iload_n C.1.1 C.1.2.1 dX13_active_36 rfl (lv_at hl 1 rfl) ?_
        refine lv_istore_n (lv' := [(2, .int a1), (0, .ref (ad k)), (1, .int a1)]) C.1.1 C.1.2.1 dX13_active_37 rfl hl (by decide) rfl (fun ls hl => ?_)
        exact hh38 fu a1 M11 L12 _ _ ls hD hw (lv_sub hl [1, 0] rfl)
      · replace hD := g_pos c17 hD
        refine lv_iconst (v := 0) C.1.1 C.1.2.1 dX13_active_34 (by decide) ?_
        exact mr_iret C hr hlocks hw rfl (Option.some.inj hD) dX13_active_35
    · replace hD := g_pos c15 hD
      refine lv_bipush (v := (-3)) C.1.1 C.1.2.1 dX13_active_22 (by decide) ?_
      exact mr_iret C hr hlocks hw rfl (Option.some.inj hD) dX13_active_24
  · replace hD := g_neg c14 hD
    refine lv_iconst (v := (-1)) C.1.1 C.1.2.1 dX13_active_13 (by decide) ?_
    exact mr_iret C hr hlocks hw rfl (Option.some.inj hD) dX13_active_14

theorem dX13_value_0 : decode cX13_value 0 = .ok (.aload_n 0, 1) := by decide +kernel
theorem dX13_value_1 : decode cX13_value 1 = .ok (.iconst 0, 1) := by decide +kernel
theorem dX13_value_2 : decode cX13_value 2 = .ok (.putfield 132, 3) := by decide +kernel
theorem dX13_value_5 : decode cX13_value 5 = .ok (.iload_n 1, 1) := by decide +kernel
theorem dX13_value_6 : decode cX13_value 6 = .ok (.ifCond .lt 9, 3) := by decide +kernel
theorem dX13_value_9 : decode cX13_value 9 = .ok (.iload_n 1, 1) := by decide +kernel
theorem dX13_value_10 : decode cX13_value 10 = .ok (.bipush 31, 2) := by decide +kernel
theorem dX13_value_12 : decode cX13_value 12 = .ok (.if_icmp .le 7, 3) := by decide +kernel
theorem dX13_value_15 : decode cX13_value 15 = .ok (.lconst 0, 1) := by decide +kernel
theorem dX13_value_16 : decode cX13_value 16 = .ok (.goto 9, 3) := by decide +kernel
theorem dX13_value_19 : decode cX13_value 19 = .ok (.aload_n 0, 1) := by decide +kernel
theorem dX13_value_20 : decode cX13_value 20 = .ok (.getfield 72, 3) := by decide +kernel
theorem dX13_value_23 : decode cX13_value 23 = .ok (.iload_n 1, 1) := by decide +kernel
theorem dX13_value_24 : decode cX13_value 24 = .ok (.laload, 1) := by decide +kernel
theorem dX13_value_25 : decode cX13_value 25 = .ok (.lreturn, 1) := by decide +kernel
theorem cwX13_value : mw_cwV yX13_value cX13_value 2 ((some .long)) 1 := ⟨⟨wd_20, wd_3553, by decide +kernel⟩, wd_3551, wd_3552⟩
noncomputable def fX13_value_b25 (fu : Nat) (k : Nat) (a1 : Int32) (s0 : Int64) (M : mwM) (L : mwL) : Option (Int64 × mwM × mwL) :=
  some (s0, M, L)
noncomputable def fX13_value_b15 (fu : Nat) (k : Nat) (a1 : Int32) (M : mwM) (L : mwL) : Option (Int64 × mwM × mwL) :=
  fX13_value_b25 fu k a1 0 M L
noncomputable def DX13_value (fu : Nat) (k : Nat) (a1 : Int32) (M : mwM) (L : mwL) : Option (Int64 × mwM × mwL) :=
  mlet (mset M k 0 0) (fun M1 => (if a1 < 0 then fX13_value_b15 fu k a1 M1 L else (if a1 ≤ 31 then mck a1 32 (fX13_value_b25 fu k a1 (L (k + 21) a1.toNatClampNeg) M1 L) else fX13_value_b15 fu k a1 M1 L)))
set_option maxHeartbeats 4000000 in
set_option maxRecDepth 100000 in
theorem tX13_value (l : Launch) (G : mwG) (ad : Nat → Nat) (fu : Nat) (k : Nat) (a1 : Int32) (M : mwM) (L : mwL) {r0 : Int64} {M0 : mwM} {L0 : mwL} (hD : DX13_value fu k a1 M L = some (r0, M0, L0)) (hk0 : isMc k) : Met l yX13_value (Cond.code yX13_value cX13_value 2 ((some .long)) :: GT) ({ frames := 0, cells := 0, slots := 0, locals := 0 }) (mw_Pre G ad NF TF FF M L [.ref (ad k), .int a1]) (mw_Ql G ad NF TF FF (mw_eqL r0 M0 L0)) 0 0 (mw_fr G) := by
  refine mw_enter (by decide) (Nat.le_of_ble_eq_true rfl) ?_
  intro p e s m below meth c ls C hr hlocks hnm hw hl
  have hl : lv_has ls 2 [(0, .ref (ad k)), (1, .int a1)] := hl
  have hb25 : ∀ (s0 : Int64) (M : mwM) (L : mwL) (H : Heap) (locs : List Loc) (ls : Array Slot), fX13_value_b25 fu k a1 s0 M L = some (r0, M0, L0) → mw_W G ad NF TF FF M L H locs → lv_has ls 2 [] → W p l e ({ frames := 0, cells := 0, slots := 0, locals := 0 }) s m [.ref (ad k), .int a1].toArray below meth c H locs 0 0 (MQ below (mw_Ql G ad NF TF FF (mw_eqL r0 M0 L0)) [.ref (ad k), .int a1].toArray s 0 0 (mw_fr G)) (F0 m 25 ls [.long s0]) := by
    intro s0 M L H locs ls hD hw hl
    unfold fX13_value_b25 at hD
    exact mr_lret C hr hlocks hw (Option.some.inj hD) dX13_value_25
  have hb15 : ∀ (M : mwM) (L : mwL) (H : Heap) (locs : List Loc) (ls : Array Slot), fX13_value_b15 fu k a1 M L = some (r0, M0, L0) → mw_W G ad NF TF FF M L H locs → lv_has ls 2 [] → W p l e ({ frames := 0, cells := 0, slots := 0, locals := 0 }) s m [.ref (ad k), .int a1].toArray below meth c H locs 0 0 (MQ below (mw_Ql G ad NF TF FF (mw_eqL r0 M0 L0)) [.ref (ad k), .int a1].toArray s 0 0 (mw_fr G)) (F0 m 15 ls []) := by
    intro M L H locs ls hD hw hl
    unfold fX13_value_b15 at hD
    refine lv_lconst (v := 0) C.1.1 C.1.2.1 dX13_value_15 (by decide) ?_
    refine lv_goto (tgt := 25) C.1.1 C.1.2.1 dX13_value_16 (by decide) ?_
    exact hb25 0 M L _ _ ls hD hw (lv_sub hl [] rfl)
  unfold DX13_value at hD
  refine lv_aload_n C.1.1 C.1.2.1 dX13_value_0 rfl (lv_at hl 0 rfl) ?_
  refine lv_iconst (v := 0) C.1.1 C.1.2.1 dX13_value_1 (by decide) ?_
  obtain ⟨M1, eM1, hD⟩ := g_let hD
  refine mr_putI C hw kc_13 0 (Mc_N0 hk0) (Mc_T0 hk0) wd_2642 dX13_value_2 (by decide) rfl rfl rfl rfl (fun H locs hw => ?_)
  replace hw : mw_W G ad NF TF FF M1 L H locs := by rw [eM1]; exact hw
  refine lv_iload_n C.1.1 C.1.2.1 dX13_value_5 rfl (lv_at hl 1 rfl) ?_
  refine lv_if_lt (tgt := 15) C.1.1 C.1.2.1 dX13_value_6 (by decide) (fun c2 => ?_) (fun c2 => ?_)
  · replace hD := g_pos c2 hD
    exact hb15 M1 L _ _ ls hD hw (lv_sub hl [] rfl)
  · replace hD := g_neg c2 hD
    refine lv_iload_n C.1.1 C.1.2.1 dX13_value_9 rfl (lv_at hl 1 rfl) ?_
    refine lv_bipush (v := 31) C.1.1 C.1.2.1 dX13_value_10 (by decide) ?_
    refine lv_icmp_le (tgt := 19) C.1.1 C.1.2.1 dX13_value_12 (by decide) (fun c3 => ?_) (fun c3 => ?_)
    · replace hD := g_pos c3 hD
      refine lv_aload_n C.1.1 C.1.2.1 dX13_value_19 rfl (lv_at hl 0 rfl) ?_
      refine mr_getR C hw kc_13 25 (Mc_N0 hk0) (Mc_T0 hk0) (Mc_F0_25 hk0) wd_2667 dX13_value_20 (by decide) rfl ?_
      refine lv_iload_n C.1.1 C.1.2.1 dX13_value_23 rfl (lv_at hl 1 rfl) ?_
      obtain ⟨q4, hD⟩ := g_ck hD
      refine mr_lald C hw (Mc_N21 hk0) (Mc_T21 hk0) q4 dX13_value_24 ?_
      exact hb25 (L (k + 21) a1.toNatClampNeg) M1 L _ _ ls hD hw (lv_sub hl [] rfl)
    · replace hD := g_neg c3 hD
      exact hb15 M1 L _ _ ls hD hw (lv_sub hl [] rfl)

theorem dX13_dropped_0 : decode cX13_dropped 0 = .ok (.aload_n 0, 1) := by decide +kernel
theorem dX13_dropped_1 : decode cX13_dropped 1 = .ok (.iconst 0, 1) := by decide +kernel
theorem dX13_dropped_2 : decode cX13_dropped 2 = .ok (.putfield 132, 3) := by decide +kernel
theorem dX13_dropped_5 : decode cX13_dropped 5 = .ok (.aload_n 0, 1) := by decide +kernel
theorem dX13_dropped_6 : decode cX13_dropped 6 = .ok (.getfield 123, 3) := by decide +kernel
theorem dX13_dropped_9 : decode cX13_dropped 9 = .ok (.ireturn, 1) := by decide +kernel
theorem cwX13_dropped : mw_cwV yX13_dropped cX13_dropped 1 ((some .int)) 0 := ⟨⟨wd_20, wd_4289, by decide +kernel⟩, wd_4287, wd_4288⟩
noncomputable def DX13_dropped (fu : Nat) (k : Nat) (M : mwM) (L : mwL) : Option (Int32 × mwM × mwL) :=
  mlet (mset M k 0 0) (fun M1 => some (M1 k 29, M1, L))
set_option maxHeartbeats 4000000 in
set_option maxRecDepth 100000 in
theorem tX13_dropped (l : Launch) (G : mwG) (ad : Nat → Nat) (fu : Nat) (k : Nat) (M : mwM) (L : mwL) {r0 : Int32} {M0 : mwM} {L0 : mwL} (hD : DX13_dropped fu k M L = some (r0, M0, L0)) (hk0 : isMc k) : Met l yX13_dropped (Cond.code yX13_dropped cX13_dropped 1 ((some .int)) :: GT) ({ frames := 0, cells := 0, slots := 0, locals := 0 }) (mw_Pre G ad NF TF FF M L [.ref (ad k)]) (mw_Qi G ad NF TF FF (mw_eqI r0 M0 L0)) 0 0 (mw_fr G) := by
  refine mw_enter (by decide) (Nat.le_of_ble_eq_true rfl) ?_
  intro p e s m below meth c ls C hr hlocks hnm hw hl
  have hl : lv_has ls 1 [(0, .ref (ad k))] := hl
  unfold DX13_dropped at hD
  refine lv_aload_n C.1.1 C.1.2.1 dX13_dropped_0 rfl (lv_at hl 0 rfl) ?_
  refine lv_iconst (v := 0) C.1.1 C.1.2.1 dX13_dropped_1 (by decide) ?_
  obtain ⟨M1, eM1, hD⟩ := g_let hD
  refine mr_putI C hw kc_13 0 (Mc_N0 hk0) (Mc_T0 hk0) wd_2642 dX13_dropped_2 (by decide) rfl rfl rfl rfl (fun H locs hw => ?_)
  replace hw : mw_W G ad NF TF FF M1 L H locs := by rw [eM1]; exact hw
  refine lv_aload_n C.1.1 C.1.2.1 dX13_dropped_5 rfl (lv_at hl 0 rfl) ?_
  refine mr_getI C hw kc_13 29 (Mc_N0 hk0) (Mc_T0 hk0) wd_2671 dX13_dropped_6 (by decide) rfl ?_
  exact mr_iret C hr hlocks hw rfl (Option.some.inj hD) dX13_dropped_9

theorem dX13_covered_0 : decode cX13_covered 0 = .ok (.aload_n 0, 1) := by decide +kernel
theorem dX13_covered_1 : decode cX13_covered 1 = .ok (.iconst 0, 1) := by decide +kernel
theorem dX13_covered_2 : decode cX13_covered 2 = .ok (.putfield 132, 3) := by decide +kernel
theorem dX13_covered_5 : decode cX13_covered 5 = .ok (.iload_n 1, 1) := by decide +kernel
theorem dX13_covered_6 : decode cX13_covered 6 = .ok (.ifCond .lt 8, 3) := by decide +kernel
theorem dX13_covered_9 : decode cX13_covered 9 = .ok (.iload_n 1, 1) := by decide +kernel
theorem dX13_covered_10 : decode cX13_covered 10 = .ok (.iconst 4, 1) := by decide +kernel
theorem dX13_covered_11 : decode cX13_covered 11 = .ok (.if_icmp .le 6, 3) := by decide +kernel
theorem dX13_covered_14 : decode cX13_covered 14 = .ok (.bipush (-2), 2) := by decide +kernel
theorem dX13_covered_16 : decode cX13_covered 16 = .ok (.ireturn, 1) := by decide +kernel
theorem dX13_covered_17 : decode cX13_covered 17 = .ok (.iload_n 1, 1) := by decide +kernel
theorem dX13_covered_18 : decode cX13_covered 18 = .ok (.iconst 4, 1) := by decide +kernel
theorem dX13_covered_19 : decode cX13_covered 19 = .ok (.if_icmp .ne 8, 3) := by decide +kernel
theorem dX13_covered_22 : decode cX13_covered 22 = .ok (.aload_n 0, 1) := by decide +kernel
theorem dX13_covered_23 : decode cX13_covered 23 = .ok (.getfield 126, 3) := by decide +kernel
theorem dX13_covered_26 : decode cX13_covered 26 = .ok (.ireturn, 1) := by decide +kernel
theorem dX13_covered_27 : decode cX13_covered 27 = .ok (.iconst 0, 1) := by decide +kernel
theorem dX13_covered_28 : decode cX13_covered 28 = .ok (.istore_n 2, 1) := by decide +kernel
theorem dX13_covered_29 : decode cX13_covered 29 = .ok (.iconst 1, 1) := by decide +kernel
theorem dX13_covered_30 : decode cX13_covered 30 = .ok (.istore_n 3, 1) := by decide +kernel
theorem dX13_covered_31 : decode cX13_covered 31 = .ok (.iload_n 3, 1) := by decide +kernel
theorem dX13_covered_32 : decode cX13_covered 32 = .ok (.aload_n 0, 1) := by decide +kernel
theorem dX13_covered_33 : decode cX13_covered 33 = .ok (.getfield 103, 3) := by decide +kernel
theorem dX13_covered_36 : decode cX13_covered 36 = .ok (.if_icmp .gt 30, 3) := by decide +kernel
theorem dX13_covered_39 : decode cX13_covered 39 = .ok (.iload_n 1, 1) := by decide +kernel
theorem dX13_covered_40 : decode cX13_covered 40 = .ok (.ifCond .ne 26, 3) := by decide +kernel
theorem dX13_covered_43 : decode cX13_covered 43 = .ok (.aload_n 0, 1) := by decide +kernel
theorem dX13_covered_44 : decode cX13_covered 44 = .ok (.getfield 33, 3) := by decide +kernel
theorem dX13_covered_47 : decode cX13_covered 47 = .ok (.iload_n 3, 1) := by decide +kernel
theorem dX13_covered_48 : decode cX13_covered 48 = .ok (.baload, 1) := by decide +kernel
theorem dX13_covered_49 : decode cX13_covered 49 = .ok (.ifCond .eq 9, 3) := by decide +kernel
theorem dX13_covered_52 : decode cX13_covered 52 = .ok (.iload_n 2, 1) := by decide +kernel
theorem dX13_covered_53 : decode cX13_covered 53 = .ok (.iconst 1, 1) := by decide +kernel
theorem dX13_covered_54 : decode cX13_covered 54 = .ok (.iadd, 1) := by decide +kernel
theorem dX13_covered_55 : decode cX13_covered 55 = .ok (.goto 4, 3) := by decide +kernel
theorem dX13_covered_58 : decode cX13_covered 58 = .ok (.iload_n 2, 1) := by decide +kernel
theorem dX13_covered_59 : decode cX13_covered 59 = .ok (.istore_n 2, 1) := by decide +kernel
theorem dX13_covered_60 : decode cX13_covered 60 = .ok (.iinc 3 1, 3) := by decide +kernel
theorem dX13_covered_63 : decode cX13_covered 63 = .ok (.goto (-32), 3) := by decide +kernel
theorem dX13_covered_66 : decode cX13_covered 66 = .ok (.iconst 1, 1) := by decide +kernel
theorem dX13_covered_67 : decode cX13_covered 67 = .ok (.istore_n 3, 1) := by decide +kernel
theorem dX13_covered_68 : decode cX13_covered 68 = .ok (.iload_n 3, 1) := by decide +kernel
theorem dX13_covered_69 : decode cX13_covered 69 = .ok (.aload_n 0, 1) := by decide +kernel
theorem dX13_covered_70 : decode cX13_covered 70 = .ok (.getfield 106, 3) := by decide +kernel
theorem dX13_covered_73 : decode cX13_covered 73 = .ok (.if_icmp .gt 64, 3) := by decide +kernel
theorem dX13_covered_76 : decode cX13_covered 76 = .ok (.iload_n 1, 1) := by decide +kernel
theorem dX13_covered_77 : decode cX13_covered 77 = .ok (.ifCond .le 60, 3) := by decide +kernel
theorem dX13_covered_80 : decode cX13_covered 80 = .ok (.iload_n 1, 1) := by decide +kernel
theorem dX13_covered_81 : decode cX13_covered 81 = .ok (.iconst 1, 1) := by decide +kernel
theorem dX13_covered_82 : decode cX13_covered 82 = .ok (.if_icmp .ne 15, 3) := by decide +kernel
theorem dX13_covered_85 : decode cX13_covered 85 = .ok (.aload_n 0, 1) := by decide +kernel
theorem dX13_covered_86 : decode cX13_covered 86 = .ok (.getfield 51, 3) := by decide +kernel
theorem dX13_covered_89 : decode cX13_covered 89 = .ok (.iload_n 3, 1) := by decide +kernel
theorem dX13_covered_90 : decode cX13_covered 90 = .ok (.baload, 1) := by decide +kernel
theorem dX13_covered_91 : decode cX13_covered 91 = .ok (.ifCond .eq 38, 3) := by decide +kernel
theorem dX13_covered_94 : decode cX13_covered 94 = .ok (.goto 29, 3) := by decide +kernel
theorem dX13_covered_97 : decode cX13_covered 97 = .ok (.iload_n 1, 1) := by decide +kernel
theorem dX13_covered_98 : decode cX13_covered 98 = .ok (.iconst 2, 1) := by decide +kernel
theorem dX13_covered_99 : decode cX13_covered 99 = .ok (.if_icmp .ne 15, 3) := by decide +kernel
theorem dX13_covered_102 : decode cX13_covered 102 = .ok (.aload_n 0, 1) := by decide +kernel
theorem dX13_covered_103 : decode cX13_covered 103 = .ok (.getfield 54, 3) := by decide +kernel
theorem dX13_covered_106 : decode cX13_covered 106 = .ok (.iload_n 3, 1) := by decide +kernel
theorem dX13_covered_107 : decode cX13_covered 107 = .ok (.baload, 1) := by decide +kernel
theorem dX13_covered_108 : decode cX13_covered 108 = .ok (.ifCond .eq 21, 3) := by decide +kernel
theorem dX13_covered_111 : decode cX13_covered 111 = .ok (.goto 12, 3) := by decide +kernel
theorem dX13_covered_114 : decode cX13_covered 114 = .ok (.aload_n 0, 1) := by decide +kernel
theorem dX13_covered_115 : decode cX13_covered 115 = .ok (.getfield 57, 3) := by decide +kernel
theorem dX13_covered_118 : decode cX13_covered 118 = .ok (.iload_n 3, 1) := by decide +kernel
theorem dX13_covered_119 : decode cX13_covered 119 = .ok (.baload, 1) := by decide +kernel
theorem dX13_covered_120 : decode cX13_covered 120 = .ok (.ifCond .eq 9, 3) := by decide +kernel
theorem dX13_covered_123 : decode cX13_covered 123 = .ok (.iload_n 2, 1) := by decide +kernel
theorem dX13_covered_124 : decode cX13_covered 124 = .ok (.iconst 1, 1) := by decide +kernel
theorem dX13_covered_125 : decode cX13_covered 125 = .ok (.iadd, 1) := by decide +kernel
theorem dX13_covered_126 : decode cX13_covered 126 = .ok (.goto 4, 3) := by decide +kernel
theorem dX13_covered_129 : decode cX13_covered 129 = .ok (.iload_n 2, 1) := by decide +kernel
theorem dX13_covered_130 : decode cX13_covered 130 = .ok (.istore_n 2, 1) := by decide +kernel
theorem dX13_covered_131 : decode cX13_covered 131 = .ok (.iinc 3 1, 3) := by decide +kernel
theorem dX13_covered_134 : decode cX13_covered 134 = .ok (.goto (-66), 3) := by decide +kernel
theorem dX13_covered_137 : decode cX13_covered 137 = .ok (.iload_n 2, 1) := by decide +kernel
theorem dX13_covered_138 : decode cX13_covered 138 = .ok (.ireturn, 1) := by decide +kernel
theorem cwX13_covered : mw_cwV yX13_covered cX13_covered 4 ((some .int)) 1 := ⟨⟨wd_20, wd_4293, by decide +kernel⟩, wd_4291, wd_4292⟩
noncomputable def fX13_covered_b14 (fu : Nat) (k : Nat) (a1 : Int32) (M : mwM) (L : mwL) : Option (Int32 × mwM × mwL) :=
  some ((-2), M, L)
noncomputable def fX13_covered_b137 (fu : Nat) (k : Nat) (a1 : Int32) (v2 : Int32) (M : mwM) (L : mwL) : Option (Int32 × mwM × mwL) :=
  some (v2, M, L)
noncomputable def fX13_covered_b130 (fu : Nat) (k : Nat) (a1 : Int32) (r68 : (Int32 × Int32 × mwM × mwL) → Option (Int32 × mwM × mwL)) (v3 : Int32) (s0 : Int32) (M : mwM) (L : mwL) : Option (Int32 × mwM × mwL) :=
  mlet (v3 + 1) (fun x16 => r68 (s0, x16, M, L))
noncomputable def fX13_covered_b129 (fu : Nat) (k : Nat) (a1 : Int32) (r68 : (Int32 × Int32 × mwM × mwL) → Option (Int32 × mwM × mwL)) (v2 : Int32) (v3 : Int32) (M : mwM) (L : mwL) : Option (Int32 × mwM × mwL) :=
  fX13_covered_b130 fu k a1 r68 v3 v2 M L
noncomputable def fX13_covered_b123 (fu : Nat) (k : Nat) (a1 : Int32) (r68 : (Int32 × Int32 × mwM × mwL) → Option (Int32 × mwM × mwL)) (v2 : Int32) (v3 : Int32) (M : mwM) (L : mwL) : Option (Int32 × mwM × mwL) :=
  fX13_covered_b130 fu k a1 r68 v3 (v2 + 1) M L
noncomputable def fX13_covered_i68 (fu : Nat) (k : Nat) (a1 : Int32) (r68 : (Int32 × Int32 × mwM × mwL) → Option (Int32 × mwM × mwL)) (v2 : Int32) (v3 : Int32) (M : mwM) (L : mwL) : Option (Int32 × mwM × mwL) :=
  (if (M k 12) < v3 then fX13_covered_b137 fu k a1 v2 M L else (if a1 ≤ 0 then fX13_covered_b137 fu k a1 v2 M L else (if a1 = 1 then mck v3 401 ((if (M (k + 14) v3.toNatClampNeg) = 0 then fX13_covered_b129 fu k a1 r68 v2 v3 M L else fX13_covered_b123 fu k a1 r68 v2 v3 M L)) else (if a1 = 2 then mck v3 401 ((if (M (k + 15) v3.toNatClampNeg) = 0 then fX13_covered_b129 fu k a1 r68 v2 v3 M L else fX13_covered_b123 fu k a1 r68 v2 v3 M L)) else mck v3 401 ((if (M (k + 16) v3.toNatClampNeg) = 0 then fX13_covered_b129 fu k a1 r68 v2 v3 M L else fX13_covered_b123 fu k a1 r68 v2 v3 M L))))))
noncomputable def fX13_covered_h68 (fu : Nat) (k : Nat) (a1 : Int32) : Nat → (Int32 × Int32 × mwM × mwL) → Option (Int32 × mwM × mwL) := mloop (fun r68 s => fX13_covered_i68 fu k a1 r68 s.1 s.2.1 s.2.2.1 s.2.2.2)
noncomputable def fX13_covered_b66 (fu : Nat) (k : Nat) (a1 : Int32) (v2 : Int32) (M : mwM) (L : mwL) : Option (Int32 × mwM × mwL) :=
  fX13_covered_h68 fu k a1 fu (v2, 1, M, L)
noncomputable def fX13_covered_b59 (fu : Nat) (k : Nat) (a1 : Int32) (r31 : (Int32 × Int32 × mwM × mwL) → Option (Int32 × mwM × mwL)) (v3 : Int32) (s0 : Int32) (M : mwM) (L : mwL) : Option (Int32 × mwM × mwL) :=
  mlet (v3 + 1) (fun x5 => r31 (s0, x5, M, L))
noncomputable def fX13_covered_i31 (fu : Nat) (k : Nat) (a1 : Int32) (r31 : (Int32 × Int32 × mwM × mwL) → Option (Int32 × mwM × mwL)) (v2 : Int32) (v3 : Int32) (M : mwM) (L : mwL) : Option (Int32 × mwM × mwL) :=
  (if (M k 2) < v3 then fX13_covered_b66 fu k a1 v2 M L else (if a1 = 0 then mck v3 201 ((if (M (k + 8) v3.toNatClampNeg) = 0 then fX13_covered_b59 fu k a1 r31 v3 v2 M L else fX13_covered_b59 fu k a1 r31 v3 (v2 + 1) M L)) else fX13_covered_b66 fu k a1 v2 M L))
noncomputable def fX13_covered_h31 (fu : Nat) (k : Nat) (a1 : Int32) : Nat → (Int32 × Int32 × mwM × mwL) → Option (Int32 × mwM × mwL) := mloop (fun r31 s => fX13_covered_i31 fu k a1 r31 s.1 s.2.1 s.2.2.1 s.2.2.2)
noncomputable def DX13_covered (fu : Nat) (k : Nat) (a1 : Int32) (M : mwM) (L : mwL) : Option (Int32 × mwM × mwL) :=
  mlet (mset M k 0 0) (fun M17 => (if a1 < 0 then fX13_covered_b14 fu k a1 M17 L else (if a1 ≤ 4 then (if a1 = 4 then some (M17 k 30, M17, L) else fX13_covered_h31 fu k a1 fu (0, 1, M17, L)) else fX13_covered_b14 fu k a1 M17 L)))
set_option maxHeartbeats 4000000 in
set_option maxRecDepth 100000 in
theorem tX13_covered (l : Launch) (G : mwG) (ad : Nat → Nat) (fu : Nat) (k : Nat) (a1 : Int32) (M : mwM) (L : mwL) {r0 : Int32} {M0 : mwM} {L0 : mwL} (hD : DX13_covered fu k a1 M L = some (r0, M0, L0)) (hk0 : isMc k) : Met l yX13_covered (Cond.code yX13_covered cX13_covered 4 ((some .int)) :: GT) ({ frames := 0, cells := 0, slots := 0, locals := 0 }) (mw_Pre G ad NF TF FF M L [.ref (ad k), .int a1]) (mw_Qi G ad NF TF FF (mw_eqI r0 M0 L0)) 0 0 (mw_fr G) := by
  refine mw_enter (by decide) (Nat.le_of_ble_eq_true rfl) ?_
  intro p e s m below meth c ls C hr hlocks hnm hw hl
  have hl : lv_has ls 4 [(0, .ref (ad k)), (1, .int a1)] := hl
  have hb14 : ∀ (M : mwM) (L : mwL) (H : Heap) (locs : List Loc) (ls : Array Slot), fX13_covered_b14 fu k a1 M L = some (r0, M0, L0) → mw_W G ad NF TF FF M L H locs → lv_has ls 4 [] → W p l e ({ frames := 0, cells := 0, slots := 0, locals := 0 }) s m [.ref (ad k), .int a1].toArray below meth c H locs 0 0 (MQ below (mw_Qi G ad NF TF FF (mw_eqI r0 M0 L0)) [.ref (ad k), .int a1].toArray s 0 0 (mw_fr G)) (F0 m 14 ls []) := by
    intro M L H locs ls hD hw hl
    unfold fX13_covered_b14 at hD
    refine lv_bipush (v := (-2)) C.1.1 C.1.2.1 dX13_covered_14 (by decide) ?_
    exact mr_iret C hr hlocks hw rfl (Option.some.inj hD) dX13_covered_16
  have hb137 : ∀ (v2 : Int32) (M : mwM) (L : mwL) (H : Heap) (locs : List Loc) (ls : Array Slot), fX13_covered_b137 fu k a1 v2 M L = some (r0, M0, L0) → mw_W G ad NF TF FF M L H locs → lv_has ls 4 [(2, .int v2)] → W p l e ({ frames := 0, cells := 0, slots := 0, locals := 0 }) s m [.ref (ad k), .int a1].toArray below meth c H locs 0 0 (MQ below (mw_Qi G ad NF TF FF (mw_eqI r0 M0 L0)) [.ref (ad k), .int a1].toArray s 0 0 (mw_fr G)) (F0 m 137 ls []) := by
    intro v2 M L H locs ls hD hw hl
    unfold fX13_covered_b137 at hD
    refine lv_iload_n C.1.1 C.1.2.1 dX13_covered_137 rfl (lv_at hl 0 rfl) ?_
    exact mr_iret C hr hlocks hw rfl (Option.some.inj hD) dX13_covered_138
  have hh68 : ∀ (f : Nat) (v2 : Int32) (v3 : Int32) (M : mwM) (L : mwL) (H : Heap) (locs : List Loc) (ls : Array Slot), fX13_covered_h68 fu k a1 f (v2, v3, M, L) = some (r0, M0, L0) → mw_W G ad NF TF FF M L H locs → lv_has ls 4 [(0, .ref (ad k)), (1, .int a1), (2, .int v2), (3, .int v3)] → W p l e ({ frames := 0, cells := 0, slots := 0, locals := 0 }) s m [.ref (ad k), .int a1].toArray below meth c H locs 0 0 (MQ below (mw_Qi G ad NF TF FF (mw_eqI r0 M0 L0)) [.ref (ad k), .int a1].toArray s 0 0 (mw_fr G)) (F0 m 68 ls []) := by
    intro f
    induction f with
    | zero => intro v2 v3 M L H locs ls hD; cases hD
    | succ f68 ih68 =>
      intro v2 v3 M L H locs ls hD hw hl
      replace hD : fX13_covered_i68 fu k a1 (fX13_covered_h68 fu k a1 f68) v2 v3 M L = some (r0, M0, L0) := hD
      have hb130 : ∀ (v3 : Int32) (s0 : Int32) (M : mwM) (L : mwL) (H : Heap) (locs : List Loc) (ls : Array Slot), fX13_covered_b130 fu k a1 (fX13_covered_h68 fu k a1 f68) v3 s0 M L = some (r0, M0, L0) → mw_W G ad NF TF FF M L H locs → lv_has ls 4 [(0, .ref (ad k)), (1, .int a1), (3, .int v3)] → W p l e ({ frames := 0, cells := 0, slots := 0, locals := 0 }) s m [.ref (ad k), .int a1].toArray below meth c H locs 0 0 (MQ below (mw_Qi G ad NF TF FF (mw_eqI r0 M0 L0)) [.ref (ad k), .int a1].toArray s 0 0 (mw_fr G)) (F0 m 130 ls [.int s0]) := by
        intro v3 s0 M L H locs ls hD hw hl
        unfold fX13_covered_b130 at hD
        refine lv_istore_n (lv' := [(2, .int s0), (0, .ref (ad k)), (1, .int a1), (3, .int v3)]) C.1.1 C.1.2.1 dX13_covered_130 rfl hl (by decide) rfl (fun ls hl => ?_)
        obtain ⟨x16, ex16, hD⟩ := g_let hD
        refine lv_iinc (v := x16) (lv' := [(3, .int x16), (2, .int s0), (0, .ref (ad k)), (1, .int a1)]) C.1.1 C.1.2.1 dX13_covered_131 hl (k := 3) rfl (by rw [ex16]; rfl) (by decide) rfl (fun ls hl => ?_)
        refine lv_goto (tgt := 68) C.1.1 C.1.2.1 dX13_covered_134 (by decide) ?_
        exact ih68 s0 x16 M L _ _ ls hD hw (lv_sub hl [2, 3, 1, 0] rfl)
      have hb129 : ∀ (v2 : Int32) (v3 : Int32) (M : mwM) (L : mwL) (H : Heap) (locs : List Loc) (ls : Array Slot), fX13_covered_b129 fu k a1 (fX13_covered_h68 fu k a1 f68) v2 v3 M L = some (r0, M0, L0) → mw_W G ad NF TF FF M L H locs → lv_has ls 4 [(0, .ref (ad k)), (1, .int a1), (2, .int v2), (3, .int v3)] → W p l e ({ frames := 0, cells := 0, slots := 0, locals := 0 }) s m [.ref (ad k), .int a1].toArray below meth c H locs 0 0 (MQ below (mw_Qi G ad NF TF FF (mw_eqI r0 M0 L0)) [.ref (ad k), .int a1].toArray s 0 0 (mw_fr G)) (F0 m 129 ls []) := by
        intro v2 v3 M L H locs ls hD hw hl
        unfold fX13_covered_b129 at hD
        refine lv_iload_n C.1.1 C.1.2.1 dX13_covered_129 rfl (lv_at hl 2 rfl) ?_
        exact hb130 v3 v2 M L _ _ ls hD hw (lv_sub hl [0, 1, 3] rfl)
      have hb123 : ∀ (v2 : Int32) (v3 : Int32) (M : mwM) (L : mwL) (H : Heap) (locs : List Loc) (ls : Array Slot), fX13_covered_b123 fu k a1 (fX13_covered_h68 fu k a1 f68) v2 v3 M L = some (r0, M0, L0) → mw_W G ad NF TF FF M L H locs → lv_has ls 4 [(0, .ref (ad k)), (1, .int a1), (2, .int v2), (3, .int v3)] → W p l e ({ frames := 0, cells := 0, slots := 0, locals := 0 }) s m [.ref (ad k), .int a1].toArray below meth c H locs 0 0 (MQ below (mw_Qi G ad NF TF FF (mw_eqI r0 M0 L0)) [.ref (ad k), .int a1].toArray s 0 0 (mw_fr G)) (F0 m 123 ls []) := by
        intro v2 v3 M L H locs ls hD hw hl
        unfold fX13_covered_b123 at hD
        refine lv_iload_n C.1.1 C.1.2.1 dX13_covered_123 rfl (lv_at hl 2 rfl) ?_
        refine lv_iconst (v := 1) C.1.1 C.1.2.1 dX13_covered_124 (by decide) ?_
        refine lv_iadd C.1.1 C.1.2.1 dX13_covered_125 ?_
        refine lv_goto (tgt := 130) C.1.1 C.1.2.1 dX13_covered_126 (by decide) ?_
        exact hb130 v3 (v2 + 1) M L _ _ ls hD hw (lv_sub hl [0, 1, 3] rfl)
      unfold fX13_covered_i68 at hD
      refine lv_iload_n C.1.1 C.1.2.1 dX13_covered_68 rfl (lv_at hl 3 rfl) ?_
      refine lv_aload_n C.1.1 C.1.2.1 dX13_covered_69 rfl (lv_at hl 0 rfl) ?_
      refine mr_getI C hw kc_13 12 (Mc_N0 hk0) (Mc_T0 hk0) wd_2654 dX13_covered_70 (by decide) rfl ?_
      refine lv_icmp_gt (tgt := 137) C.1.1 C.1.2.1 dX13_covered_73 (by decide) (fun c6 => ?_) (fun c6 => ?_)
      · replace hD := g_pos c6 hD
        exact hb137 v2 M L _ _ ls hD hw (lv_sub hl [2] rfl)
      · replace hD := g_neg c6 hD
        refine lv_iload_n C.1.1 C.1.2.1 dX13_covered_76 rfl (lv_at hl 1 rfl) ?_
        refine lv_if_le (tgt := 137) C.1.1 C.1.2.1 dX13_covered_77 (by decide) (fun c7 => ?_) (fun c7 => ?_)
        · replace hD := g_pos c7 hD
          exact hb137 v2 M L _ _ ls hD hw (lv_sub hl [2] rfl)
        · replace hD := g_neg c7 hD
          refine lv_iload_n C.1.1 C.1.2.1 dX13_covered_80 rfl (lv_at hl 1 rfl) ?_
          refine lv_iconst (v := 1) C.1.1 C.1.2.1 dX13_covered_81 (by decide) ?_
          refine lv_icmp_ne (tgt := 97) C.1.1 C.1.2.1 dX13_covered_82 (by decide) (fun c8 => ?_) (fun c8 => ?_)
          · replace hD := g_neg c8 hD
            refine lv_iload_n C.1.1 C.1.2.1 dX13_covered_97 rfl (lv_at hl 1 rfl) ?_
            refine lv_iconst (v := 2) C.1.1 C.1.2.1 dX13_covered_98 (by decide) ?_
            refine lv_icmp_ne (tgt := 114) C.1.1 C.1.2.1 dX13_covered_99 (by decide) (fun c9 => ?_) (fun c9 => ?_)
            · replace hD := g_neg c9 hD
              refine lv_aload_n C.1.1 C.1.2.1 dX13_covered_114 rfl (lv_at hl 0 rfl) ?_
              refine mr_getR C hw kc_13 19 (Mc_N0 hk0) (Mc_T0 hk0) (Mc_F0_19 hk0) wd_2661 dX13_covered_115 (by decide) rfl ?_
              refine lv_iload_n C.1.1 C.1.2.1 dX13_covered_118 rfl (lv_at hl 3 rfl) ?_
              obtain ⟨q10, hD⟩ := g_ck hD
              refine mr_zald C hw (Mc_N16 hk0) (Mc_T16 hk0) q10 dX13_covered_119 ?_
              refine lv_if_eq (tgt := 129) C.1.1 C.1.2.1 dX13_covered_120 (by decide) (fun c11 => ?_) (fun c11 => ?_)
              · replace hD := g_pos c11 hD
                exact hb129 v2 v3 M L _ _ ls hD hw (lv_sub hl [0, 1, 2, 3] rfl)
              · replace hD := g_neg c11 hD
                exact hb123 v2 v3 M L _ _ ls hD hw (lv_sub hl [0, 1, 2, 3] rfl)
            · replace hD := g_pos c9 hD
              refine lv_aload_n C.1.1 C.1.2.1 dX13_covered_102 rfl (lv_at hl 0 rfl) ?_
              refine mr_getR C hw kc_13 18 (Mc_N0 hk0) (Mc_T0 hk0) (Mc_F0_18 hk0) wd_2660 dX13_covered_103 (by decide) rfl ?_
              refine lv_iload_n C.1.1 C.1.2.1 dX13_covered_106 rfl (lv_at hl 3 rfl) ?_
              obtain ⟨q12, hD⟩ := g_ck hD
              refine mr_zald C hw (Mc_N15 hk0) (Mc_T15 hk0) q12 dX13_covered_107 ?_
              refine lv_if_eq (tgt := 129) C.1.1 C.1.2.1 dX13_covered_108 (by decide) (fun c13 => ?_) (fun c13 => ?_)
              · replace hD := g_pos c13 hD
                exact hb129 v2 v3 M L _ _ ls hD hw (lv_sub hl [0, 1, 2, 3] rfl)
              · replace hD := g_neg c13 hD
                refine lv_goto (tgt := 123) C.1.1 C.1.2.1 dX13_covered_111 (by decide) ?_
                exact hb123 v2 v3 M L _ _ ls hD hw (lv_sub hl [0, 1, 2, 3] rfl)
          · replace hD := g_pos c8 hD
            refine lv_aload_n C.1.1 C.1.2.1 dX13_covered_85 rfl (lv_at hl 0 rfl) ?_
            refine mr_getR C hw kc_13 17 (Mc_N0 hk0) (Mc_T0 hk0) (Mc_F0_17 hk0) wd_2659 dX13_covered_86 (by decide) rfl ?_
            refine lv_iload_n C.1.1 C.1.2.1 dX13_covered_89 rfl (lv_at hl 3 rfl) ?_
            obtain ⟨q14, hD⟩ := g_ck hD
            refine mr_zald C hw (Mc_N14 hk0) (Mc_T14 hk0) q14 dX13_covered_90 ?_
            refine lv_if_eq (tgt := 129) C.1.1 C.1.2.1 dX13_covered_91 (by decide) (fun c15 => ?_) (fun c15 => ?_)
            · replace hD := g_pos c15 hD
              exact hb129 v2 v3 M L _ _ ls hD hw (lv_sub hl [0, 1, 2, 3] rfl)
            · replace hD := g_neg c15 hD
              refine lv_goto (tgt := 123) C.1.1 C.1.2.1 dX13_covered_94 (by decide) ?_
              exact hb123 v2 v3 M L _ _ ls hD hw (lv_sub hl [0, 1, 2, 3] rfl)
  have hb66 : ∀ (v2 : Int32) (M : mwM) (L : mwL) (H : Heap) (locs : List Loc) (ls : Array Slot), fX13_covered_b66 fu k a1 v2 M L = some (r0, M0, L0) → mw_W G ad NF TF FF M L H locs → lv_has ls 4 [(0, .ref (ad k)), (1, .int a1), (2, .int v2)] → W p l e ({ frames := 0, cells := 0, slots := 0, locals := 0 }) s m [.ref (ad k), .int a1].toArray below meth c H locs 0 0 (MQ below (mw_Qi G ad NF TF FF (mw_eqI r0 M0 L0)) [.ref (ad k), .int a1].toArray s 0 0 (mw_fr G)) (F0 m 66 ls []) := by
    intro v2 M L H locs ls hD hw hl
    unfold fX13_covered_b66 at hD
    refine lv_iconst (v := 1) C.1.1 C.1.2.1 dX13_covered_66 (by decide) ?_
    refine lv_istore_n (lv' := [(3, .int 1), (0, .ref (ad k)), (1, .int a1), (2, .int v2)]) C.1.1 C.1.2.1 dX13_covered_67 rfl hl (by decide) rfl (fun ls hl => ?_)
    exact hh68 fu v2 1 M L _ _ ls hD hw (lv_sub hl [1, 2, 3, 0] rfl)
  have hh31 : ∀ (f : Nat) (v2 : Int32) (v3 : Int32) (M : mwM) (L : mwL) (H : Heap) (locs : List Loc) (ls : Array Slot), fX13_covered_h31 fu k a1 f (v2, v3, M, L) = some (r0, M0, L0) → mw_W G ad NF TF FF M L H locs → lv_has ls 4 [(0, .ref (ad k)), (1, .int a1), (2, .int v2), (3, .int v3)] → W p l e ({ frames := 0, cells := 0, slots := 0, locals := 0 }) s m [.ref (ad k), .int a1].toArray below meth c H locs 0 0 (MQ below (mw_Qi G ad NF TF FF (mw_eqI r0 M0 L0)) [.ref (ad k), .int a1].toArray s 0 0 (mw_fr G)) (F0 m 31 ls []) := by
    intro f
    induction f with
    | zero => intro v2 v3 M L H locs ls hD; cases hD
    | succ f31 ih31 =>
      intro v2 v3 M L H locs ls hD hw hl
      replace hD : fX13_covered_i31 fu k a1 (fX13_covered_h31 fu k a1 f31) v2 v3 M L = some (r0, M0, L0) := hD
      have hb59 : ∀ (v3 : Int32) (s0 : Int32) (M : mwM) (L : mwL) (H : Heap) (locs : List Loc) (ls : Array Slot), fX13_covered_b59 fu k a1 (fX13_covered_h31 fu k a1 f31) v3 s0 M L = some (r0, M0, L0) → mw_W G ad NF TF FF M L H locs → lv_has ls 4 [(0, .ref (ad k)), (1, .int a1), (3, .int v3)] → W p l e ({ frames := 0, cells := 0, slots := 0, locals := 0 }) s m [.ref (ad k), .int a1].toArray below meth c H locs 0 0 (MQ below (mw_Qi G ad NF TF FF (mw_eqI r0 M0 L0)) [.ref (ad k), .int a1].toArray s 0 0 (mw_fr G)) (F0 m 59 ls [.int s0]) := by
        intro v3 s0 M L H locs ls hD hw hl
        unfold fX13_covered_b59 at hD
        refine lv_istore_n (lv' := [(2, .int s0), (0, .ref (ad k)), (1, .int a1), (3, .int v3)]) C.1.1 C.1.2.1 dX13_covered_59 rfl hl (by decide) rfl (fun ls hl => ?_)
        obtain ⟨x5, ex5, hD⟩ := g_let hD
        refine lv_iinc (v := x5) (lv' := [(3, .int x5), (2, .int s0), (0, .ref (ad k)), (1, .int a1)]) C.1.1 C.1.2.1 dX13_covered_60 hl (k := 3) rfl (by rw [ex5]; rfl) (by decide) rfl (fun ls hl => ?_)
        refine lv_goto (tgt := 31) C.1.1 C.1.2.1 dX13_covered_63 (by decide) ?_
        exact ih31 s0 x5 M L _ _ ls hD hw (lv_sub hl [2, 3, 1, 0] rfl)
      unfold fX13_covered_i31 at hD
      refine lv_iload_n C.1.1 C.1.2.1 dX13_covered_31 rfl (lv_at hl 3 rfl) ?_
      refine lv_aload_n C.1.1 C.1.2.1 dX13_covered_32 rfl (lv_at hl 0 rfl) ?_
      refine mr_getI C hw kc_13 2 (Mc_N0 hk0) (Mc_T0 hk0) wd_2644 dX13_covered_33 (by decide) rfl ?_
      refine lv_icmp_gt (tgt := 66) C.1.1 C.1.2.1 dX13_covered_36 (by decide) (fun c1 => ?_) (fun c1 => ?_)
      · replace hD := g_pos c1 hD
        exact hb66 v2 M L _ _ ls hD hw (lv_sub hl [0, 1, 2] rfl)
      · replace hD := g_neg c1 hD
        refine lv_iload_n C.1.1 C.1.2.1 dX13_covered_39 rfl (lv_at hl 1 rfl) ?_
        refine lv_if_ne (tgt := 66) C.1.1 C.1.2.1 dX13_covered_40 (by decide) (fun c2 => ?_) (fun c2 => ?_)
        · replace hD := g_neg c2 hD
          exact hb66 v2 M L _ _ ls hD hw (lv_sub hl [0, 1, 2] rfl)
        · replace hD := g_pos c2 hD
          refine lv_aload_n C.1.1 C.1.2.1 dX13_covered_43 rfl (lv_at hl 0 rfl) ?_
          refine mr_getR C hw kc_13 10 (Mc_N0 hk0) (Mc_T0 hk0) (Mc_F0_10 hk0) wd_2652 dX13_covered_44 (by decide) rfl ?_
          refine lv_iload_n C.1.1 C.1.2.1 dX13_covered_47 rfl (lv_at hl 3 rfl) ?_
          obtain ⟨q3, hD⟩ := g_ck hD
          refine mr_zald C hw (Mc_N8 hk0) (Mc_T8 hk0) q3 dX13_covered_48 ?_
          refine lv_if_eq (tgt := 58) C.1.1 C.1.2.1 dX13_covered_49 (by decide) (fun c4 => ?_) (fun c4 => ?_)
          · replace hD := g_pos c4 hD
            refine lv_iload_n C.1.1 C.1.2.1 dX13_covered_58 rfl (lv_at hl 2 rfl) ?_
            exact hb59 v3 v2 M L _ _ ls hD hw (lv_sub hl [0, 1, 3] rfl)
          · replace hD := g_neg c4 hD
            refine lv_iload_n C.1.1 C.1.2.1 dX13_covered_52 rfl (lv_at hl 2 rfl) ?_
            refine lv_iconst (v := 1) C.1.1 C.1.2.1 dX13_covered_53 (by decide) ?_
            refine lv_iadd C.1.1 C.1.2.1 dX13_covered_54 ?_
            refine lv_goto (tgt := 59) C.1.1 C.1.2.1 dX13_covered_55 (by decide) ?_
            exact hb59 v3 (v2 + 1) M L _ _ ls hD hw (lv_sub hl [0, 1, 3] rfl)
  unfold DX13_covered at hD
  refine lv_aload_n C.1.1 C.1.2.1 dX13_covered_0 rfl (lv_at hl 0 rfl) ?_
  refine lv_iconst (v := 0) C.1.1 C.1.2.1 dX13_covered_1 (by decide) ?_
  obtain ⟨M17, eM17, hD⟩ := g_let hD
  refine mr_putI C hw kc_13 0 (Mc_N0 hk0) (Mc_T0 hk0) wd_2642 dX13_covered_2 (by decide) rfl rfl rfl rfl (fun H locs hw => ?_)
  replace hw : mw_W G ad NF TF FF M17 L H locs := by rw [eM17]; exact hw
  refine lv_iload_n C.1.1 C.1.2.1 dX13_covered_5 rfl (lv_at hl 1 rfl) ?_
  refine lv_if_lt (tgt := 14) C.1.1 C.1.2.1 dX13_covered_6 (by decide) (fun c18 => ?_) (fun c18 => ?_)
  · replace hD := g_pos c18 hD
    exact hb14 M17 L _ _ ls hD hw (lv_sub hl [] rfl)
  · replace hD := g_neg c18 hD
    refine lv_iload_n C.1.1 C.1.2.1 dX13_covered_9 rfl (lv_at hl 1 rfl) ?_
    refine lv_iconst (v := 4) C.1.1 C.1.2.1 dX13_covered_10 (by decide) ?_
    refine lv_icmp_le (tgt := 17) C.1.1 C.1.2.1 dX13_covered_11 (by decide) (fun c19 => ?_) (fun c19 => ?_)
    · replace hD := g_pos c19 hD
      refine lv_iload_n C.1.1 C.1.2.1 dX13_covered_17 rfl (lv_at hl 1 rfl) ?_
      refine lv_iconst (v := 4) C.1.1 C.1.2.1 dX13_covered_18 (by decide) ?_
      refine lv_icmp_ne (tgt := 27) C.1.1 C.1.2.1 dX13_covered_19 (by decide) (fun c20 => ?_) (fun c20 => ?_)
      · replace hD := g_neg c20 hD
        refine lv_iconst (v := 0) C.1.1 C.1.2.1 dX13_covered_27 (by decide) ?_
        refine lv_istore_n (lv' := [(2, .int 0), (0, .ref (ad k)), (1, .int a1)]) C.1.1 C.1.2.1 dX13_covered_28 rfl hl (by decide) rfl (fun ls hl => ?_)
        refine lv_iconst (v := 1) C.1.1 C.1.2.1 dX13_covered_29 (by decide) ?_
        refine lv_istore_n (lv' := [(3, .int 1), (2, .int 0), (0, .ref (ad k)), (1, .int a1)]) C.1.1 C.1.2.1 dX13_covered_30 rfl hl (by decide) rfl (fun ls hl => ?_)
        exact hh31 fu 0 1 M17 L _ _ ls hD hw (lv_sub hl [2, 3, 1, 0] rfl)
      · replace hD := g_pos c20 hD
        refine lv_aload_n C.1.1 C.1.2.1 dX13_covered_22 rfl (lv_at hl 0 rfl) ?_
        refine mr_getI C hw kc_13 30 (Mc_N0 hk0) (Mc_T0 hk0) wd_2672 dX13_covered_23 (by decide) rfl ?_
        exact mr_iret C hr hlocks hw rfl (Option.some.inj hD) dX13_covered_26
    · replace hD := g_neg c19 hD
      exact hb14 M17 L _ _ ls hD hw (lv_sub hl [] rfl)
