theorem dX16_search_0 : decode cX16_search 0 = .ok (.iconst 0, 1) := by decide +kernel
theorem dX16_search_1 : decode cX16_search 1 = .ok (.istore 4, 2) := by decide +kernel
theorem dX16_search_3 : decode cX16_search 3 = .ok (.iload_n 2, 1) := by decide +kernel
theorem dX16_search_4 : decode cX16_search 4 = .ok (.istore 5, 2) := by decide +kernel
theorem dX16_search_6 : decode cX16_search 6 = .ok (.aload_n 0, 1) := by decide +kernel
theorem dX16_search_7 : decode cX16_search 7 = .ok (.getfield 68, 3) := by decide +kernel
theorem dX16_search_10 : decode cX16_search 10 = .ok (.iconst 0, 1) := by decide +kernel
theorem dX16_search_11 : decode cX16_search 11 = .ok (.iconst (-1), 1) := by decide +kernel
theorem dX16_search_12 : decode cX16_search 12 = .ok (.iastore, 1) := by decide +kernel
theorem dX16_search_13 : decode cX16_search 13 = .ok (.iload 4, 2) := by decide +kernel
theorem dX16_search_15 : decode cX16_search 15 = .ok (.ifCond .lt 263, 3) := by decide +kernel
theorem dX16_search_18 : decode cX16_search 18 = .ok (.iload 4, 2) := by decide +kernel
theorem dX16_search_20 : decode cX16_search 20 = .ok (.iload_n 1, 1) := by decide +kernel
theorem dX16_search_21 : decode cX16_search 21 = .ok (.if_icmp .ge 257, 3) := by decide +kernel
theorem dX16_search_24 : decode cX16_search 24 = .ok (.aload_n 0, 1) := by decide +kernel
theorem dX16_search_25 : decode cX16_search 25 = .ok (.getfield 62, 3) := by decide +kernel
theorem dX16_search_28 : decode cX16_search 28 = .ok (.iload 4, 2) := by decide +kernel
theorem dX16_search_30 : decode cX16_search 30 = .ok (.iaload, 1) := by decide +kernel
theorem dX16_search_31 : decode cX16_search 31 = .ok (.istore 6, 2) := by decide +kernel
theorem dX16_search_33 : decode cX16_search 33 = .ok (.aload_n 0, 1) := by decide +kernel
theorem dX16_search_34 : decode cX16_search 34 = .ok (.getfield 56, 3) := by decide +kernel
theorem dX16_search_37 : decode cX16_search 37 = .ok (.iload 6, 2) := by decide +kernel
theorem dX16_search_39 : decode cX16_search 39 = .ok (.iaload, 1) := by decide +kernel
theorem dX16_search_40 : decode cX16_search 40 = .ok (.ifCond .le 57, 3) := by decide +kernel
theorem dX16_search_43 : decode cX16_search 43 = .ok (.aload_n 0, 1) := by decide +kernel
theorem dX16_search_44 : decode cX16_search 44 = .ok (.getfield 68, 3) := by decide +kernel
theorem dX16_search_47 : decode cX16_search 47 = .ok (.iload 4, 2) := by decide +kernel
theorem dX16_search_49 : decode cX16_search 49 = .ok (.iaload, 1) := by decide +kernel
theorem dX16_search_50 : decode cX16_search 50 = .ok (.iload 5, 2) := by decide +kernel
theorem dX16_search_52 : decode cX16_search 52 = .ok (.iconst 1, 1) := by decide +kernel
theorem dX16_search_53 : decode cX16_search 53 = .ok (.isub, 1) := by decide +kernel
theorem dX16_search_54 : decode cX16_search 54 = .ok (.if_icmp .ne 31, 3) := by decide +kernel
theorem dX16_search_57 : decode cX16_search 57 = .ok (.aload_n 0, 1) := by decide +kernel
theorem dX16_search_58 : decode cX16_search 58 = .ok (.getfield 68, 3) := by decide +kernel
theorem dX16_search_61 : decode cX16_search 61 = .ok (.iload 4, 2) := by decide +kernel
theorem dX16_search_63 : decode cX16_search 63 = .ok (.iaload, 1) := by decide +kernel
theorem dX16_search_64 : decode cX16_search 64 = .ok (.iload_n 2, 1) := by decide +kernel
theorem dX16_search_65 : decode cX16_search 65 = .ok (.if_icmp .lt 20, 3) := by decide +kernel
theorem dX16_search_68 : decode cX16_search 68 = .ok (.aload_n 0, 1) := by decide +kernel
theorem dX16_search_69 : decode cX16_search 69 = .ok (.getfield 71, 3) := by decide +kernel
theorem dX16_search_72 : decode cX16_search 72 = .ok (.iload 4, 2) := by decide +kernel
theorem dX16_search_74 : decode cX16_search 74 = .ok (.baload, 1) := by decide +kernel
theorem dX16_search_75 : decode cX16_search 75 = .ok (.ifCond .eq 10, 3) := by decide +kernel
theorem dX16_search_78 : decode cX16_search 78 = .ok (.iload 5, 2) := by decide +kernel
theorem dX16_search_80 : decode cX16_search 80 = .ok (.iconst 1, 1) := by decide +kernel
theorem dX16_search_81 : decode cX16_search 81 = .ok (.isub, 1) := by decide +kernel
theorem dX16_search_82 : decode cX16_search 82 = .ok (.goto 5, 3) := by decide +kernel
theorem dX16_search_85 : decode cX16_search 85 = .ok (.iload 5, 2) := by decide +kernel
theorem dX16_search_87 : decode cX16_search 87 = .ok (.istore 5, 2) := by decide +kernel
theorem dX16_search_89 : decode cX16_search 89 = .ok (.aload_n 0, 1) := by decide +kernel
theorem dX16_search_90 : decode cX16_search 90 = .ok (.getfield 56, 3) := by decide +kernel
theorem dX16_search_93 : decode cX16_search 93 = .ok (.iload 6, 2) := by decide +kernel
theorem dX16_search_95 : decode cX16_search 95 = .ok (.iconst 0, 1) := by decide +kernel
theorem dX16_search_96 : decode cX16_search 96 = .ok (.iastore, 1) := by decide +kernel
theorem dX16_search_97 : decode cX16_search 97 = .ok (.aload_n 0, 1) := by decide +kernel
theorem dX16_search_98 : decode cX16_search 98 = .ok (.getfield 71, 3) := by decide +kernel
theorem dX16_search_101 : decode cX16_search 101 = .ok (.iload 4, 2) := by decide +kernel
theorem dX16_search_103 : decode cX16_search 103 = .ok (.iconst 0, 1) := by decide +kernel
theorem dX16_search_104 : decode cX16_search 104 = .ok (.bastore, 1) := by decide +kernel
theorem dX16_search_105 : decode cX16_search 105 = .ok (.aload_n 0, 1) := by decide +kernel
theorem dX16_search_106 : decode cX16_search 106 = .ok (.getfield 68, 3) := by decide +kernel
theorem dX16_search_109 : decode cX16_search 109 = .ok (.iload 4, 2) := by decide +kernel
theorem dX16_search_111 : decode cX16_search 111 = .ok (.dup2, 1) := by decide +kernel
theorem dX16_search_112 : decode cX16_search 112 = .ok (.iaload, 1) := by decide +kernel
theorem dX16_search_113 : decode cX16_search 113 = .ok (.iconst 1, 1) := by decide +kernel
theorem dX16_search_114 : decode cX16_search 114 = .ok (.iadd, 1) := by decide +kernel
theorem dX16_search_115 : decode cX16_search 115 = .ok (.iastore, 1) := by decide +kernel
theorem dX16_search_116 : decode cX16_search 116 = .ok (.aload_n 0, 1) := by decide +kernel
theorem dX16_search_117 : decode cX16_search 117 = .ok (.getfield 68, 3) := by decide +kernel
theorem dX16_search_120 : decode cX16_search 120 = .ok (.iload 4, 2) := by decide +kernel
theorem dX16_search_122 : decode cX16_search 122 = .ok (.iaload, 1) := by decide +kernel
theorem dX16_search_123 : decode cX16_search 123 = .ok (.istore 7, 2) := by decide +kernel
theorem dX16_search_125 : decode cX16_search 125 = .ok (.iload 7, 2) := by decide +kernel
theorem dX16_search_127 : decode cX16_search 127 = .ok (.iload 5, 2) := by decide +kernel
theorem dX16_search_129 : decode cX16_search 129 = .ok (.if_icmp .gt 27, 3) := by decide +kernel
theorem dX16_search_132 : decode cX16_search 132 = .ok (.iload 7, 2) := by decide +kernel
theorem dX16_search_134 : decode cX16_search 134 = .ok (.iload 5, 2) := by decide +kernel
theorem dX16_search_136 : decode cX16_search 136 = .ok (.if_icmp .ne 26, 3) := by decide +kernel
theorem dX16_search_139 : decode cX16_search 139 = .ok (.iload 5, 2) := by decide +kernel
theorem dX16_search_141 : decode cX16_search 141 = .ok (.iload_n 2, 1) := by decide +kernel
theorem dX16_search_142 : decode cX16_search 142 = .ok (.isub, 1) := by decide +kernel
theorem dX16_search_143 : decode cX16_search 143 = .ok (.iload_n 3, 1) := by decide +kernel
theorem dX16_search_144 : decode cX16_search 144 = .ok (.if_icmp .eq 12, 3) := by decide +kernel
theorem dX16_search_147 : decode cX16_search 147 = .ok (.aload_n 0, 1) := by decide +kernel
theorem dX16_search_148 : decode cX16_search 148 = .ok (.invokevirtual 120, 3) := by decide +kernel
theorem dX16_search_151 : decode cX16_search 151 = .ok (.bipush 65, 2) := by decide +kernel
theorem dX16_search_153 : decode cX16_search 153 = .ok (.if_icmp .ne 9, 3) := by decide +kernel
theorem dX16_search_156 : decode cX16_search 156 = .ok (.iinc 4 (-1), 3) := by decide +kernel
theorem dX16_search_159 : decode cX16_search 159 = .ok (.goto (-146), 3) := by decide +kernel
theorem dX16_search_162 : decode cX16_search 162 = .ok (.iload 7, 2) := by decide +kernel
theorem dX16_search_164 : decode cX16_search 164 = .ok (.iload 5, 2) := by decide +kernel
theorem dX16_search_166 : decode cX16_search 166 = .ok (.if_icmp .ne 10, 3) := by decide +kernel
theorem dX16_search_169 : decode cX16_search 169 = .ok (.aload_n 0, 1) := by decide +kernel
theorem dX16_search_170 : decode cX16_search 170 = .ok (.invokevirtual 120, 3) := by decide +kernel
theorem dX16_search_173 : decode cX16_search 173 = .ok (.goto 10, 3) := by decide +kernel
theorem dX16_search_176 : decode cX16_search 176 = .ok (.aload_n 0, 1) := by decide +kernel
theorem dX16_search_177 : decode cX16_search 177 = .ok (.getfield 65, 3) := by decide +kernel
theorem dX16_search_180 : decode cX16_search 180 = .ok (.iload 7, 2) := by decide +kernel
theorem dX16_search_182 : decode cX16_search 182 = .ok (.iaload, 1) := by decide +kernel
theorem dX16_search_183 : decode cX16_search 183 = .ok (.istore 8, 2) := by decide +kernel
theorem dX16_search_185 : decode cX16_search 185 = .ok (.iload 7, 2) := by decide +kernel
theorem dX16_search_187 : decode cX16_search 187 = .ok (.iload 5, 2) := by decide +kernel
theorem dX16_search_189 : decode cX16_search 189 = .ok (.if_icmp .ne 7, 3) := by decide +kernel
theorem dX16_search_192 : decode cX16_search 192 = .ok (.iconst 0, 1) := by decide +kernel
theorem dX16_search_193 : decode cX16_search 193 = .ok (.goto 16, 3) := by decide +kernel
theorem dX16_search_196 : decode cX16_search 196 = .ok (.aload_n 0, 1) := by decide +kernel
theorem dX16_search_197 : decode cX16_search 197 = .ok (.iload 8, 2) := by decide +kernel
theorem dX16_search_199 : decode cX16_search 199 = .ok (.aload_n 0, 1) := by decide +kernel
theorem dX16_search_200 : decode cX16_search 200 = .ok (.getfield 74, 3) := by decide +kernel
theorem dX16_search_203 : decode cX16_search 203 = .ok (.iload 6, 2) := by decide +kernel
theorem dX16_search_205 : decode cX16_search 205 = .ok (.iaload, 1) := by decide +kernel
theorem dX16_search_206 : decode cX16_search 206 = .ok (.invokevirtual 124, 3) := by decide +kernel
theorem dX16_search_209 : decode cX16_search 209 = .ok (.istore 9, 2) := by decide +kernel
theorem dX16_search_211 : decode cX16_search 211 = .ok (.iload 9, 2) := by decide +kernel
theorem dX16_search_213 : decode cX16_search 213 = .ok (.ifCond .ge 6, 3) := by decide +kernel
theorem dX16_search_216 : decode cX16_search 216 = .ok (.goto (-203), 3) := by decide +kernel
theorem dX16_search_219 : decode cX16_search 219 = .ok (.iload 7, 2) := by decide +kernel
theorem dX16_search_221 : decode cX16_search 221 = .ok (.iload 5, 2) := by decide +kernel
theorem dX16_search_223 : decode cX16_search 223 = .ok (.if_icmp .ne 23, 3) := by decide +kernel
theorem dX16_search_226 : decode cX16_search 226 = .ok (.aload_n 0, 1) := by decide +kernel
theorem dX16_search_227 : decode cX16_search 227 = .ok (.getfield 65, 3) := by decide +kernel
theorem dX16_search_230 : decode cX16_search 230 = .ok (.iload 5, 2) := by decide +kernel
theorem dX16_search_232 : decode cX16_search 232 = .ok (.iload 8, 2) := by decide +kernel
theorem dX16_search_234 : decode cX16_search 234 = .ok (.iastore, 1) := by decide +kernel
theorem dX16_search_235 : decode cX16_search 235 = .ok (.iinc 5 1, 3) := by decide +kernel
theorem dX16_search_238 : decode cX16_search 238 = .ok (.aload_n 0, 1) := by decide +kernel
theorem dX16_search_239 : decode cX16_search 239 = .ok (.getfield 71, 3) := by decide +kernel
theorem dX16_search_242 : decode cX16_search 242 = .ok (.iload 4, 2) := by decide +kernel
theorem dX16_search_244 : decode cX16_search 244 = .ok (.iconst 1, 1) := by decide +kernel
theorem dX16_search_245 : decode cX16_search 245 = .ok (.bastore, 1) := by decide +kernel
theorem dX16_search_246 : decode cX16_search 246 = .ok (.aload_n 0, 1) := by decide +kernel
theorem dX16_search_247 : decode cX16_search 247 = .ok (.getfield 56, 3) := by decide +kernel
theorem dX16_search_250 : decode cX16_search 250 = .ok (.iload 6, 2) := by decide +kernel
theorem dX16_search_252 : decode cX16_search 252 = .ok (.iload 8, 2) := by decide +kernel
theorem dX16_search_254 : decode cX16_search 254 = .ok (.iastore, 1) := by decide +kernel
theorem dX16_search_255 : decode cX16_search 255 = .ok (.aload_n 0, 1) := by decide +kernel
theorem dX16_search_256 : decode cX16_search 256 = .ok (.getfield 59, 3) := by decide +kernel
theorem dX16_search_259 : decode cX16_search 259 = .ok (.iload 6, 2) := by decide +kernel
theorem dX16_search_261 : decode cX16_search 261 = .ok (.iload 9, 2) := by decide +kernel
theorem dX16_search_263 : decode cX16_search 263 = .ok (.iastore, 1) := by decide +kernel
theorem dX16_search_264 : decode cX16_search 264 = .ok (.iinc 4 1, 3) := by decide +kernel
theorem dX16_search_267 : decode cX16_search 267 = .ok (.aload_n 0, 1) := by decide +kernel
theorem dX16_search_268 : decode cX16_search 268 = .ok (.getfield 68, 3) := by decide +kernel
theorem dX16_search_271 : decode cX16_search 271 = .ok (.iload 4, 2) := by decide +kernel
theorem dX16_search_273 : decode cX16_search 273 = .ok (.iconst (-1), 1) := by decide +kernel
theorem dX16_search_274 : decode cX16_search 274 = .ok (.iastore, 1) := by decide +kernel
theorem dX16_search_275 : decode cX16_search 275 = .ok (.goto (-262), 3) := by decide +kernel
theorem dX16_search_278 : decode cX16_search 278 = .ok (.iload 4, 2) := by decide +kernel
theorem dX16_search_280 : decode cX16_search 280 = .ok (.iload_n 1, 1) := by decide +kernel
theorem dX16_search_281 : decode cX16_search 281 = .ok (.if_icmp .ne 7, 3) := by decide +kernel
theorem dX16_search_284 : decode cX16_search 284 = .ok (.iconst 1, 1) := by decide +kernel
theorem dX16_search_285 : decode cX16_search 285 = .ok (.goto 4, 3) := by decide +kernel
theorem dX16_search_288 : decode cX16_search 288 = .ok (.iconst 0, 1) := by decide +kernel
theorem dX16_search_289 : decode cX16_search 289 = .ok (.ireturn, 1) := by decide +kernel
theorem cwX16_search : mw_cwV yX16_search cX16_search 10 ((some .boolean)) 3 := ⟨⟨wd_19, wd_3469, by decide +kernel⟩, wd_3468, sl_208⟩
noncomputable def fX16_search_b289 (fu : Nat) (k : Nat) (a1 : Int32) (a2 : Int32) (a3 : Int32) (s0 : Int32) (M : mwM) (L : mwL) : Option (Int32 × mwM × mwL) :=
  mzz s0 (some (s0, M, L))
noncomputable def fX16_search_b278 (fu : Nat) (k : Nat) (a1 : Int32) (a2 : Int32) (a3 : Int32) (v4 : Int32) (M : mwM) (L : mwL) : Option (Int32 × mwM × mwL) :=
  (if v4 = a1 then fX16_search_b289 fu k a1 a2 a3 1 M L else fX16_search_b289 fu k a1 a2 a3 0 M L)
noncomputable def fX16_search_b156 (fu : Nat) (k : Nat) (a1 : Int32) (a2 : Int32) (a3 : Int32) (r13 : (Int32 × Int32 × mwM × mwL) → Option (Int32 × mwM × mwL)) (v4 : Int32) (v5 : Int32) (M : mwM) (L : mwL) : Option (Int32 × mwM × mwL) :=
  mlet (v4 + (-1)) (fun x29 => r13 (x29, v5, M, L))
noncomputable def fX16_search_b246 (fu : Nat) (k : Nat) (a1 : Int32) (a2 : Int32) (a3 : Int32) (r13 : (Int32 × Int32 × mwM × mwL) → Option (Int32 × mwM × mwL)) (v4 : Int32) (v5 : Int32) (v6 : Int32) (v8 : Int32) (v9 : Int32) (M : mwM) (L : mwL) : Option (Int32 × mwM × mwL) :=
  mck v6 129 (mlet (mset M (k + 16) (v6.toNatClampNeg) v8) (fun M48 => mck v6 129 (mlet (mset M48 (k + 17) (v6.toNatClampNeg) v9) (fun M50 => mlet (v4 + 1) (fun x51 => mck x51 129 (mlet (mset M50 (k + 20) (x51.toNatClampNeg) ((-1))) (fun M53 => r13 (x51, v5, M53, L))))))))
noncomputable def fX16_search_b209 (fu : Nat) (k : Nat) (a1 : Int32) (a2 : Int32) (a3 : Int32) (r13 : (Int32 × Int32 × mwM × mwL) → Option (Int32 × mwM × mwL)) (v4 : Int32) (v5 : Int32) (v6 : Int32) (v7 : Int32) (v8 : Int32) (s0 : Int32) (M : mwM) (L : mwL) : Option (Int32 × mwM × mwL) :=
  (if 0 ≤ s0 then (if v7 = v5 then mck v5 65 (mlet (mset M (k + 19) (v5.toNatClampNeg) v8) (fun M43 => mlet (v5 + 1) (fun x44 => mck v4 129 (mlet (mset M43 (k + 21) (v4.toNatClampNeg) (vp_nar .boolean 1)) (fun M46 => fX16_search_b246 fu k a1 a2 a3 r13 v4 x44 v6 v8 s0 M46 L))))) else fX16_search_b246 fu k a1 a2 a3 r13 v4 v5 v6 v8 s0 M L) else r13 (v4, v5, M, L))
noncomputable def fX16_search_b183 (fu : Nat) (k : Nat) (a1 : Int32) (a2 : Int32) (a3 : Int32) (r13 : (Int32 × Int32 × mwM × mwL) → Option (Int32 × mwM × mwL)) (v4 : Int32) (v5 : Int32) (v6 : Int32) (v7 : Int32) (s0 : Int32) (M : mwM) (L : mwL) : Option (Int32 × mwM × mwL) :=
  (if v7 = v5 then fX16_search_b209 fu k a1 a2 a3 r13 v4 v5 v6 v7 s0 0 M L else mck v6 129 (mb3 (DX16_room fu k s0 (M (k + 22) v6.toNatClampNeg) M L) (fun r39 M37 L38 => fX16_search_b209 fu k a1 a2 a3 r13 v4 v5 v6 v7 s0 r39 M37 L38)))
noncomputable def fX16_search_b162 (fu : Nat) (k : Nat) (a1 : Int32) (a2 : Int32) (a3 : Int32) (r13 : (Int32 × Int32 × mwM × mwL) → Option (Int32 × mwM × mwL)) (v4 : Int32) (v5 : Int32) (v6 : Int32) (v7 : Int32) (M : mwM) (L : mwL) : Option (Int32 × mwM × mwL) :=
  (if v7 = v5 then mb3 (DX16_newFrame fu k M L) (fun r34 M32 L33 => fX16_search_b183 fu k a1 a2 a3 r13 v4 v5 v6 v7 r34 M32 L33) else mck v7 65 (fX16_search_b183 fu k a1 a2 a3 r13 v4 v5 v6 v7 (M (k + 19) v7.toNatClampNeg) M L))
noncomputable def fX16_search_b97 (fu : Nat) (k : Nat) (a1 : Int32) (a2 : Int32) (a3 : Int32) (r13 : (Int32 × Int32 × mwM × mwL) → Option (Int32 × mwM × mwL)) (v4 : Int32) (v5 : Int32) (v6 : Int32) (M : mwM) (L : mwL) : Option (Int32 × mwM × mwL) :=
  mck v4 129 (mlet (mset M (k + 21) (v4.toNatClampNeg) (vp_nar .boolean 0)) (fun M16 => mck v4 129 (mck v4 129 (mlet (mset M16 (k + 20) (v4.toNatClampNeg) ((M16 (k + 20) v4.toNatClampNeg) + 1)) (fun M19 => mck v4 129 (mlet (M19 (k + 20) v4.toNatClampNeg) (fun x21 => (if v5 < x21 then fX16_search_b156 fu k a1 a2 a3 r13 v4 v5 M19 L else (if x21 = v5 then (if (v5 - a2) = a3 then fX16_search_b156 fu k a1 a2 a3 r13 v4 v5 M19 L else mb3 (DX16_newFrame fu k M19 L) (fun r27 M25 L26 => (if r27 = 65 then fX16_search_b156 fu k a1 a2 a3 r13 v4 v5 M25 L26 else fX16_search_b162 fu k a1 a2 a3 r13 v4 v5 v6 x21 M25 L26))) else fX16_search_b162 fu k a1 a2 a3 r13 v4 v5 v6 x21 M19 L)))))))))
noncomputable def fX16_search_b87 (fu : Nat) (k : Nat) (a1 : Int32) (a2 : Int32) (a3 : Int32) (r13 : (Int32 × Int32 × mwM × mwL) → Option (Int32 × mwM × mwL)) (v4 : Int32) (v6 : Int32) (s0 : Int32) (M : mwM) (L : mwL) : Option (Int32 × mwM × mwL) :=
  mck v6 129 (mlet (mset M (k + 16) (v6.toNatClampNeg) 0) (fun M14 => fX16_search_b97 fu k a1 a2 a3 r13 v4 s0 v6 M14 L))
noncomputable def fX16_search_b85 (fu : Nat) (k : Nat) (a1 : Int32) (a2 : Int32) (a3 : Int32) (r13 : (Int32 × Int32 × mwM × mwL) → Option (Int32 × mwM × mwL)) (v4 : Int32) (v5 : Int32) (v6 : Int32) (M : mwM) (L : mwL) : Option (Int32 × mwM × mwL) :=
  fX16_search_b87 fu k a1 a2 a3 r13 v4 v6 v5 M L
noncomputable def fX16_search_i13 (fu : Nat) (k : Nat) (a1 : Int32) (a2 : Int32) (a3 : Int32) (r13 : (Int32 × Int32 × mwM × mwL) → Option (Int32 × mwM × mwL)) (v4 : Int32) (v5 : Int32) (M : mwM) (L : mwL) : Option (Int32 × mwM × mwL) :=
  (if v4 < 0 then fX16_search_b278 fu k a1 a2 a3 v4 M L else (if a1 ≤ v4 then fX16_search_b278 fu k a1 a2 a3 v4 M L else mck v4 129 (mlet (M (k + 18) v4.toNatClampNeg) (fun x4 => mck x4 129 ((if (M (k + 16) x4.toNatClampNeg) ≤ 0 then fX16_search_b97 fu k a1 a2 a3 r13 v4 v5 x4 M L else mck v4 129 ((if (M (k + 20) v4.toNatClampNeg) = (v5 - 1) then mck v4 129 ((if (M (k + 20) v4.toNatClampNeg) < a2 then fX16_search_b85 fu k a1 a2 a3 r13 v4 v5 x4 M L else mck v4 129 ((if (M (k + 21) v4.toNatClampNeg) = 0 then fX16_search_b85 fu k a1 a2 a3 r13 v4 v5 x4 M L else fX16_search_b87 fu k a1 a2 a3 r13 v4 x4 (v5 - 1) M L)))) else fX16_search_b85 fu k a1 a2 a3 r13 v4 v5 x4 M L))))))))
noncomputable def fX16_search_h13 (fu : Nat) (k : Nat) (a1 : Int32) (a2 : Int32) (a3 : Int32) : Nat → (Int32 × Int32 × mwM × mwL) → Option (Int32 × mwM × mwL) := mloop (fun r13 s => fX16_search_i13 fu k a1 a2 a3 r13 s.1 s.2.1 s.2.2.1 s.2.2.2)
noncomputable def DX16_search (fu : Nat) (k : Nat) (a1 : Int32) (a2 : Int32) (a3 : Int32) (M : mwM) (L : mwL) : Option (Int32 × mwM × mwL) :=
  mlet (mset M (k + 20) ((0 : Int32).toNatClampNeg) ((-1))) (fun M57 => fX16_search_h13 fu k a1 a2 a3 fu (0, a2, M57, L))
set_option maxHeartbeats 4000000 in
set_option maxRecDepth 100000 in
theorem tX16_search (l : Launch) (G : mwG) (ad : Nat → Nat) (fu : Nat) (k : Nat) (a1 : Int32) (a2 : Int32) (a3 : Int32) (M : mwM) (L : mwL) {r0 : Int32} {M0 : mwM} {L0 : mwL} (hD : DX16_search fu k a1 a2 a3 M L = some (r0, M0, L0)) (hk0 : isMp k) : Met l yX16_search (Cond.code yX16_search cX16_search 10 ((some .boolean)) :: GT) ({ frames := 3, cells := 0, slots := 0, locals := 71 }) (mw_Pre G ad NF TF FF M L [.ref (ad k), .int a1, .int a2, .int a3]) (mw_Qi G ad NF TF FF (mw_eqI r0 M0 L0)) 0 0 (mw_fr G) := by
  refine mw_enter (by decide) (Nat.le_of_ble_eq_true rfl) ?_
  intro p e s m below meth c ls C hr hlocks hnm hw hl
  have hl : lv_has ls 10 [(0, .ref (ad k)), (1, .int a1), (2, .int a2), (3, .int a3)] := hl
  have hb289 : ∀ (s0 : Int32) (M : mwM) (L : mwL) (H : Heap) (locs : List Loc) (ls : Array Slot), fX16_search_b289 fu k a1 a2 a3 s0 M L = some (r0, M0, L0) → mw_W G ad NF TF FF M L H locs → lv_has ls 10 [] → W p l e ({ frames := 3, cells := 0, slots := 0, locals := 71 }) s m [.ref (ad k), .int a1, .int a2, .int a3].toArray below meth c H locs 0 0 (MQ below (mw_Qi G ad NF TF FF (mw_eqI r0 M0 L0)) [.ref (ad k), .int a1, .int a2, .int a3].toArray s 0 0 (mw_fr G)) (F0 m 289 ls [.int s0]) := by
    intro s0 M L H locs ls hD hw hl
    unfold fX16_search_b289 at hD
    obtain ⟨z55, hD⟩ := g_zz hD
    exact mr_iret C hr hlocks hw (nz_zz z55) (Option.some.inj hD) dX16_search_289
  have hb278 : ∀ (v4 : Int32) (M : mwM) (L : mwL) (H : Heap) (locs : List Loc) (ls : Array Slot), fX16_search_b278 fu k a1 a2 a3 v4 M L = some (r0, M0, L0) → mw_W G ad NF TF FF M L H locs → lv_has ls 10 [(1, .int a1), (4, .int v4)] → W p l e ({ frames := 3, cells := 0, slots := 0, locals := 71 }) s m [.ref (ad k), .int a1, .int a2, .int a3].toArray below meth c H locs 0 0 (MQ below (mw_Qi G ad NF TF FF (mw_eqI r0 M0 L0)) [.ref (ad k), .int a1, .int a2, .int a3].toArray s 0 0 (mw_fr G)) (F0 m 278 ls []) := by
    intro v4 M L H locs ls hD hw hl
    unfold fX16_search_b278 at hD
    refine lv_iload C.1.1 C.1.2.1 dX16_search_278 (lv_at hl 1 rfl) ?_
    refine lv_iload_n C.1.1 C.1.2.1 dX16_search_280 rfl (lv_at hl 0 rfl) ?_
    refine lv_icmp_ne (tgt := 288) C.1.1 C.1.2.1 dX16_search_281 (by decide) (fun c54 => ?_) (fun c54 => ?_)
    · replace hD := g_neg c54 hD
      refine lv_iconst (v := 0) C.1.1 C.1.2.1 dX16_search_288 (by decide) ?_
      exact hb289 0 M L _ _ ls hD hw (lv_sub hl [] rfl)
    · replace hD := g_pos c54 hD
      refine lv_iconst (v := 1) C.1.1 C.1.2.1 dX16_search_284 (by decide) ?_
      refine lv_goto (tgt := 289) C.1.1 C.1.2.1 dX16_search_285 (by decide) ?_
      exact hb289 1 M L _ _ ls hD hw (lv_sub hl [] rfl)
  have hh13 : ∀ (f : Nat) (v4 : Int32) (v5 : Int32) (M : mwM) (L : mwL) (H : Heap) (locs : List Loc) (ls : Array Slot), fX16_search_h13 fu k a1 a2 a3 f (v4, v5, M, L) = some (r0, M0, L0) → mw_W G ad NF TF FF M L H locs → lv_has ls 10 [(0, .ref (ad k)), (1, .int a1), (2, .int a2), (3, .int a3), (4, .int v4), (5, .int v5)] → W p l e ({ frames := 3, cells := 0, slots := 0, locals := 71 }) s m [.ref (ad k), .int a1, .int a2, .int a3].toArray below meth c H locs 0 0 (MQ below (mw_Qi G ad NF TF FF (mw_eqI r0 M0 L0)) [.ref (ad k), .int a1, .int a2, .int a3].toArray s 0 0 (mw_fr G)) (F0 m 13 ls []) := by
    intro f
    induction f with
    | zero => intro v4 v5 M L H locs ls hD; cases hD
    | succ f13 ih13 =>
      intro v4 v5 M L H locs ls hD hw hl
      replace hD : fX16_search_i13 fu k a1 a2 a3 (fX16_search_h13 fu k a1 a2 a3 f13) v4 v5 M L = some (r0, M0, L0) := hD
      have hb156 : ∀ (v4 : Int32) (v5 : Int32) (M : mwM) (L : mwL) (H : Heap) (locs : List Loc) (ls : Array Slot), fX16_search_b156 fu k a1 a2 a3 (fX16_search_h13 fu k a1 a2 a3 f13) v4 v5 M L = some (r0, M0, L0) → mw_W G ad NF TF FF M L H locs → lv_has ls 10 [(0, .ref (ad k)), (1, .int a1), (2, .int a2), (3, .int a3), (4, .int v4), (5, .int v5)] → W p l e ({ frames := 3, cells := 0, slots := 0, locals := 71 }) s m [.ref (ad k), .int a1, .int a2, .int a3].toArray below meth c H locs 0 0 (MQ below (mw_Qi G ad NF TF FF (mw_eqI r0 M0 L0)) [.ref (ad k), .int a1, .int a2, .int a3].toArray s 0 0 (mw_fr G)) (F0 m 156 ls []) := by
        intro v4 v5 M L H locs ls hD hw hl
        unfold fX16_search_b156 at hD
        obtain ⟨x29, ex29, hD⟩ := g_let hD
        refine lv_iinc (v := x29) (lv' := [(4, .int x29), (0, .ref (ad k)), (1, .int a1), (2, .int a2), (3, .int a3), (5, .int v5)]) C.1.1 C.1.2.1 dX16_search_156 hl (k := 4) rfl (by rw [ex29]; rfl) (by decide) rfl (fun ls hl => ?_)
        refine lv_goto (tgt := 13) C.1.1 C.1.2.1 dX16_search_159 (by decide) ?_
        exact ih13 x29 v5 M L _ _ ls hD hw (lv_sub hl [1, 2, 3, 4, 0, 5] rfl)
      have hb246 : ∀ (v4 : Int32) (v5 : Int32) (v6 : Int32) (v8 : Int32) (v9 : Int32) (M : mwM) (L : mwL) (H : Heap) (locs : List Loc) (ls : Array Slot), fX16_search_b246 fu k a1 a2 a3 (fX16_search_h13 fu k a1 a2 a3 f13) v4 v5 v6 v8 v9 M L = some (r0, M0, L0) → mw_W G ad NF TF FF M L H locs → lv_has ls 10 [(0, .ref (ad k)), (1, .int a1), (2, .int a2), (3, .int a3), (4, .int v4), (5, .int v5), (6, .int v6), (8, .int v8), (9, .int v9)] → W p l e ({ frames := 3, cells := 0, slots := 0, locals := 71 }) s m [.ref (ad k), .int a1, .int a2, .int a3].toArray below meth c H locs 0 0 (MQ below (mw_Qi G ad NF TF FF (mw_eqI r0 M0 L0)) [.ref (ad k), .int a1, .int a2, .int a3].toArray s 0 0 (mw_fr G)) (F0 m 246 ls []) := by
        intro v4 v5 v6 v8 v9 M L H locs ls hD hw hl
        unfold fX16_search_b246 at hD
        refine lv_aload_n C.1.1 C.1.2.1 dX16_search_246 rfl (lv_at hl 0 rfl) ?_
        refine mr_getR C hw kc_16 20 (Mp_N0 hk0) (Mp_T0 hk0) (Mp_F0_20 hk0) wd_2575 dX16_search_247 (by decide) rfl ?_
        refine lv_iload C.1.1 C.1.2.1 dX16_search_250 (lv_at hl 6 rfl) ?_
        refine lv_iload C.1.1 C.1.2.1 dX16_search_252 (lv_at hl 7 rfl) ?_
        obtain ⟨q47, hD⟩ := g_ck hD
        obtain ⟨M48, eM48, hD⟩ := g_let hD
        refine mr_iast C hw (Mp_N16 hk0) (Mp_T16 hk0) q47 dX16_search_254 (fun H locs hw => ?_)
        replace hw : mw_W G ad NF TF FF M48 L H locs := by rw [eM48]; exact hw
        refine lv_aload_n C.1.1 C.1.2.1 dX16_search_255 rfl (lv_at hl 0 rfl) ?_
        refine mr_getR C hw kc_16 21 (Mp_N0 hk0) (Mp_T0 hk0) (Mp_F0_21 hk0) wd_2576 dX16_search_256 (by decide) rfl ?_
        refine lv_iload C.1.1 C.1.2.1 dX16_search_259 (lv_at hl 6 rfl) ?_
        refine lv_iload C.1.1 C.1.2.1 dX16_search_261 (lv_at hl 8 rfl) ?_
        obtain ⟨q49, hD⟩ := g_ck hD
        obtain ⟨M50, eM50, hD⟩ := g_let hD
        refine mr_iast C hw (Mp_N17 hk0) (Mp_T17 hk0) q49 dX16_search_263 (fun H locs hw => ?_)
        replace hw : mw_W G ad NF TF FF M50 L H locs := by rw [eM50]; exact hw
        obtain ⟨x51, ex51, hD⟩ := g_let hD
        refine lv_iinc (v := x51) (lv' := [(4, .int x51), (0, .ref (ad k)), (1, .int a1), (2, .int a2), (3, .int a3), (5, .int v5), (6, .int v6), (8, .int v8), (9, .int v9)]) C.1.1 C.1.2.1 dX16_search_264 hl (k := 4) rfl (by rw [ex51]; rfl) (by decide) rfl (fun ls hl => ?_)
        refine lv_aload_n C.1.1 C.1.2.1 dX16_search_267 rfl (lv_at hl 1 rfl) ?_
        refine mr_getR C hw kc_16 24 (Mp_N0 hk0) (Mp_T0 hk0) (Mp_F0_24 hk0) wd_2579 dX16_search_268 (by decide) rfl ?_
        refine lv_iload C.1.1 C.1.2.1 dX16_search_271 (lv_at hl 0 rfl) ?_
        refine lv_iconst (v := (-1)) C.1.1 C.1.2.1 dX16_search_273 (by decide) ?_
        obtain ⟨q52, hD⟩ := g_ck hD
        obtain ⟨M53, eM53, hD⟩ := g_let hD
        refine mr_iast C hw (Mp_N20 hk0) (Mp_T20 hk0) q52 dX16_search_274 (fun H locs hw => ?_)
        replace hw : mw_W G ad NF TF FF M53 L H locs := by rw [eM53]; exact hw
        refine lv_goto (tgt := 13) C.1.1 C.1.2.1 dX16_search_275 (by decide) ?_
        exact ih13 x51 v5 M53 L _ _ ls hD hw (lv_sub hl [1, 2, 3, 4, 0, 5] rfl)
      have hb209 : ∀ (v4 : Int32) (v5 : Int32) (v6 : Int32) (v7 : Int32) (v8 : Int32) (s0 : Int32) (M : mwM) (L : mwL) (H : Heap) (locs : List Loc) (ls : Array Slot), fX16_search_b209 fu k a1 a2 a3 (fX16_search_h13 fu k a1 a2 a3 f13) v4 v5 v6 v7 v8 s0 M L = some (r0, M0, L0) → mw_W G ad NF TF FF M L H locs → lv_has ls 10 [(0, .ref (ad k)), (1, .int a1), (2, .int a2), (3, .int a3), (4, .int v4), (5, .int v5), (6, .int v6), (7, .int v7), (8, .int v8)] → W p l e ({ frames := 3, cells := 0, slots := 0, locals := 71 }) s m [.ref (ad k), .int a1, .int a2, .int a3].toArray below meth c H locs 0 0 (MQ below (mw_Qi G ad NF TF FF (mw_eqI r0 M0 L0)) [.ref (ad k), .int a1, .int a2, .int a3].toArray s 0 0 (mw_fr G)) (F0 m 209 ls [.int s0]) := by
        intro v4 v5 v6 v7 v8 s0 M L H locs ls hD hw hl
        unfold fX16_search_b209 at hD
        refine lv_istore (lv' := [(9, .int s0), (0, .ref (ad k)), (1, .int a1), (2, .int a2), (3, .int a3), (4, .int v4), (5, .int v5), (6, .int v6), (7, .int v7), (8, .int v8)]) C.1.1 C.1.2.1 dX16_search_209 hl (by decide) rfl (fun ls hl => ?_)
        refine lv_iload C.1.1 C.1.2.1 dX16_search_211 (lv_at hl 0 rfl) ?_
        refine lv_if_ge (tgt := 219) C.1.1 C.1.2.1 dX16_search_213 (by decide) (fun c40 => ?_) (fun c40 => ?_)
        · replace hD := g_pos c40 hD
          refine lv_iload C.1.1 C.1.2.1 dX16_search_219 (lv_at hl 8 rfl) ?_
          refine lv_iload C.1.1 C.1.2.1 dX16_search_221 (lv_at hl 6 rfl) ?_
          refine lv_icmp_ne (tgt := 246) C.1.1 C.1.2.1 dX16_search_223 (by decide) (fun c41 => ?_) (fun c41 => ?_)
          · replace hD := g_neg c41 hD
            exact hb246 v4 v5 v6 v8 s0 M L _ _ ls hD hw (lv_sub hl [1, 2, 3, 4, 5, 6, 7, 9, 0] rfl)
          · replace hD := g_pos c41 hD
            refine lv_aload_n C.1.1 C.1.2.1 dX16_search_226 rfl (lv_at hl 1 rfl) ?_
            refine mr_getR C hw kc_16 23 (Mp_N0 hk0) (Mp_T0 hk0) (Mp_F0_23 hk0) wd_2578 dX16_search_227 (by decide) rfl ?_
            refine lv_iload C.1.1 C.1.2.1 dX16_search_230 (lv_at hl 6 rfl) ?_
            refine lv_iload C.1.1 C.1.2.1 dX16_search_232 (lv_at hl 9 rfl) ?_
            obtain ⟨q42, hD⟩ := g_ck hD
            obtain ⟨M43, eM43, hD⟩ := g_let hD
            refine mr_iast C hw (Mp_N19 hk0) (Mp_T19 hk0) q42 dX16_search_234 (fun H locs hw => ?_)
            replace hw : mw_W G ad NF TF FF M43 L H locs := by rw [eM43]; exact hw
            obtain ⟨x44, ex44, hD⟩ := g_let hD
            refine lv_iinc (v := x44) (lv' := [(5, .int x44), (9, .int s0), (0, .ref (ad k)), (1, .int a1), (2, .int a2), (3, .int a3), (4, .int v4), (6, .int v6), (7, .int v7), (8, .int v8)]) C.1.1 C.1.2.1 dX16_search_235 hl (k := 6) rfl (by rw [ex44]; rfl) (by decide) rfl (fun ls hl => ?_)
            refine lv_aload_n C.1.1 C.1.2.1 dX16_search_238 rfl (lv_at hl 2 rfl) ?_
            refine mr_getR C hw kc_16 25 (Mp_N0 hk0) (Mp_T0 hk0) (Mp_F0_25 hk0) wd_2580 dX16_search_239 (by decide) rfl ?_
            refine lv_iload C.1.1 C.1.2.1 dX16_search_242 (lv_at hl 6 rfl) ?_
            refine lv_iconst (v := 1) C.1.1 C.1.2.1 dX16_search_244 (by decide) ?_
            obtain ⟨q45, hD⟩ := g_ck hD
            obtain ⟨M46, eM46, hD⟩ := g_let hD
            refine mr_zast C hw (Mp_N21 hk0) (Mp_T21 hk0) q45 dX16_search_245 (fun H locs hw => ?_)
            replace hw : mw_W G ad NF TF FF M46 L H locs := by rw [eM46]; exact hw
            exact hb246 v4 x44 v6 v8 s0 M46 L _ _ ls hD hw (lv_sub hl [2, 3, 4, 5, 6, 0, 7, 9, 1] rfl)
        · replace hD := g_neg c40 hD
          refine lv_goto (tgt := 13) C.1.1 C.1.2.1 dX16_search_216 (by decide) ?_
          exact ih13 v4 v5 M L _ _ ls hD hw (lv_sub hl [1, 2, 3, 4, 5, 6] rfl)
      have hb183 : ∀ (v4 : Int32) (v5 : Int32) (v6 : Int32) (v7 : Int32) (s0 : Int32) (M : mwM) (L : mwL) (H : Heap) (locs : List Loc) (ls : Array Slot), fX16_search_b183 fu k a1 a2 a3 (fX16_search_h13 fu k a1 a2 a3 f13) v4 v5 v6 v7 s0 M L = some (r0, M0, L0) → mw_W G ad NF TF FF M L H locs → lv_has ls 10 [(0, .ref (ad k)), (1, .int a1), (2, .int a2), (3, .int a3), (4, .int v4), (5, .int v5), (6, .int v6), (7, .int v7)] → W p l e ({ frames := 3, cells := 0, slots := 0, locals := 71 }) s m [.ref (ad k), .int a1, .int a2, .int a3].toArray below meth c H locs 0 0 (MQ below (mw_Qi G ad NF TF FF (mw_eqI r0 M0 L0)) [.ref (ad k), .int a1, .int a2, .int a3].toArray s 0 0 (mw_fr G)) (F0 m 183 ls [.int s0]) := by
        intro v4 v5 v6 v7 s0 M L H locs ls hD hw hl
        unfold fX16_search_b183 at hD
        refine lv_istore (lv' := [(8, .int s0), (0, .ref (ad k)), (1, .int a1), (2, .int a2), (3, .int a3), (4, .int v4), (5, .int v5), (6, .int v6), (7, .int v7)]) C.1.1 C.1.2.1 dX16_search_183 hl (by decide) rfl (fun ls hl => ?_)
        refine lv_iload C.1.1 C.1.2.1 dX16_search_185 (lv_at hl 8 rfl) ?_
        refine lv_iload C.1.1 C.1.2.1 dX16_search_187 (lv_at hl 6 rfl) ?_
        refine lv_icmp_ne (tgt := 196) C.1.1 C.1.2.1 dX16_search_189 (by decide) (fun c35 => ?_) (fun c35 => ?_)
        · replace hD := g_neg c35 hD
          refine lv_aload_n C.1.1 C.1.2.1 dX16_search_196 rfl (lv_at hl 1 rfl) ?_
          refine lv_iload C.1.1 C.1.2.1 dX16_search_197 (lv_at hl 0 rfl) ?_
          refine lv_aload_n C.1.1 C.1.2.1 dX16_search_199 rfl (lv_at hl 1 rfl) ?_
          refine mr_getR C hw kc_16 26 (Mp_N0 hk0) (Mp_T0 hk0) (Mp_F0_26 hk0) wd_2581 dX16_search_200 (by decide) rfl ?_
          refine lv_iload C.1.1 C.1.2.1 dX16_search_203 (lv_at hl 7 rfl) ?_
          obtain ⟨q36, hD⟩ := g_ck hD
          refine mr_iald C hw (Mp_N22 hk0) (Mp_T22 hk0) q36 dX16_search_205 ?_
          obtain ⟨r39, M37, L38, h1, hD⟩ := g_b3 hD
          refine md_cvI (As := [.int s0, .int (M (k + 22) v6.toNatClampNeg)]) (rest := []) C hw (tX16_room l G ad fu k s0 (M (k + 22) v6.toNatClampNeg) M L h1 hk0) kc_16 (Mp_N0 hk0) (Mp_T0 hk0) wd_3458 cwX16_room ⟨Nat.le_of_ble_eq_true rfl, Nat.le_of_ble_eq_true rfl⟩ rfl hl.1 (Nat.le_of_ble_eq_true rfl) dX16_search_206 rfl rfl ⟨Nat.zero_le _, Nat.zero_le _⟩ rfl (fun H locs hw => ?_)
          exact hb209 v4 v5 v6 v7 s0 r39 M37 L38 _ _ ls hD hw (lv_sub hl [1, 2, 3, 4, 5, 6, 7, 8, 0] rfl)
        · replace hD := g_pos c35 hD
          refine lv_iconst (v := 0) C.1.1 C.1.2.1 dX16_search_192 (by decide) ?_
          refine lv_goto (tgt := 209) C.1.1 C.1.2.1 dX16_search_193 (by decide) ?_
          exact hb209 v4 v5 v6 v7 s0 0 M L _ _ ls hD hw (lv_sub hl [1, 2, 3, 4, 5, 6, 7, 8, 0] rfl)
      have hb162 : ∀ (v4 : Int32) (v5 : Int32) (v6 : Int32) (v7 : Int32) (M : mwM) (L : mwL) (H : Heap) (locs : List Loc) (ls : Array Slot), fX16_search_b162 fu k a1 a2 a3 (fX16_search_h13 fu k a1 a2 a3 f13) v4 v5 v6 v7 M L = some (r0, M0, L0) → mw_W G ad NF TF FF M L H locs → lv_has ls 10 [(0, .ref (ad k)), (1, .int a1), (2, .int a2), (3, .int a3), (4, .int v4), (5, .int v5), (6, .int v6), (7, .int v7)] → W p l e ({ frames := 3, cells := 0, slots := 0, locals := 71 }) s m [.ref (ad k), .int a1, .int a2, .int a3].toArray below meth c H locs 0 0 (MQ below (mw_Qi G ad NF TF FF (mw_eqI r0 M0 L0)) [.ref (ad k), .int a1, .int a2, .int a3].toArray s 0 0 (mw_fr G)) (F0 m 162 ls []) := by
        intro v4 v5 v6 v7 M L H locs ls hD hw hl
        unfold fX16_search_b162 at hD
        refine lv_iload C.1.1 C.1.2.1 dX16_search_162 (lv_at hl 7 rfl) ?_
        refine lv_iload C.1.1 C.1.2.1 dX16_search_164 (lv_at hl 5 rfl) ?_
        refine lv_icmp_ne (tgt := 176) C.1.1 C.1.2.1 dX16_search_166 (by decide) (fun c30 => ?_) (fun c30 => ?_)
        · replace hD := g_neg c30 hD
          refine lv_aload_n C.1.1 C.1.2.1 dX16_search_176 rfl (lv_at hl 0 rfl) ?_
          refine mr_getR C hw kc_16 23 (Mp_N0 hk0) (Mp_T0 hk0) (Mp_F0_23 hk0) wd_2578 dX16_search_177 (by decide) rfl ?_
          refine lv_iload C.1.1 C.1.2.1 dX16_search_180 (lv_at hl 7 rfl) ?_
          obtain ⟨q31, hD⟩ := g_ck hD
          refine mr_iald C hw (Mp_N19 hk0) (Mp_T19 hk0) q31 dX16_search_182 ?_
          exact hb183 v4 v5 v6 v7 (M (k + 19) v7.toNatClampNeg) M L _ _ ls hD hw (lv_sub hl [0, 1, 2, 3, 4, 5, 6, 7] rfl)
        · replace hD := g_pos c30 hD
          refine lv_aload_n C.1.1 C.1.2.1 dX16_search_169 rfl (lv_at hl 0 rfl) ?_
          obtain ⟨r34, M32, L33, h1, hD⟩ := g_b3 hD
          refine md_cvI (As := []) (rest := []) C hw (tX16_newFrame l G ad fu k M L h1 hk0) kc_16 (Mp_N0 hk0) (Mp_T0 hk0) wd_3462 cwX16_newFrame ⟨Nat.le_of_ble_eq_true rfl, Nat.le_of_ble_eq_true rfl⟩ rfl hl.1 (Nat.le_of_ble_eq_true rfl) dX16_search_170 rfl rfl ⟨Nat.zero_le _, Nat.zero_le _⟩ rfl (fun H locs hw => ?_)
          refine lv_goto (tgt := 183) C.1.1 C.1.2.1 dX16_search_173 (by decide) ?_
          exact hb183 v4 v5 v6 v7 r34 M32 L33 _ _ ls hD hw (lv_sub hl [0, 1, 2, 3, 4, 5, 6, 7] rfl)
      have hb97 : ∀ (v4 : Int32) (v5 : Int32) (v6 : Int32) (M : mwM) (L : mwL) (H : Heap) (locs : List Loc) (ls : Array Slot), fX16_search_b97 fu k a1 a2 a3 (fX16_search_h13 fu k a1 a2 a3 f13) v4 v5 v6 M L = some (r0, M0, L0) → mw_W G ad NF TF FF M L H locs → lv_has ls 10 [(0, .ref (ad k)), (1, .int a1), (2, .int a2), (3, .int a3), (4, .int v4), (5, .int v5), (6, .int v6)] → W p l e ({ frames := 3, cells := 0, slots := 0, locals := 71 }) s m [.ref (ad k), .int a1, .int a2, .int a3].toArray below meth c H locs 0 0 (MQ below (mw_Qi G ad NF TF FF (mw_eqI r0 M0 L0)) [.ref (ad k), .int a1, .int a2, .int a3].toArray s 0 0 (mw_fr G)) (F0 m 97 ls []) := by
        intro v4 v5 v6 M L H locs ls hD hw hl
        unfold fX16_search_b97 at hD
        refine lv_aload_n C.1.1 C.1.2.1 dX16_search_97 rfl (lv_at hl 0 rfl) ?_
        refine mr_getR C hw kc_16 25 (Mp_N0 hk0) (Mp_T0 hk0) (Mp_F0_25 hk0) wd_2580 dX16_search_98 (by decide) rfl ?_
        refine lv_iload C.1.1 C.1.2.1 dX16_search_101 (lv_at hl 4 rfl) ?_
        refine lv_iconst (v := 0) C.1.1 C.1.2.1 dX16_search_103 (by decide) ?_
        obtain ⟨q15, hD⟩ := g_ck hD
        obtain ⟨M16, eM16, hD⟩ := g_let hD
        refine mr_zast C hw (Mp_N21 hk0) (Mp_T21 hk0) q15 dX16_search_104 (fun H locs hw => ?_)
        replace hw : mw_W G ad NF TF FF M16 L H locs := by rw [eM16]; exact hw
        refine lv_aload_n C.1.1 C.1.2.1 dX16_search_105 rfl (lv_at hl 0 rfl) ?_
        refine mr_getR C hw kc_16 24 (Mp_N0 hk0) (Mp_T0 hk0) (Mp_F0_24 hk0) wd_2579 dX16_search_106 (by decide) rfl ?_
        refine lv_iload C.1.1 C.1.2.1 dX16_search_109 (lv_at hl 4 rfl) ?_
        refine lv_dup2_11 C.1.1 C.1.2.1 dX16_search_111 rfl rfl ?_
        obtain ⟨q17, hD⟩ := g_ck hD
        refine mr_iald C hw (Mp_N20 hk0) (Mp_T20 hk0) q17 dX16_search_112 ?_
        refine lv_iconst (v := 1) C.1.1 C.1.2.1 dX16_search_113 (by decide) ?_
        refine lv_iadd C.1.1 C.1.2.1 dX16_search_114 ?_
        obtain ⟨q18, hD⟩ := g_ck hD
        obtain ⟨M19, eM19, hD⟩ := g_let hD
        refine mr_iast C hw (Mp_N20 hk0) (Mp_T20 hk0) q18 dX16_search_115 (fun H locs hw => ?_)
        replace hw : mw_W G ad NF TF FF M19 L H locs := by rw [eM19]; exact hw
        refine lv_aload_n C.1.1 C.1.2.1 dX16_search_116 rfl (lv_at hl 0 rfl) ?_
        refine mr_getR C hw kc_16 24 (Mp_N0 hk0) (Mp_T0 hk0) (Mp_F0_24 hk0) wd_2579 dX16_search_117 (by decide) rfl ?_
        refine lv_iload C.1.1 C.1.2.1 dX16_search_120 (lv_at hl 4 rfl) ?_
        obtain ⟨q20, hD⟩ := g_ck hD
        refine mr_iald C hw (Mp_N20 hk0) (Mp_T20 hk0) q20 dX16_search_122 ?_
        obtain ⟨x21, ex21, hD⟩ := g_let hD
        refine W.eq (g2 := F0 m 123 ls (.int x21 :: [])) (by rw [ex21]) ?_
        refine lv_istore (lv' := [(7, .int x21), (0, .ref (ad k)), (1, .int a1), (2, .int a2), (3, .int a3), (4, .int v4), (5, .int v5), (6, .int v6)]) C.1.1 C.1.2.1 dX16_search_123 hl (by decide) rfl (fun ls hl => ?_)
        refine lv_iload C.1.1 C.1.2.1 dX16_search_125 (lv_at hl 0 rfl) ?_
        refine lv_iload C.1.1 C.1.2.1 dX16_search_127 (lv_at hl 6 rfl) ?_
        refine lv_icmp_gt (tgt := 156) C.1.1 C.1.2.1 dX16_search_129 (by decide) (fun c22 => ?_) (fun c22 => ?_)
        · replace hD := g_pos c22 hD
          exact hb156 v4 v5 M19 L _ _ ls hD hw (lv_sub hl [1, 2, 3, 4, 5, 6] rfl)
        · replace hD := g_neg c22 hD
          refine lv_iload C.1.1 C.1.2.1 dX16_search_132 (lv_at hl 0 rfl) ?_
          refine lv_iload C.1.1 C.1.2.1 dX16_search_134 (lv_at hl 6 rfl) ?_
          refine lv_icmp_ne (tgt := 162) C.1.1 C.1.2.1 dX16_search_136 (by decide) (fun c23 => ?_) (fun c23 => ?_)
          · replace hD := g_neg c23 hD
            exact hb162 v4 v5 v6 x21 M19 L _ _ ls hD hw (lv_sub hl [1, 2, 3, 4, 5, 6, 7, 0] rfl)
          · replace hD := g_pos c23 hD
            refine lv_iload C.1.1 C.1.2.1 dX16_search_139 (lv_at hl 6 rfl) ?_
            refine lv_iload_n C.1.1 C.1.2.1 dX16_search_141 rfl (lv_at hl 3 rfl) ?_
            refine lv_isub C.1.1 C.1.2.1 dX16_search_142 ?_
            refine lv_iload_n C.1.1 C.1.2.1 dX16_search_143 rfl (lv_at hl 4 rfl) ?_
            refine lv_icmp_eq (tgt := 156) C.1.1 C.1.2.1 dX16_search_144 (by decide) (fun c24 => ?_) (fun c24 => ?_)
            · replace hD := g_pos c24 hD
              exact hb156 v4 v5 M19 L _ _ ls hD hw (lv_sub hl [1, 2, 3, 4, 5, 6] rfl)
            · replace hD := g_neg c24 hD
              refine lv_aload_n C.1.1 C.1.2.1 dX16_search_147 rfl (lv_at hl 1 rfl) ?_
              obtain ⟨r27, M25, L26, h1, hD⟩ := g_b3 hD
              refine md_cvI (As := []) (rest := []) C hw (tX16_newFrame l G ad fu k M19 L h1 hk0) kc_16 (Mp_N0 hk0) (Mp_T0 hk0) wd_3462 cwX16_newFrame ⟨Nat.le_of_ble_eq_true rfl, Nat.le_of_ble_eq_true rfl⟩ rfl hl.1 (Nat.le_of_ble_eq_true rfl) dX16_search_148 rfl rfl ⟨Nat.zero_le _, Nat.zero_le _⟩ rfl (fun H locs hw => ?_)
              refine lv_bipush (v := 65) C.1.1 C.1.2.1 dX16_search_151 (by decide) ?_
              refine lv_icmp_ne (tgt := 162) C.1.1 C.1.2.1 dX16_search_153 (by decide) (fun c28 => ?_) (fun c28 => ?_)
              · replace hD := g_neg c28 hD
                exact hb162 v4 v5 v6 x21 M25 L26 _ _ ls hD hw (lv_sub hl [1, 2, 3, 4, 5, 6, 7, 0] rfl)
              · replace hD := g_pos c28 hD
                exact hb156 v4 v5 M25 L26 _ _ ls hD hw (lv_sub hl [1, 2, 3, 4, 5, 6] rfl)
      have hb87 : ∀ (v4 : Int32) (v6 : Int32) (s0 : Int32) (M : mwM) (L : mwL) (H : Heap) (locs : List Loc) (ls : Array Slot), fX16_search_b87 fu k a1 a2 a3 (fX16_search_h13 fu k a1 a2 a3 f13) v4 v6 s0 M L = some (r0, M0, L0) → mw_W G ad NF TF FF M L H locs → lv_has ls 10 [(0, .ref (ad k)), (1, .int a1), (2, .int a2), (3, .int a3), (4, .int v4), (6, .int v6)] → W p l e ({ frames := 3, cells := 0, slots := 0, locals := 71 }) s m [.ref (ad k), .int a1, .int a2, .int a3].toArray below meth c H locs 0 0 (MQ below (mw_Qi G ad NF TF FF (mw_eqI r0 M0 L0)) [.ref (ad k), .int a1, .int a2, .int a3].toArray s 0 0 (mw_fr G)) (F0 m 87 ls [.int s0]) := by
        intro v4 v6 s0 M L H locs ls hD hw hl
        unfold fX16_search_b87 at hD
        refine lv_istore (lv' := [(5, .int s0), (0, .ref (ad k)), (1, .int a1), (2, .int a2), (3, .int a3), (4, .int v4), (6, .int v6)]) C.1.1 C.1.2.1 dX16_search_87 hl (by decide) rfl (fun ls hl => ?_)
        refine lv_aload_n C.1.1 C.1.2.1 dX16_search_89 rfl (lv_at hl 1 rfl) ?_
        refine mr_getR C hw kc_16 20 (Mp_N0 hk0) (Mp_T0 hk0) (Mp_F0_20 hk0) wd_2575 dX16_search_90 (by decide) rfl ?_
        refine lv_iload C.1.1 C.1.2.1 dX16_search_93 (lv_at hl 6 rfl) ?_
        refine lv_iconst (v := 0) C.1.1 C.1.2.1 dX16_search_95 (by decide) ?_
        obtain ⟨q13, hD⟩ := g_ck hD
        obtain ⟨M14, eM14, hD⟩ := g_let hD
        refine mr_iast C hw (Mp_N16 hk0) (Mp_T16 hk0) q13 dX16_search_96 (fun H locs hw => ?_)
        replace hw : mw_W G ad NF TF FF M14 L H locs := by rw [eM14]; exact hw
        exact hb97 v4 s0 v6 M14 L _ _ ls hD hw (lv_sub hl [1, 2, 3, 4, 5, 0, 6] rfl)
      have hb85 : ∀ (v4 : Int32) (v5 : Int32) (v6 : Int32) (M : mwM) (L : mwL) (H : Heap) (locs : List Loc) (ls : Array Slot), fX16_search_b85 fu k a1 a2 a3 (fX16_search_h13 fu k a1 a2 a3 f13) v4 v5 v6 M L = some (r0, M0, L0) → mw_W G ad NF TF FF M L H locs → lv_has ls 10 [(0, .ref (ad k)), (1, .int a1), (2, .int a2), (3, .int a3), (4, .int v4), (5, .int v5), (6, .int v6)] → W p l e ({ frames := 3, cells := 0, slots := 0, locals := 71 }) s m [.ref (ad k), .int a1, .int a2, .int a3].toArray below meth c H locs 0 0 (MQ below (mw_Qi G ad NF TF FF (mw_eqI r0 M0 L0)) [.ref (ad k), .int a1, .int a2, .int a3].toArray s 0 0 (mw_fr G)) (F0 m 85 ls []) := by
        intro v4 v5 v6 M L H locs ls hD hw hl
        unfold fX16_search_b85 at hD
        refine lv_iload C.1.1 C.1.2.1 dX16_search_85 (lv_at hl 5 rfl) ?_
        exact hb87 v4 v6 v5 M L _ _ ls hD hw (lv_sub hl [0, 1, 2, 3, 4, 6] rfl)
      unfold fX16_search_i13 at hD
      refine lv_iload C.1.1 C.1.2.1 dX16_search_13 (lv_at hl 4 rfl) ?_
      refine lv_if_lt (tgt := 278) C.1.1 C.1.2.1 dX16_search_15 (by decide) (fun c1 => ?_) (fun c1 => ?_)
      · replace hD := g_pos c1 hD
        exact hb278 v4 M L _ _ ls hD hw (lv_sub hl [1, 4] rfl)
      · replace hD := g_neg c1 hD
        refine lv_iload C.1.1 C.1.2.1 dX16_search_18 (lv_at hl 4 rfl) ?_
        refine lv_iload_n C.1.1 C.1.2.1 dX16_search_20 rfl (lv_at hl 1 rfl) ?_
        refine lv_icmp_ge (tgt := 278) C.1.1 C.1.2.1 dX16_search_21 (by decide) (fun c2 => ?_) (fun c2 => ?_)
        · replace hD := g_pos c2 hD
          exact hb278 v4 M L _ _ ls hD hw (lv_sub hl [1, 4] rfl)
        · replace hD := g_neg c2 hD
          refine lv_aload_n C.1.1 C.1.2.1 dX16_search_24 rfl (lv_at hl 0 rfl) ?_
          refine mr_getR C hw kc_16 22 (Mp_N0 hk0) (Mp_T0 hk0) (Mp_F0_22 hk0) wd_2577 dX16_search_25 (by decide) rfl ?_
          refine lv_iload C.1.1 C.1.2.1 dX16_search_28 (lv_at hl 4 rfl) ?_
          obtain ⟨q3, hD⟩ := g_ck hD
          refine mr_iald C hw (Mp_N18 hk0) (Mp_T18 hk0) q3 dX16_search_30 ?_
          obtain ⟨x4, ex4, hD⟩ := g_let hD
          refine W.eq (g2 := F0 m 31 ls (.int x4 :: [])) (by rw [ex4]) ?_
          refine lv_istore (lv' := [(6, .int x4), (0, .ref (ad k)), (1, .int a1), (2, .int a2), (3, .int a3), (4, .int v4), (5, .int v5)]) C.1.1 C.1.2.1 dX16_search_31 hl (by decide) rfl (fun ls hl => ?_)
          refine lv_aload_n C.1.1 C.1.2.1 dX16_search_33 rfl (lv_at hl 1 rfl) ?_
          refine mr_getR C hw kc_16 20 (Mp_N0 hk0) (Mp_T0 hk0) (Mp_F0_20 hk0) wd_2575 dX16_search_34 (by decide) rfl ?_
          refine lv_iload C.1.1 C.1.2.1 dX16_search_37 (lv_at hl 0 rfl) ?_
          obtain ⟨q5, hD⟩ := g_ck hD
          refine mr_iald C hw (Mp_N16 hk0) (Mp_T16 hk0) q5 dX16_search_39 ?_
          refine lv_if_le (tgt := 97) C.1.1 C.1.2.1 dX16_search_40 (by decide) (fun c6 => ?_) (fun c6 => ?_)
          · replace hD := g_pos c6 hD
            exact hb97 v4 v5 x4 M L _ _ ls hD hw (lv_sub hl [1, 2, 3, 4, 5, 6, 0] rfl)
          · replace hD := g_neg c6 hD
            refine lv_aload_n C.1.1 C.1.2.1 dX16_search_43 rfl (lv_at hl 1 rfl) ?_
            refine mr_getR C hw kc_16 24 (Mp_N0 hk0) (Mp_T0 hk0) (Mp_F0_24 hk0) wd_2579 dX16_search_44 (by decide) rfl ?_
            refine lv_iload C.1.1 C.1.2.1 dX16_search_47 (lv_at hl 5 rfl) ?_
            obtain ⟨q7, hD⟩ := g_ck hD
            refine mr_iald C hw (Mp_N20 hk0) (Mp_T20 hk0) q7 dX16_search_49 ?_
            refine lv_iload C.1.1 C.1.2.1 dX16_search_50 (lv_at hl 6 rfl) ?_
            refine lv_iconst (v := 1) C.1.1 C.1.2.1 dX16_search_52 (by decide) ?_
            refine lv_isub C.1.1 C.1.2.1 dX16_search_53 ?_
            refine lv_icmp_ne (tgt := 85) C.1.1 C.1.2.1 dX16_search_54 (by decide) (fun c8 => ?_) (fun c8 => ?_)
            · replace hD := g_neg c8 hD
              exact hb85 v4 v5 x4 M L _ _ ls hD hw (lv_sub hl [1, 2, 3, 4, 5, 6, 0] rfl)
            · replace hD := g_pos c8 hD
              refine lv_aload_n C.1.1 C.1.2.1 dX16_search_57 rfl (lv_at hl 1 rfl) ?_
              refine mr_getR C hw kc_16 24 (Mp_N0 hk0) (Mp_T0 hk0) (Mp_F0_24 hk0) wd_2579 dX16_search_58 (by decide) rfl ?_
              refine lv_iload C.1.1 C.1.2.1 dX16_search_61 (lv_at hl 5 rfl) ?_
              obtain ⟨q9, hD⟩ := g_ck hD
              refine mr_iald C hw (Mp_N20 hk0) (Mp_T20 hk0) q9 dX16_search_63 ?_
              refine lv_iload_n C.1.1 C.1.2.1 dX16_search_64 rfl (lv_at hl 3 rfl) ?_
              refine lv_icmp_lt (tgt := 85) C.1.1 C.1.2.1 dX16_search_65 (by decide) (fun c10 => ?_) (fun c10 => ?_)
              · replace hD := g_pos c10 hD
                exact hb85 v4 v5 x4 M L _ _ ls hD hw (lv_sub hl [1, 2, 3, 4, 5, 6, 0] rfl)
              · replace hD := g_neg c10 hD
                refine lv_aload_n C.1.1 C.1.2.1 dX16_search_68 rfl (lv_at hl 1 rfl) ?_
                refine mr_getR C hw kc_16 25 (Mp_N0 hk0) (Mp_T0 hk0) (Mp_F0_25 hk0) wd_2580 dX16_search_69 (by decide) rfl ?_
                refine lv_iload C.1.1 C.1.2.1 dX16_search_72 (lv_at hl 5 rfl) ?_
                obtain ⟨q11, hD⟩ := g_ck hD
                refine mr_zald C hw (Mp_N21 hk0) (Mp_T21 hk0) q11 dX16_search_74 ?_
                refine lv_if_eq (tgt := 85) C.1.1 C.1.2.1 dX16_search_75 (by decide) (fun c12 => ?_) (fun c12 => ?_)
                · replace hD := g_pos c12 hD
                  exact hb85 v4 v5 x4 M L _ _ ls hD hw (lv_sub hl [1, 2, 3, 4, 5, 6, 0] rfl)
                · replace hD := g_neg c12 hD
                  refine lv_iload C.1.1 C.1.2.1 dX16_search_78 (lv_at hl 6 rfl) ?_
                  refine lv_iconst (v := 1) C.1.1 C.1.2.1 dX16_search_80 (by decide) ?_
                  refine lv_isub C.1.1 C.1.2.1 dX16_search_81 ?_
                  refine lv_goto (tgt := 87) C.1.1 C.1.2.1 dX16_search_82 (by decide) ?_
                  exact hb87 v4 x4 (v5 - 1) M L _ _ ls hD hw (lv_sub hl [1, 2, 3, 4, 5, 0] rfl)
  unfold DX16_search at hD
  refine lv_iconst (v := 0) C.1.1 C.1.2.1 dX16_search_0 (by decide) ?_
  refine lv_istore (lv' := [(4, .int 0), (0, .ref (ad k)), (1, .int a1), (2, .int a2), (3, .int a3)]) C.1.1 C.1.2.1 dX16_search_1 hl (by decide) rfl (fun ls hl => ?_)
  refine lv_iload_n C.1.1 C.1.2.1 dX16_search_3 rfl (lv_at hl 3 rfl) ?_
  refine lv_istore (lv' := [(5, .int a2), (4, .int 0), (0, .ref (ad k)), (1, .int a1), (2, .int a2), (3, .int a3)]) C.1.1 C.1.2.1 dX16_search_4 hl (by decide) rfl (fun ls hl => ?_)
  refine lv_aload_n C.1.1 C.1.2.1 dX16_search_6 rfl (lv_at hl 2 rfl) ?_
  refine mr_getR C hw kc_16 24 (Mp_N0 hk0) (Mp_T0 hk0) (Mp_F0_24 hk0) wd_2579 dX16_search_7 (by decide) rfl ?_
  refine lv_iconst (v := 0) C.1.1 C.1.2.1 dX16_search_10 (by decide) ?_
  refine lv_iconst (v := (-1)) C.1.1 C.1.2.1 dX16_search_11 (by decide) ?_
  obtain ⟨M57, eM57, hD⟩ := g_let hD
  refine mr_iast C hw (Mp_N20 hk0) (Mp_T20 hk0) (show vp_in 0 129 from by unfold vp_in; decide) dX16_search_12 (fun H locs hw => ?_)
  replace hw : mw_W G ad NF TF FF M57 L H locs := by rw [eM57]; exact hw
  exact hh13 fu 0 a2 M57 L _ _ ls hD hw (lv_sub hl [2, 3, 4, 5, 1, 0] rfl)

theorem dX16_inTurn_0 : decode cX16_inTurn 0 = .ok (.iload_n 2, 1) := by decide +kernel
theorem dX16_inTurn_1 : decode cX16_inTurn 1 = .ok (.istore_n 3, 1) := by decide +kernel
theorem dX16_inTurn_2 : decode cX16_inTurn 2 = .ok (.iconst 0, 1) := by decide +kernel
theorem dX16_inTurn_3 : decode cX16_inTurn 3 = .ok (.istore 4, 2) := by decide +kernel
theorem dX16_inTurn_5 : decode cX16_inTurn 5 = .ok (.iload 4, 2) := by decide +kernel
theorem dX16_inTurn_7 : decode cX16_inTurn 7 = .ok (.iload_n 1, 1) := by decide +kernel
theorem dX16_inTurn_8 : decode cX16_inTurn 8 = .ok (.if_icmp .ge 120, 3) := by decide +kernel
theorem dX16_inTurn_11 : decode cX16_inTurn 11 = .ok (.aload_n 0, 1) := by decide +kernel
theorem dX16_inTurn_12 : decode cX16_inTurn 12 = .ok (.getfield 62, 3) := by decide +kernel
theorem dX16_inTurn_15 : decode cX16_inTurn 15 = .ok (.iload 4, 2) := by decide +kernel
theorem dX16_inTurn_17 : decode cX16_inTurn 17 = .ok (.iaload, 1) := by decide +kernel
theorem dX16_inTurn_18 : decode cX16_inTurn 18 = .ok (.istore 5, 2) := by decide +kernel
theorem dX16_inTurn_20 : decode cX16_inTurn 20 = .ok (.iconst (-1), 1) := by decide +kernel
theorem dX16_inTurn_21 : decode cX16_inTurn 21 = .ok (.istore 6, 2) := by decide +kernel
theorem dX16_inTurn_23 : decode cX16_inTurn 23 = .ok (.iconst 0, 1) := by decide +kernel
theorem dX16_inTurn_24 : decode cX16_inTurn 24 = .ok (.istore 7, 2) := by decide +kernel
theorem dX16_inTurn_26 : decode cX16_inTurn 26 = .ok (.iconst 0, 1) := by decide +kernel
theorem dX16_inTurn_27 : decode cX16_inTurn 27 = .ok (.istore 8, 2) := by decide +kernel
theorem dX16_inTurn_29 : decode cX16_inTurn 29 = .ok (.iload 8, 2) := by decide +kernel
theorem dX16_inTurn_31 : decode cX16_inTurn 31 = .ok (.iload_n 3, 1) := by decide +kernel
theorem dX16_inTurn_32 : decode cX16_inTurn 32 = .ok (.if_icmp .ge 38, 3) := by decide +kernel
theorem dX16_inTurn_35 : decode cX16_inTurn 35 = .ok (.iload 6, 2) := by decide +kernel
theorem dX16_inTurn_37 : decode cX16_inTurn 37 = .ok (.ifCond .ge 33, 3) := by decide +kernel
theorem dX16_inTurn_40 : decode cX16_inTurn 40 = .ok (.aload_n 0, 1) := by decide +kernel
theorem dX16_inTurn_41 : decode cX16_inTurn 41 = .ok (.getfield 65, 3) := by decide +kernel
theorem dX16_inTurn_44 : decode cX16_inTurn 44 = .ok (.iload 8, 2) := by decide +kernel
theorem dX16_inTurn_46 : decode cX16_inTurn 46 = .ok (.iaload, 1) := by decide +kernel
theorem dX16_inTurn_47 : decode cX16_inTurn 47 = .ok (.istore 7, 2) := by decide +kernel
theorem dX16_inTurn_49 : decode cX16_inTurn 49 = .ok (.aload_n 0, 1) := by decide +kernel
theorem dX16_inTurn_50 : decode cX16_inTurn 50 = .ok (.iload 7, 2) := by decide +kernel
theorem dX16_inTurn_52 : decode cX16_inTurn 52 = .ok (.aload_n 0, 1) := by decide +kernel
theorem dX16_inTurn_53 : decode cX16_inTurn 53 = .ok (.getfield 74, 3) := by decide +kernel
theorem dX16_inTurn_56 : decode cX16_inTurn 56 = .ok (.iload 5, 2) := by decide +kernel
theorem dX16_inTurn_58 : decode cX16_inTurn 58 = .ok (.iaload, 1) := by decide +kernel
theorem dX16_inTurn_59 : decode cX16_inTurn 59 = .ok (.invokevirtual 124, 3) := by decide +kernel
theorem dX16_inTurn_62 : decode cX16_inTurn 62 = .ok (.istore 6, 2) := by decide +kernel
theorem dX16_inTurn_64 : decode cX16_inTurn 64 = .ok (.iinc 8 1, 3) := by decide +kernel
theorem dX16_inTurn_67 : decode cX16_inTurn 67 = .ok (.goto (-38), 3) := by decide +kernel
theorem dX16_inTurn_70 : decode cX16_inTurn 70 = .ok (.iload 6, 2) := by decide +kernel
theorem dX16_inTurn_72 : decode cX16_inTurn 72 = .ok (.ifCond .ge 32, 3) := by decide +kernel
theorem dX16_inTurn_75 : decode cX16_inTurn 75 = .ok (.aload_n 0, 1) := by decide +kernel
theorem dX16_inTurn_76 : decode cX16_inTurn 76 = .ok (.invokevirtual 120, 3) := by decide +kernel
theorem dX16_inTurn_79 : decode cX16_inTurn 79 = .ok (.istore 7, 2) := by decide +kernel
theorem dX16_inTurn_81 : decode cX16_inTurn 81 = .ok (.iload 7, 2) := by decide +kernel
theorem dX16_inTurn_83 : decode cX16_inTurn 83 = .ok (.bipush 65, 2) := by decide +kernel
theorem dX16_inTurn_85 : decode cX16_inTurn 85 = .ok (.if_icmp .ne 5, 3) := by decide +kernel
theorem dX16_inTurn_88 : decode cX16_inTurn 88 = .ok (.iconst 0, 1) := by decide +kernel
theorem dX16_inTurn_89 : decode cX16_inTurn 89 = .ok (.ireturn, 1) := by decide +kernel
theorem dX16_inTurn_90 : decode cX16_inTurn 90 = .ok (.iconst 0, 1) := by decide +kernel
theorem dX16_inTurn_91 : decode cX16_inTurn 91 = .ok (.istore 6, 2) := by decide +kernel
theorem dX16_inTurn_93 : decode cX16_inTurn 93 = .ok (.aload_n 0, 1) := by decide +kernel
theorem dX16_inTurn_94 : decode cX16_inTurn 94 = .ok (.getfield 65, 3) := by decide +kernel
theorem dX16_inTurn_97 : decode cX16_inTurn 97 = .ok (.iload_n 3, 1) := by decide +kernel
theorem dX16_inTurn_98 : decode cX16_inTurn 98 = .ok (.iload 7, 2) := by decide +kernel
theorem dX16_inTurn_100 : decode cX16_inTurn 100 = .ok (.iastore, 1) := by decide +kernel
theorem dX16_inTurn_101 : decode cX16_inTurn 101 = .ok (.iinc 3 1, 3) := by decide +kernel
theorem dX16_inTurn_104 : decode cX16_inTurn 104 = .ok (.aload_n 0, 1) := by decide +kernel
theorem dX16_inTurn_105 : decode cX16_inTurn 105 = .ok (.getfield 56, 3) := by decide +kernel
theorem dX16_inTurn_108 : decode cX16_inTurn 108 = .ok (.iload 5, 2) := by decide +kernel
theorem dX16_inTurn_110 : decode cX16_inTurn 110 = .ok (.iload 7, 2) := by decide +kernel
theorem dX16_inTurn_112 : decode cX16_inTurn 112 = .ok (.iastore, 1) := by decide +kernel
theorem dX16_inTurn_113 : decode cX16_inTurn 113 = .ok (.aload_n 0, 1) := by decide +kernel
theorem dX16_inTurn_114 : decode cX16_inTurn 114 = .ok (.getfield 59, 3) := by decide +kernel
theorem dX16_inTurn_117 : decode cX16_inTurn 117 = .ok (.iload 5, 2) := by decide +kernel
theorem dX16_inTurn_119 : decode cX16_inTurn 119 = .ok (.iload 6, 2) := by decide +kernel
theorem dX16_inTurn_121 : decode cX16_inTurn 121 = .ok (.iastore, 1) := by decide +kernel
theorem dX16_inTurn_122 : decode cX16_inTurn 122 = .ok (.iinc 4 1, 3) := by decide +kernel
theorem dX16_inTurn_125 : decode cX16_inTurn 125 = .ok (.goto (-120), 3) := by decide +kernel
theorem dX16_inTurn_128 : decode cX16_inTurn 128 = .ok (.iconst 1, 1) := by decide +kernel
theorem dX16_inTurn_129 : decode cX16_inTurn 129 = .ok (.ireturn, 1) := by decide +kernel
theorem cwX16_inTurn : mw_cwV yX16_inTurn cX16_inTurn 9 ((some .boolean)) 2 := ⟨⟨wd_19, wd_3457, by decide +kernel⟩, wd_3456, sl_205⟩
noncomputable def fX16_inTurn_b104 (fu : Nat) (k : Nat) (a1 : Int32) (a2 : Int32) (r5 : (Int32 × Int32 × mwM × mwL) → Option (Int32 × mwM × mwL)) (v3 : Int32) (v4 : Int32) (v5 : Int32) (v6 : Int32) (v7 : Int32) (M : mwM) (L : mwL) : Option (Int32 × mwM × mwL) :=
  mck v5 129 (mlet (mset M (k + 16) (v5.toNatClampNeg) v7) (fun M22 => mck v5 129 (mlet (mset M22 (k + 17) (v5.toNatClampNeg) v6) (fun M24 => mlet (v4 + 1) (fun x25 => r5 (v3, x25, M24, L))))))
noncomputable def fX16_inTurn_b70 (fu : Nat) (k : Nat) (a1 : Int32) (a2 : Int32) (r5 : (Int32 × Int32 × mwM × mwL) → Option (Int32 × mwM × mwL)) (v3 : Int32) (v4 : Int32) (v5 : Int32) (v6 : Int32) (v7 : Int32) (M : mwM) (L : mwL) : Option (Int32 × mwM × mwL) :=
  (if 0 ≤ v6 then fX16_inTurn_b104 fu k a1 a2 r5 v3 v4 v5 v6 v7 M L else mb3 (DX16_newFrame fu k M L) (fun r16 M14 L15 => (if r16 = 65 then some (0, M14, L15) else mck v3 65 (mlet (mset M14 (k + 19) (v3.toNatClampNeg) r16) (fun M19 => mlet (v3 + 1) (fun x20 => fX16_inTurn_b104 fu k a1 a2 r5 x20 v4 v5 0 r16 M19 L15))))))
noncomputable def fX16_inTurn_i29 (fu : Nat) (k : Nat) (a1 : Int32) (a2 : Int32) (r5 : (Int32 × Int32 × mwM × mwL) → Option (Int32 × mwM × mwL)) (r29 : (Int32 × Int32 × Int32 × Int32 × Int32 × Int32 × mwM × mwL) → Option (Int32 × mwM × mwL)) (v3 : Int32) (v4 : Int32) (v5 : Int32) (v6 : Int32) (v7 : Int32) (v8 : Int32) (M : mwM) (L : mwL) : Option (Int32 × mwM × mwL) :=
  (if v3 ≤ v8 then fX16_inTurn_b70 fu k a1 a2 r5 v3 v4 v5 v6 v7 M L else (if 0 ≤ v6 then fX16_inTurn_b70 fu k a1 a2 r5 v3 v4 v5 v6 v7 M L else mck v8 65 (mlet (M (k + 19) v8.toNatClampNeg) (fun x7 => mck v5 129 (mb3 (DX16_room fu k x7 (M (k + 22) v5.toNatClampNeg) M L) (fun r11 M9 L10 => mlet (v8 + 1) (fun x12 => r29 (v3, v4, v5, r11, x7, x12, M9, L10))))))))
noncomputable def fX16_inTurn_h29 (fu : Nat) (k : Nat) (a1 : Int32) (a2 : Int32) (r5 : (Int32 × Int32 × mwM × mwL) → Option (Int32 × mwM × mwL)) : Nat → (Int32 × Int32 × Int32 × Int32 × Int32 × Int32 × mwM × mwL) → Option (Int32 × mwM × mwL) := mloop (fun r29 s => fX16_inTurn_i29 fu k a1 a2 r5 r29 s.1 s.2.1 s.2.2.1 s.2.2.2.1 s.2.2.2.2.1 s.2.2.2.2.2.1 s.2.2.2.2.2.2.1 s.2.2.2.2.2.2.2)
noncomputable def fX16_inTurn_i5 (fu : Nat) (k : Nat) (a1 : Int32) (a2 : Int32) (r5 : (Int32 × Int32 × mwM × mwL) → Option (Int32 × mwM × mwL)) (v3 : Int32) (v4 : Int32) (M : mwM) (L : mwL) : Option (Int32 × mwM × mwL) :=
  (if a1 ≤ v4 then some (1, M, L) else mck v4 129 (mlet (M (k + 18) v4.toNatClampNeg) (fun x3 => fX16_inTurn_h29 fu k a1 a2 r5 fu (v3, v4, x3, ((-1)), 0, 0, M, L))))
noncomputable def fX16_inTurn_h5 (fu : Nat) (k : Nat) (a1 : Int32) (a2 : Int32) : Nat → (Int32 × Int32 × mwM × mwL) → Option (Int32 × mwM × mwL) := mloop (fun r5 s => fX16_inTurn_i5 fu k a1 a2 r5 s.1 s.2.1 s.2.2.1 s.2.2.2)
noncomputable def DX16_inTurn (fu : Nat) (k : Nat) (a1 : Int32) (a2 : Int32) (M : mwM) (L : mwL) : Option (Int32 × mwM × mwL) :=
  fX16_inTurn_h5 fu k a1 a2 fu (a2, 0, M, L)
set_option maxHeartbeats 4000000 in
set_option maxRecDepth 100000 in
theorem tX16_inTurn (l : Launch) (G : mwG) (ad : Nat → Nat) (fu : Nat) (k : Nat) (a1 : Int32) (a2 : Int32) (M : mwM) (L : mwL) {r0 : Int32} {M0 : mwM} {L0 : mwL} (hD : DX16_inTurn fu k a1 a2 M L = some (r0, M0, L0)) (hk0 : isMp k) : Met l yX16_inTurn (Cond.code yX16_inTurn cX16_inTurn 9 ((some .boolean)) :: GT) ({ frames := 3, cells := 0, slots := 0, locals := 71 }) (mw_Pre G ad NF TF FF M L [.ref (ad k), .int a1, .int a2]) (mw_Qi G ad NF TF FF (mw_eqI r0 M0 L0)) 0 0 (mw_fr G) := by
  refine mw_enter (by decide) (Nat.le_of_ble_eq_true rfl) ?_
  intro p e s m below meth c ls C hr hlocks hnm hw hl
  have hl : lv_has ls 9 [(0, .ref (ad k)), (1, .int a1), (2, .int a2)] := hl
  have hh5 : ∀ (f : Nat) (v3 : Int32) (v4 : Int32) (M : mwM) (L : mwL) (H : Heap) (locs : List Loc) (ls : Array Slot), fX16_inTurn_h5 fu k a1 a2 f (v3, v4, M, L) = some (r0, M0, L0) → mw_W G ad NF TF FF M L H locs → lv_has ls 9 [(0, .ref (ad k)), (1, .int a1), (3, .int v3), (4, .int v4)] → W p l e ({ frames := 3, cells := 0, slots := 0, locals := 71 }) s m [.ref (ad k), .int a1, .int a2].toArray below meth c H locs 0 0 (MQ below (mw_Qi G ad NF TF FF (mw_eqI r0 M0 L0)) [.ref (ad k), .int a1, .int a2].toArray s 0 0 (mw_fr G)) (F0 m 5 ls []) := by
    intro f
    induction f with
    | zero => intro v3 v4 M L H locs ls hD; cases hD
    | succ f5 ih5 =>
      intro v3 v4 M L H locs ls hD hw hl
      replace hD : fX16_inTurn_i5 fu k a1 a2 (fX16_inTurn_h5 fu k a1 a2 f5) v3 v4 M L = some (r0, M0, L0) := hD
      have hb104 : ∀ (v3 : Int32) (v4 : Int32) (v5 : Int32) (v6 : Int32) (v7 : Int32) (M : mwM) (L : mwL) (H : Heap) (locs : List Loc) (ls : Array Slot), fX16_inTurn_b104 fu k a1 a2 (fX16_inTurn_h5 fu k a1 a2 f5) v3 v4 v5 v6 v7 M L = some (r0, M0, L0) → mw_W G ad NF TF FF M L H locs → lv_has ls 9 [(0, .ref (ad k)), (1, .int a1), (3, .int v3), (4, .int v4), (5, .int v5), (6, .int v6), (7, .int v7)] → W p l e ({ frames := 3, cells := 0, slots := 0, locals := 71 }) s m [.ref (ad k), .int a1, .int a2].toArray below meth c H locs 0 0 (MQ below (mw_Qi G ad NF TF FF (mw_eqI r0 M0 L0)) [.ref (ad k), .int a1, .int a2].toArray s 0 0 (mw_fr G)) (F0 m 104 ls []) := by
        intro v3 v4 v5 v6 v7 M L H locs ls hD hw hl
        unfold fX16_inTurn_b104 at hD
        refine lv_aload_n C.1.1 C.1.2.1 dX16_inTurn_104 rfl (lv_at hl 0 rfl) ?_
        refine mr_getR C hw kc_16 20 (Mp_N0 hk0) (Mp_T0 hk0) (Mp_F0_20 hk0) wd_2575 dX16_inTurn_105 (by decide) rfl ?_
        refine lv_iload C.1.1 C.1.2.1 dX16_inTurn_108 (lv_at hl 4 rfl) ?_
        refine lv_iload C.1.1 C.1.2.1 dX16_inTurn_110 (lv_at hl 6 rfl) ?_
        obtain ⟨q21, hD⟩ := g_ck hD
        obtain ⟨M22, eM22, hD⟩ := g_let hD
        refine mr_iast C hw (Mp_N16 hk0) (Mp_T16 hk0) q21 dX16_inTurn_112 (fun H locs hw => ?_)
        replace hw : mw_W G ad NF TF FF M22 L H locs := by rw [eM22]; exact hw
        refine lv_aload_n C.1.1 C.1.2.1 dX16_inTurn_113 rfl (lv_at hl 0 rfl) ?_
        refine mr_getR C hw kc_16 21 (Mp_N0 hk0) (Mp_T0 hk0) (Mp_F0_21 hk0) wd_2576 dX16_inTurn_114 (by decide) rfl ?_
        refine lv_iload C.1.1 C.1.2.1 dX16_inTurn_117 (lv_at hl 4 rfl) ?_
        refine lv_iload C.1.1 C.1.2.1 dX16_inTurn_119 (lv_at hl 5 rfl) ?_
        obtain ⟨q23, hD⟩ := g_ck hD
        obtain ⟨M24, eM24, hD⟩ := g_let hD
        refine mr_iast C hw (Mp_N17 hk0) (Mp_T17 hk0) q23 dX16_inTurn_121 (fun H locs hw => ?_)
        replace hw : mw_W G ad NF TF FF M24 L H locs := by rw [eM24]; exact hw
        obtain ⟨x25, ex25, hD⟩ := g_let hD
        refine lv_iinc (v := x25) (lv' := [(4, .int x25), (0, .ref (ad k)), (1, .int a1), (3, .int v3), (5, .int v5), (6, .int v6), (7, .int v7)]) C.1.1 C.1.2.1 dX16_inTurn_122 hl (k := 3) rfl (by rw [ex25]; rfl) (by decide) rfl (fun ls hl => ?_)
        refine lv_goto (tgt := 5) C.1.1 C.1.2.1 dX16_inTurn_125 (by decide) ?_
        exact ih5 v3 x25 M24 L _ _ ls hD hw (lv_sub hl [1, 2, 3, 0] rfl)
      have hb70 : ∀ (v3 : Int32) (v4 : Int32) (v5 : Int32) (v6 : Int32) (v7 : Int32) (M : mwM) (L : mwL) (H : Heap) (locs : List Loc) (ls : Array Slot), fX16_inTurn_b70 fu k a1 a2 (fX16_inTurn_h5 fu k a1 a2 f5) v3 v4 v5 v6 v7 M L = some (r0, M0, L0) → mw_W G ad NF TF FF M L H locs → lv_has ls 9 [(0, .ref (ad k)), (1, .int a1), (3, .int v3), (4, .int v4), (5, .int v5), (6, .int v6), (7, .int v7)] → W p l e ({ frames := 3, cells := 0, slots := 0, locals := 71 }) s m [.ref (ad k), .int a1, .int a2].toArray below meth c H locs 0 0 (MQ below (mw_Qi G ad NF TF FF (mw_eqI r0 M0 L0)) [.ref (ad k), .int a1, .int a2].toArray s 0 0 (mw_fr G)) (F0 m 70 ls []) := by
        intro v3 v4 v5 v6 v7 M L H locs ls hD hw hl
        unfold fX16_inTurn_b70 at hD
        refine lv_iload C.1.1 C.1.2.1 dX16_inTurn_70 (lv_at hl 5 rfl) ?_
        refine lv_if_ge (tgt := 104) C.1.1 C.1.2.1 dX16_inTurn_72 (by decide) (fun c13 => ?_) (fun c13 => ?_)
        · replace hD := g_pos c13 hD
          exact hb104 v3 v4 v5 v6 v7 M L _ _ ls hD hw (lv_sub hl [0, 1, 2, 3, 4, 5, 6] rfl)
        · replace hD := g_neg c13 hD
          refine lv_aload_n C.1.1 C.1.2.1 dX16_inTurn_75 rfl (lv_at hl 0 rfl) ?_
          obtain ⟨r16, M14, L15, h1, hD⟩ := g_b3 hD
          refine md_cvI (As := []) (rest := []) C hw (tX16_newFrame l G ad fu k M L h1 hk0) kc_16 (Mp_N0 hk0) (Mp_T0 hk0) wd_3462 cwX16_newFrame ⟨Nat.le_of_ble_eq_true rfl, Nat.le_of_ble_eq_true rfl⟩ rfl hl.1 (Nat.le_of_ble_eq_true rfl) dX16_inTurn_76 rfl rfl ⟨Nat.zero_le _, Nat.zero_le _⟩ rfl (fun H locs hw => ?_)
          refine lv_istore (lv' := [(7, .int r16), (0, .ref (ad k)), (1, .int a1), (3, .int v3), (4, .int v4), (5, .int v5), (6, .int v6)]) C.1.1 C.1.2.1 dX16_inTurn_79 hl (by decide) rfl (fun ls hl => ?_)
          refine lv_iload C.1.1 C.1.2.1 dX16_inTurn_81 (lv_at hl 0 rfl) ?_
          refine lv_bipush (v := 65) C.1.1 C.1.2.1 dX16_inTurn_83 (by decide) ?_
          refine lv_icmp_ne (tgt := 90) C.1.1 C.1.2.1 dX16_inTurn_85 (by decide) (fun c17 => ?_) (fun c17 => ?_)
          · replace hD := g_neg c17 hD
            refine lv_iconst (v := 0) C.1.1 C.1.2.1 dX16_inTurn_90 (by decide) ?_
            refine lv_istore (lv' := [(6, .int 0), (7, .int r16), (0, .ref (ad k)), (1, .int a1), (3, .int v3), (4, .int v4), (5, .int v5)]) C.1.1 C.1.2.1 dX16_inTurn_91 hl (by decide) rfl (fun ls hl => ?_)
            refine lv_aload_n C.1.1 C.1.2.1 dX16_inTurn_93 rfl (lv_at hl 2 rfl) ?_
            refine mr_getR C hw kc_16 23 (Mp_N0 hk0) (Mp_T0 hk0) (Mp_F0_23 hk0) wd_2578 dX16_inTurn_94 (by decide) rfl ?_
            refine lv_iload_n C.1.1 C.1.2.1 dX16_inTurn_97 rfl (lv_at hl 4 rfl) ?_
            refine lv_iload C.1.1 C.1.2.1 dX16_inTurn_98 (lv_at hl 1 rfl) ?_
            obtain ⟨q18, hD⟩ := g_ck hD
            obtain ⟨M19, eM19, hD⟩ := g_let hD
            refine mr_iast C hw (Mp_N19 hk0) (Mp_T19 hk0) q18 dX16_inTurn_100 (fun H locs hw => ?_)
            replace hw : mw_W G ad NF TF FF M19 L15 H locs := by rw [eM19]; exact hw
            obtain ⟨x20, ex20, hD⟩ := g_let hD
            refine lv_iinc (v := x20) (lv' := [(3, .int x20), (6, .int 0), (7, .int r16), (0, .ref (ad k)), (1, .int a1), (4, .int v4), (5, .int v5)]) C.1.1 C.1.2.1 dX16_inTurn_101 hl (k := 4) rfl (by rw [ex20]; rfl) (by decide) rfl (fun ls hl => ?_)
            exact hb104 x20 v4 v5 0 r16 M19 L15 _ _ ls hD hw (lv_sub hl [3, 4, 0, 5, 6, 1, 2] rfl)
          · replace hD := g_pos c17 hD
            refine lv_iconst (v := 0) C.1.1 C.1.2.1 dX16_inTurn_88 (by decide) ?_
            exact mr_iret C hr hlocks hw (by decide +kernel) (Option.some.inj hD) dX16_inTurn_89
      have hh29 : ∀ (f : Nat) (v3 : Int32) (v4 : Int32) (v5 : Int32) (v6 : Int32) (v7 : Int32) (v8 : Int32) (M : mwM) (L : mwL) (H : Heap) (locs : List Loc) (ls : Array Slot), fX16_inTurn_h29 fu k a1 a2 (fX16_inTurn_h5 fu k a1 a2 f5) f (v3, v4, v5, v6, v7, v8, M, L) = some (r0, M0, L0) → mw_W G ad NF TF FF M L H locs → lv_has ls 9 [(0, .ref (ad k)), (1, .int a1), (3, .int v3), (4, .int v4), (5, .int v5), (6, .int v6), (7, .int v7), (8, .int v8)] → W p l e ({ frames := 3, cells := 0, slots := 0, locals := 71 }) s m [.ref (ad k), .int a1, .int a2].toArray below meth c H locs 0 0 (MQ below (mw_Qi G ad NF TF FF (mw_eqI r0 M0 L0)) [.ref (ad k), .int a1, .int a2].toArray s 0 0 (mw_fr G)) (F0 m 29 ls []) := by
        intro f
        induction f with
        | zero => intro v3 v4 v5 v6 v7 v8 M L H locs ls hD; cases hD
        | succ f29 ih29 =>
          intro v3 v4 v5 v6 v7 v8 M L H locs ls hD hw hl
          replace hD : fX16_inTurn_i29 fu k a1 a2 (fX16_inTurn_h5 fu k a1 a2 f5) (fX16_inTurn_h29 fu k a1 a2 (fX16_inTurn_h5 fu k a1 a2 f5) f29) v3 v4 v5 v6 v7 v8 M L = some (r0, M0, L0) := hD
          unfold fX16_inTurn_i29 at hD
          refine lv_iload C.1.1 C.1.2.1 dX16_inTurn_29 (lv_at hl 7 rfl) ?_
          refine lv_iload_n C.1.1 C.1.2.1 dX16_inTurn_31 rfl (lv_at hl 2 rfl) ?_
          refine lv_icmp_ge (tgt := 70) C.1.1 C.1.2.1 dX16_inTurn_32 (by decide) (fun c4 => ?_) (fun c4 => ?_)
          · replace hD := g_pos c4 hD
            exact hb70 v3 v4 v5 v6 v7 M L _ _ ls hD hw (lv_sub hl [0, 1, 2, 3, 4, 5, 6] rfl)
          · replace hD := g_neg c4 hD
            refine lv_iload C.1.1 C.1.2.1 dX16_inTurn_35 (lv_at hl 5 rfl) ?_
            refine lv_if_ge (tgt := 70) C.1.1 C.1.2.1 dX16_inTurn_37 (by decide) (fun c5 => ?_) (fun c5 => ?_)
            · replace hD := g_pos c5 hD
              exact hb70 v3 v4 v5 v6 v7 M L _ _ ls hD hw (lv_sub hl [0, 1, 2, 3, 4, 5, 6] rfl)
            · replace hD := g_neg c5 hD
              refine lv_aload_n C.1.1 C.1.2.1 dX16_inTurn_40 rfl (lv_at hl 0 rfl) ?_
              refine mr_getR C hw kc_16 23 (Mp_N0 hk0) (Mp_T0 hk0) (Mp_F0_23 hk0) wd_2578 dX16_inTurn_41 (by decide) rfl ?_
              refine lv_iload C.1.1 C.1.2.1 dX16_inTurn_44 (lv_at hl 7 rfl) ?_
              obtain ⟨q6, hD⟩ := g_ck hD
              refine mr_iald C hw (Mp_N19 hk0) (Mp_T19 hk0) q6 dX16_inTurn_46 ?_
              obtain ⟨x7, ex7, hD⟩ := g_let hD
              refine W.eq (g2 := F0 m 47 ls (.int x7 :: [])) (by rw [ex7]) ?_
              refine lv_istore (lv' := [(7, .int x7), (0, .ref (ad k)), (1, .int a1), (3, .int v3), (4, .int v4), (5, .int v5), (6, .int v6), (8, .int v8)]) C.1.1 C.1.2.1 dX16_inTurn_47 hl (by decide) rfl (fun ls hl => ?_)
              refine lv_aload_n C.1.1 C.1.2.1 dX16_inTurn_49 rfl (lv_at hl 1 rfl) ?_
              refine lv_iload C.1.1 C.1.2.1 dX16_inTurn_50 (lv_at hl 0 rfl) ?_
              refine lv_aload_n C.1.1 C.1.2.1 dX16_inTurn_52 rfl (lv_at hl 1 rfl) ?_
              refine mr_getR C hw kc_16 26 (Mp_N0 hk0) (Mp_T0 hk0) (Mp_F0_26 hk0) wd_2581 dX16_inTurn_53 (by decide) rfl ?_
              refine lv_iload C.1.1 C.1.2.1 dX16_inTurn_56 (lv_at hl 5 rfl) ?_
              obtain ⟨q8, hD⟩ := g_ck hD
              refine mr_iald C hw (Mp_N22 hk0) (Mp_T22 hk0) q8 dX16_inTurn_58 ?_
              obtain ⟨r11, M9, L10, h1, hD⟩ := g_b3 hD
              refine md_cvI (As := [.int x7, .int (M (k + 22) v5.toNatClampNeg)]) (rest := []) C hw (tX16_room l G ad fu k x7 (M (k + 22) v5.toNatClampNeg) M L h1 hk0) kc_16 (Mp_N0 hk0) (Mp_T0 hk0) wd_3458 cwX16_room ⟨Nat.le_of_ble_eq_true rfl, Nat.le_of_ble_eq_true rfl⟩ rfl hl.1 (Nat.le_of_ble_eq_true rfl) dX16_inTurn_59 rfl rfl ⟨Nat.zero_le _, Nat.zero_le _⟩ rfl (fun H locs hw => ?_)
              refine lv_istore (lv' := [(6, .int r11), (7, .int x7), (0, .ref (ad k)), (1, .int a1), (3, .int v3), (4, .int v4), (5, .int v5), (8, .int v8)]) C.1.1 C.1.2.1 dX16_inTurn_62 hl (by decide) rfl (fun ls hl => ?_)
              obtain ⟨x12, ex12, hD⟩ := g_let hD
              refine lv_iinc (v := x12) (lv' := [(8, .int x12), (6, .int r11), (7, .int x7), (0, .ref (ad k)), (1, .int a1), (3, .int v3), (4, .int v4), (5, .int v5)]) C.1.1 C.1.2.1 dX16_inTurn_64 hl (k := 7) rfl (by rw [ex12]; rfl) (by decide) rfl (fun ls hl => ?_)
              refine lv_goto (tgt := 29) C.1.1 C.1.2.1 dX16_inTurn_67 (by decide) ?_
              exact ih29 v3 v4 v5 r11 x7 x12 M9 L10 _ _ ls hD hw (lv_sub hl [3, 4, 5, 6, 7, 1, 2, 0] rfl)
      unfold fX16_inTurn_i5 at hD
      refine lv_iload C.1.1 C.1.2.1 dX16_inTurn_5 (lv_at hl 3 rfl) ?_
      refine lv_iload_n C.1.1 C.1.2.1 dX16_inTurn_7 rfl (lv_at hl 1 rfl) ?_
      refine lv_icmp_ge (tgt := 128) C.1.1 C.1.2.1 dX16_inTurn_8 (by decide) (fun c1 => ?_) (fun c1 => ?_)
      · replace hD := g_pos c1 hD
        refine lv_iconst (v := 1) C.1.1 C.1.2.1 dX16_inTurn_128 (by decide) ?_
        exact mr_iret C hr hlocks hw (by decide +kernel) (Option.some.inj hD) dX16_inTurn_129
      · replace hD := g_neg c1 hD
        refine lv_aload_n C.1.1 C.1.2.1 dX16_inTurn_11 rfl (lv_at hl 0 rfl) ?_
        refine mr_getR C hw kc_16 22 (Mp_N0 hk0) (Mp_T0 hk0) (Mp_F0_22 hk0) wd_2577 dX16_inTurn_12 (by decide) rfl ?_
        refine lv_iload C.1.1 C.1.2.1 dX16_inTurn_15 (lv_at hl 3 rfl) ?_
        obtain ⟨q2, hD⟩ := g_ck hD
        refine mr_iald C hw (Mp_N18 hk0) (Mp_T18 hk0) q2 dX16_inTurn_17 ?_
        obtain ⟨x3, ex3, hD⟩ := g_let hD
        refine W.eq (g2 := F0 m 18 ls (.int x3 :: [])) (by rw [ex3]) ?_
        refine lv_istore (lv' := [(5, .int x3), (0, .ref (ad k)), (1, .int a1), (3, .int v3), (4, .int v4)]) C.1.1 C.1.2.1 dX16_inTurn_18 hl (by decide) rfl (fun ls hl => ?_)
        refine lv_iconst (v := (-1)) C.1.1 C.1.2.1 dX16_inTurn_20 (by decide) ?_
        refine lv_istore (lv' := [(6, .int ((-1))), (5, .int x3), (0, .ref (ad k)), (1, .int a1), (3, .int v3), (4, .int v4)]) C.1.1 C.1.2.1 dX16_inTurn_21 hl (by decide) rfl (fun ls hl => ?_)
        refine lv_iconst (v := 0) C.1.1 C.1.2.1 dX16_inTurn_23 (by decide) ?_
        refine lv_istore (lv' := [(7, .int 0), (6, .int ((-1))), (5, .int x3), (0, .ref (ad k)), (1, .int a1), (3, .int v3), (4, .int v4)]) C.1.1 C.1.2.1 dX16_inTurn_24 hl (by decide) rfl (fun ls hl => ?_)
        refine lv_iconst (v := 0) C.1.1 C.1.2.1 dX16_inTurn_26 (by decide) ?_
        refine lv_istore (lv' := [(8, .int 0), (7, .int 0), (6, .int ((-1))), (5, .int x3), (0, .ref (ad k)), (1, .int a1), (3, .int v3), (4, .int v4)]) C.1.1 C.1.2.1 dX16_inTurn_27 hl (by decide) rfl (fun ls hl => ?_)
        exact hh29 fu v3 v4 x3 ((-1)) 0 0 M L _ _ ls hD hw (lv_sub hl [4, 5, 6, 7, 3, 2, 1, 0] rfl)
  unfold DX16_inTurn at hD
  refine lv_iload_n C.1.1 C.1.2.1 dX16_inTurn_0 rfl (lv_at hl 2 rfl) ?_
  refine lv_istore_n (lv' := [(3, .int a2), (0, .ref (ad k)), (1, .int a1), (2, .int a2)]) C.1.1 C.1.2.1 dX16_inTurn_1 rfl hl (by decide) rfl (fun ls hl => ?_)
  refine lv_iconst (v := 0) C.1.1 C.1.2.1 dX16_inTurn_2 (by decide) ?_
  refine lv_istore (lv' := [(4, .int 0), (3, .int a2), (0, .ref (ad k)), (1, .int a1), (2, .int a2)]) C.1.1 C.1.2.1 dX16_inTurn_3 hl (by decide) rfl (fun ls hl => ?_)
  exact hh5 fu a2 0 M L _ _ ls hD hw (lv_sub hl [2, 3, 1, 0] rfl)

theorem dX16_listed_0 : decode cX16_listed 0 = .ok (.iconst 0, 1) := by decide +kernel
theorem dX16_listed_1 : decode cX16_listed 1 = .ok (.istore_n 2, 1) := by decide +kernel
theorem dX16_listed_2 : decode cX16_listed 2 = .ok (.iconst 0, 1) := by decide +kernel
theorem dX16_listed_3 : decode cX16_listed 3 = .ok (.istore_n 3, 1) := by decide +kernel
theorem dX16_listed_4 : decode cX16_listed 4 = .ok (.iload_n 3, 1) := by decide +kernel
theorem dX16_listed_5 : decode cX16_listed 5 = .ok (.ifCond .lt 184, 3) := by decide +kernel
theorem dX16_listed_8 : decode cX16_listed 8 = .ok (.iconst (-1), 1) := by decide +kernel
theorem dX16_listed_9 : decode cX16_listed 9 = .ok (.istore_n 3, 1) := by decide +kernel
theorem dX16_listed_10 : decode cX16_listed 10 = .ok (.iconst 1, 1) := by decide +kernel
theorem dX16_listed_11 : decode cX16_listed 11 = .ok (.istore 4, 2) := by decide +kernel
theorem dX16_listed_13 : decode cX16_listed 13 = .ok (.iload 4, 2) := by decide +kernel
theorem dX16_listed_15 : decode cX16_listed 15 = .ok (.aload_n 0, 1) := by decide +kernel
theorem dX16_listed_16 : decode cX16_listed 16 = .ok (.getfield 81, 3) := by decide +kernel
theorem dX16_listed_19 : decode cX16_listed 19 = .ok (.if_icmp .gt 153, 3) := by decide +kernel
theorem dX16_listed_22 : decode cX16_listed 22 = .ok (.aload_n 0, 1) := by decide +kernel
theorem dX16_listed_23 : decode cX16_listed 23 = .ok (.iload 4, 2) := by decide +kernel
theorem dX16_listed_25 : decode cX16_listed 25 = .ok (.invokevirtual 110, 3) := by decide +kernel
theorem dX16_listed_28 : decode cX16_listed 28 = .ok (.ifCond .eq 28, 3) := by decide +kernel
theorem dX16_listed_31 : decode cX16_listed 31 = .ok (.aload_n 0, 1) := by decide +kernel
theorem dX16_listed_32 : decode cX16_listed 32 = .ok (.getfield 56, 3) := by decide +kernel
theorem dX16_listed_35 : decode cX16_listed 35 = .ok (.iload 4, 2) := by decide +kernel
theorem dX16_listed_37 : decode cX16_listed 37 = .ok (.iaload, 1) := by decide +kernel
theorem dX16_listed_38 : decode cX16_listed 38 = .ok (.ifCond .ne 18, 3) := by decide +kernel
theorem dX16_listed_41 : decode cX16_listed 41 = .ok (.aload_n 0, 1) := by decide +kernel
theorem dX16_listed_42 : decode cX16_listed 42 = .ok (.getfield 13, 3) := by decide +kernel
theorem dX16_listed_45 : decode cX16_listed 45 = .ok (.iload 4, 2) := by decide +kernel
theorem dX16_listed_47 : decode cX16_listed 47 = .ok (.iaload, 1) := by decide +kernel
theorem dX16_listed_48 : decode cX16_listed 48 = .ok (.iload_n 1, 1) := by decide +kernel
theorem dX16_listed_49 : decode cX16_listed 49 = .ok (.if_icmp .ne 7, 3) := by decide +kernel
theorem dX16_listed_52 : decode cX16_listed 52 = .ok (.iconst 1, 1) := by decide +kernel
theorem dX16_listed_53 : decode cX16_listed 53 = .ok (.goto 4, 3) := by decide +kernel
theorem dX16_listed_56 : decode cX16_listed 56 = .ok (.iconst 0, 1) := by decide +kernel
theorem dX16_listed_57 : decode cX16_listed 57 = .ok (.istore 5, 2) := by decide +kernel
theorem dX16_listed_59 : decode cX16_listed 59 = .ok (.iload_n 2, 1) := by decide +kernel
theorem dX16_listed_60 : decode cX16_listed 60 = .ok (.ifCond .eq 62, 3) := by decide +kernel
theorem dX16_listed_63 : decode cX16_listed 63 = .ok (.aload_n 0, 1) := by decide +kernel
theorem dX16_listed_64 : decode cX16_listed 64 = .ok (.getfield 74, 3) := by decide +kernel
theorem dX16_listed_67 : decode cX16_listed 67 = .ok (.iload 4, 2) := by decide +kernel
theorem dX16_listed_69 : decode cX16_listed 69 = .ok (.iaload, 1) := by decide +kernel
theorem dX16_listed_70 : decode cX16_listed 70 = .ok (.aload_n 0, 1) := by decide +kernel
theorem dX16_listed_71 : decode cX16_listed 71 = .ok (.getfield 74, 3) := by decide +kernel
theorem dX16_listed_74 : decode cX16_listed 74 = .ok (.aload_n 0, 1) := by decide +kernel
theorem dX16_listed_75 : decode cX16_listed 75 = .ok (.getfield 62, 3) := by decide +kernel
theorem dX16_listed_78 : decode cX16_listed 78 = .ok (.iload_n 2, 1) := by decide +kernel
theorem dX16_listed_79 : decode cX16_listed 79 = .ok (.iconst 1, 1) := by decide +kernel
theorem dX16_listed_80 : decode cX16_listed 80 = .ok (.isub, 1) := by decide +kernel
theorem dX16_listed_81 : decode cX16_listed 81 = .ok (.iaload, 1) := by decide +kernel
theorem dX16_listed_82 : decode cX16_listed 82 = .ok (.iaload, 1) := by decide +kernel
theorem dX16_listed_83 : decode cX16_listed 83 = .ok (.if_icmp .lt 39, 3) := by decide +kernel
theorem dX16_listed_86 : decode cX16_listed 86 = .ok (.aload_n 0, 1) := by decide +kernel
theorem dX16_listed_87 : decode cX16_listed 87 = .ok (.getfield 74, 3) := by decide +kernel
theorem dX16_listed_90 : decode cX16_listed 90 = .ok (.iload 4, 2) := by decide +kernel
theorem dX16_listed_92 : decode cX16_listed 92 = .ok (.iaload, 1) := by decide +kernel
theorem dX16_listed_93 : decode cX16_listed 93 = .ok (.aload_n 0, 1) := by decide +kernel
theorem dX16_listed_94 : decode cX16_listed 94 = .ok (.getfield 74, 3) := by decide +kernel
theorem dX16_listed_97 : decode cX16_listed 97 = .ok (.aload_n 0, 1) := by decide +kernel
theorem dX16_listed_98 : decode cX16_listed 98 = .ok (.getfield 62, 3) := by decide +kernel
theorem dX16_listed_101 : decode cX16_listed 101 = .ok (.iload_n 2, 1) := by decide +kernel
theorem dX16_listed_102 : decode cX16_listed 102 = .ok (.iconst 1, 1) := by decide +kernel
theorem dX16_listed_103 : decode cX16_listed 103 = .ok (.isub, 1) := by decide +kernel
theorem dX16_listed_104 : decode cX16_listed 104 = .ok (.iaload, 1) := by decide +kernel
theorem dX16_listed_105 : decode cX16_listed 105 = .ok (.iaload, 1) := by decide +kernel
theorem dX16_listed_106 : decode cX16_listed 106 = .ok (.if_icmp .ne 20, 3) := by decide +kernel
theorem dX16_listed_109 : decode cX16_listed 109 = .ok (.iload 4, 2) := by decide +kernel
theorem dX16_listed_111 : decode cX16_listed 111 = .ok (.aload_n 0, 1) := by decide +kernel
theorem dX16_listed_112 : decode cX16_listed 112 = .ok (.getfield 62, 3) := by decide +kernel
theorem dX16_listed_115 : decode cX16_listed 115 = .ok (.iload_n 2, 1) := by decide +kernel
theorem dX16_listed_116 : decode cX16_listed 116 = .ok (.iconst 1, 1) := by decide +kernel
theorem dX16_listed_117 : decode cX16_listed 117 = .ok (.isub, 1) := by decide +kernel
theorem dX16_listed_118 : decode cX16_listed 118 = .ok (.iaload, 1) := by decide +kernel
theorem dX16_listed_119 : decode cX16_listed 119 = .ok (.if_icmp .le 7, 3) := by decide +kernel
theorem dX16_listed_122 : decode cX16_listed 122 = .ok (.iconst 1, 1) := by decide +kernel
theorem dX16_listed_123 : decode cX16_listed 123 = .ok (.goto 4, 3) := by decide +kernel
theorem dX16_listed_126 : decode cX16_listed 126 = .ok (.iconst 0, 1) := by decide +kernel
theorem dX16_listed_127 : decode cX16_listed 127 = .ok (.istore 6, 2) := by decide +kernel
theorem dX16_listed_129 : decode cX16_listed 129 = .ok (.iload 5, 2) := by decide +kernel
theorem dX16_listed_131 : decode cX16_listed 131 = .ok (.ifCond .eq 33, 3) := by decide +kernel
theorem dX16_listed_134 : decode cX16_listed 134 = .ok (.iload 6, 2) := by decide +kernel
theorem dX16_listed_136 : decode cX16_listed 136 = .ok (.ifCond .eq 28, 3) := by decide +kernel
theorem dX16_listed_139 : decode cX16_listed 139 = .ok (.iload_n 3, 1) := by decide +kernel
theorem dX16_listed_140 : decode cX16_listed 140 = .ok (.ifCond .lt 19, 3) := by decide +kernel
theorem dX16_listed_143 : decode cX16_listed 143 = .ok (.aload_n 0, 1) := by decide +kernel
theorem dX16_listed_144 : decode cX16_listed 144 = .ok (.getfield 74, 3) := by decide +kernel
theorem dX16_listed_147 : decode cX16_listed 147 = .ok (.iload 4, 2) := by decide +kernel
theorem dX16_listed_149 : decode cX16_listed 149 = .ok (.iaload, 1) := by decide +kernel
theorem dX16_listed_150 : decode cX16_listed 150 = .ok (.aload_n 0, 1) := by decide +kernel
theorem dX16_listed_151 : decode cX16_listed 151 = .ok (.getfield 74, 3) := by decide +kernel
theorem dX16_listed_154 : decode cX16_listed 154 = .ok (.iload_n 3, 1) := by decide +kernel
theorem dX16_listed_155 : decode cX16_listed 155 = .ok (.iaload, 1) := by decide +kernel
theorem dX16_listed_156 : decode cX16_listed 156 = .ok (.if_icmp .le 8, 3) := by decide +kernel
theorem dX16_listed_159 : decode cX16_listed 159 = .ok (.iload 4, 2) := by decide +kernel
theorem dX16_listed_161 : decode cX16_listed 161 = .ok (.goto 4, 3) := by decide +kernel
theorem dX16_listed_164 : decode cX16_listed 164 = .ok (.iload_n 3, 1) := by decide +kernel
theorem dX16_listed_165 : decode cX16_listed 165 = .ok (.istore_n 3, 1) := by decide +kernel
theorem dX16_listed_166 : decode cX16_listed 166 = .ok (.iinc 4 1, 3) := by decide +kernel
theorem dX16_listed_169 : decode cX16_listed 169 = .ok (.goto (-156), 3) := by decide +kernel
theorem dX16_listed_172 : decode cX16_listed 172 = .ok (.iload_n 3, 1) := by decide +kernel
theorem dX16_listed_173 : decode cX16_listed 173 = .ok (.ifCond .le (-169), 3) := by decide +kernel
theorem dX16_listed_176 : decode cX16_listed 176 = .ok (.aload_n 0, 1) := by decide +kernel
theorem dX16_listed_177 : decode cX16_listed 177 = .ok (.getfield 62, 3) := by decide +kernel
theorem dX16_listed_180 : decode cX16_listed 180 = .ok (.iload_n 2, 1) := by decide +kernel
theorem dX16_listed_181 : decode cX16_listed 181 = .ok (.iload_n 3, 1) := by decide +kernel
theorem dX16_listed_182 : decode cX16_listed 182 = .ok (.iastore, 1) := by decide +kernel
theorem dX16_listed_183 : decode cX16_listed 183 = .ok (.iinc 2 1, 3) := by decide +kernel
theorem dX16_listed_186 : decode cX16_listed 186 = .ok (.goto (-182), 3) := by decide +kernel
theorem dX16_listed_189 : decode cX16_listed 189 = .ok (.iload_n 2, 1) := by decide +kernel
theorem dX16_listed_190 : decode cX16_listed 190 = .ok (.ireturn, 1) := by decide +kernel
theorem cwX16_listed : mw_cwV yX16_listed cX16_listed 7 ((some .int)) 1 := ⟨⟨wd_19, wd_3449, by decide +kernel⟩, wd_3448, sl_203⟩
noncomputable def fX16_listed_b165 (fu : Nat) (k : Nat) (a1 : Int32) (r4 : (Int32 × Int32 × mwM × mwL) → Option (Int32 × mwM × mwL)) (r13 : (Int32 × Int32 × Int32 × mwM × mwL) → Option (Int32 × mwM × mwL)) (v2 : Int32) (v4 : Int32) (s0 : Int32) (M : mwM) (L : mwL) : Option (Int32 × mwM × mwL) :=
  mlet (v4 + 1) (fun x32 => r13 (v2, s0, x32, M, L))
noncomputable def fX16_listed_b164 (fu : Nat) (k : Nat) (a1 : Int32) (r4 : (Int32 × Int32 × mwM × mwL) → Option (Int32 × mwM × mwL)) (r13 : (Int32 × Int32 × Int32 × mwM × mwL) → Option (Int32 × mwM × mwL)) (v2 : Int32) (v3 : Int32) (v4 : Int32) (M : mwM) (L : mwL) : Option (Int32 × mwM × mwL) :=
  fX16_listed_b165 fu k a1 r4 r13 v2 v4 v3 M L
noncomputable def fX16_listed_b159 (fu : Nat) (k : Nat) (a1 : Int32) (r4 : (Int32 × Int32 × mwM × mwL) → Option (Int32 × mwM × mwL)) (r13 : (Int32 × Int32 × Int32 × mwM × mwL) → Option (Int32 × mwM × mwL)) (v2 : Int32) (v4 : Int32) (M : mwM) (L : mwL) : Option (Int32 × mwM × mwL) :=
  fX16_listed_b165 fu k a1 r4 r13 v2 v4 v4 M L
noncomputable def fX16_listed_b127 (fu : Nat) (k : Nat) (a1 : Int32) (r4 : (Int32 × Int32 × mwM × mwL) → Option (Int32 × mwM × mwL)) (r13 : (Int32 × Int32 × Int32 × mwM × mwL) → Option (Int32 × mwM × mwL)) (v2 : Int32) (v3 : Int32) (v4 : Int32) (v5 : Int32) (s0 : Int32) (M : mwM) (L : mwL) : Option (Int32 × mwM × mwL) :=
  (if v5 = 0 then fX16_listed_b164 fu k a1 r4 r13 v2 v3 v4 M L else (if s0 = 0 then fX16_listed_b164 fu k a1 r4 r13 v2 v3 v4 M L else (if v3 < 0 then fX16_listed_b159 fu k a1 r4 r13 v2 v4 M L else mck v4 129 (mck v3 129 ((if (M (k + 22) v4.toNatClampNeg) ≤ (M (k + 22) v3.toNatClampNeg) then fX16_listed_b164 fu k a1 r4 r13 v2 v3 v4 M L else fX16_listed_b159 fu k a1 r4 r13 v2 v4 M L))))))
noncomputable def fX16_listed_b122 (fu : Nat) (k : Nat) (a1 : Int32) (r4 : (Int32 × Int32 × mwM × mwL) → Option (Int32 × mwM × mwL)) (r13 : (Int32 × Int32 × Int32 × mwM × mwL) → Option (Int32 × mwM × mwL)) (v2 : Int32) (v3 : Int32) (v4 : Int32) (v5 : Int32) (M : mwM) (L : mwL) : Option (Int32 × mwM × mwL) :=
  fX16_listed_b127 fu k a1 r4 r13 v2 v3 v4 v5 1 M L
noncomputable def fX16_listed_b126 (fu : Nat) (k : Nat) (a1 : Int32) (r4 : (Int32 × Int32 × mwM × mwL) → Option (Int32 × mwM × mwL)) (r13 : (Int32 × Int32 × Int32 × mwM × mwL) → Option (Int32 × mwM × mwL)) (v2 : Int32) (v3 : Int32) (v4 : Int32) (v5 : Int32) (M : mwM) (L : mwL) : Option (Int32 × mwM × mwL) :=
  fX16_listed_b127 fu k a1 r4 r13 v2 v3 v4 v5 0 M L
noncomputable def fX16_listed_b57 (fu : Nat) (k : Nat) (a1 : Int32) (r4 : (Int32 × Int32 × mwM × mwL) → Option (Int32 × mwM × mwL)) (r13 : (Int32 × Int32 × Int32 × mwM × mwL) → Option (Int32 × mwM × mwL)) (v2 : Int32) (v3 : Int32) (v4 : Int32) (s0 : Int32) (M : mwM) (L : mwL) : Option (Int32 × mwM × mwL) :=
  (if v2 = 0 then fX16_listed_b122 fu k a1 r4 r13 v2 v3 v4 s0 M L else mck v4 129 (mck (v2 - 1) 129 (mck (M (k + 18) (v2 - 1).toNatClampNeg) 129 ((if (M (k + 22) v4.toNatClampNeg) < (M (k + 22) (M (k + 18) (v2 - 1).toNatClampNeg).toNatClampNeg) then fX16_listed_b122 fu k a1 r4 r13 v2 v3 v4 s0 M L else mck v4 129 (mck (v2 - 1) 129 (mck (M (k + 18) (v2 - 1).toNatClampNeg) 129 ((if (M (k + 22) v4.toNatClampNeg) = (M (k + 22) (M (k + 18) (v2 - 1).toNatClampNeg).toNatClampNeg) then mck (v2 - 1) 129 ((if v4 ≤ (M (k + 18) (v2 - 1).toNatClampNeg) then fX16_listed_b126 fu k a1 r4 r13 v2 v3 v4 s0 M L else fX16_listed_b122 fu k a1 r4 r13 v2 v3 v4 s0 M L)) else fX16_listed_b126 fu k a1 r4 r13 v2 v3 v4 s0 M L)))))))))
noncomputable def fX16_listed_b56 (fu : Nat) (k : Nat) (a1 : Int32) (r4 : (Int32 × Int32 × mwM × mwL) → Option (Int32 × mwM × mwL)) (r13 : (Int32 × Int32 × Int32 × mwM × mwL) → Option (Int32 × mwM × mwL)) (v2 : Int32) (v3 : Int32) (v4 : Int32) (M : mwM) (L : mwL) : Option (Int32 × mwM × mwL) :=
  fX16_listed_b57 fu k a1 r4 r13 v2 v3 v4 0 M L
noncomputable def fX16_listed_i13 (fu : Nat) (k : Nat) (a1 : Int32) (r4 : (Int32 × Int32 × mwM × mwL) → Option (Int32 × mwM × mwL)) (r13 : (Int32 × Int32 × Int32 × mwM × mwL) → Option (Int32 × mwM × mwL)) (v2 : Int32) (v3 : Int32) (v4 : Int32) (M : mwM) (L : mwL) : Option (Int32 × mwM × mwL) :=
  (if (M k 2) < v4 then (if v3 ≤ 0 then r4 (v2, v3, M, L) else mck v2 129 (mlet (mset M (k + 18) (v2.toNatClampNeg) v3) (fun M5 => mlet (v2 + 1) (fun x6 => r4 (x6, v3, M5, L))))) else mb3 (DX16_isGroup fu k v4 M L) (fun r9 M7 L8 => (if r9 = 0 then fX16_listed_b56 fu k a1 r4 r13 v2 v3 v4 M7 L8 else mck v4 129 ((if (M7 (k + 16) v4.toNatClampNeg) = 0 then mck v4 129 ((if (M7 (k + 2) v4.toNatClampNeg) = a1 then fX16_listed_b57 fu k a1 r4 r13 v2 v3 v4 1 M7 L8 else fX16_listed_b56 fu k a1 r4 r13 v2 v3 v4 M7 L8)) else fX16_listed_b56 fu k a1 r4 r13 v2 v3 v4 M7 L8)))))
noncomputable def fX16_listed_h13 (fu : Nat) (k : Nat) (a1 : Int32) (r4 : (Int32 × Int32 × mwM × mwL) → Option (Int32 × mwM × mwL)) : Nat → (Int32 × Int32 × Int32 × mwM × mwL) → Option (Int32 × mwM × mwL) := mloop (fun r13 s => fX16_listed_i13 fu k a1 r4 r13 s.1 s.2.1 s.2.2.1 s.2.2.2.1 s.2.2.2.2)
noncomputable def fX16_listed_i4 (fu : Nat) (k : Nat) (a1 : Int32) (r4 : (Int32 × Int32 × mwM × mwL) → Option (Int32 × mwM × mwL)) (v2 : Int32) (v3 : Int32) (M : mwM) (L : mwL) : Option (Int32 × mwM × mwL) :=
  (if v3 < 0 then some (v2, M, L) else fX16_listed_h13 fu k a1 r4 fu (v2, ((-1)), 1, M, L))
noncomputable def fX16_listed_h4 (fu : Nat) (k : Nat) (a1 : Int32) : Nat → (Int32 × Int32 × mwM × mwL) → Option (Int32 × mwM × mwL) := mloop (fun r4 s => fX16_listed_i4 fu k a1 r4 s.1 s.2.1 s.2.2.1 s.2.2.2)
noncomputable def DX16_listed (fu : Nat) (k : Nat) (a1 : Int32) (M : mwM) (L : mwL) : Option (Int32 × mwM × mwL) :=
  fX16_listed_h4 fu k a1 fu (0, 0, M, L)
set_option maxHeartbeats 4000000 in
set_option maxRecDepth 100000 in
theorem tX16_listed (l : Launch) (G : mwG) (ad : Nat → Nat) (fu : Nat) (k : Nat) (a1 : Int32) (M : mwM) (L : mwL) {r0 : Int32} {M0 : mwM} {L0 : mwL} (hD : DX16_listed fu k a1 M L = some (r0, M0, L0)) (hk0 : isMp k) : Met l yX16_listed (Cond.code yX16_listed cX16_listed 7 ((some .int)) :: GT) ({ frames := 1, cells := 0, slots := 0, locals := 21 }) (mw_Pre G ad NF TF FF M L [.ref (ad k), .int a1]) (mw_Qi G ad NF TF FF (mw_eqI r0 M0 L0)) 0 0 (mw_fr G) := by
  refine mw_enter (by decide) (Nat.le_of_ble_eq_true rfl) ?_
  intro p e s m below meth c ls C hr hlocks hnm hw hl
  have hl : lv_has ls 7 [(0, .ref (ad k)), (1, .int a1)] := hl
  have hh4 : ∀ (f : Nat) (v2 : Int32) (v3 : Int32) (M : mwM) (L : mwL) (H : Heap) (locs : List Loc) (ls : Array Slot), fX16_listed_h4 fu k a1 f (v2, v3, M, L) = some (r0, M0, L0) → mw_W G ad NF TF FF M L H locs → lv_has ls 7 [(0, .ref (ad k)), (1, .int a1), (2, .int v2), (3, .int v3)] → W p l e ({ frames := 1, cells := 0, slots := 0, locals := 21 }) s m [.ref (ad k), .int a1].toArray below meth c H locs 0 0 (MQ below (mw_Qi G ad NF TF FF (mw_eqI r0 M0 L0)) [.ref (ad k), .int a1].toArray s 0 0 (mw_fr G)) (F0 m 4 ls []) := by
    intro f
    induction f with
    | zero => intro v2 v3 M L H locs ls hD; cases hD
    | succ f4 ih4 =>
      intro v2 v3 M L H locs ls hD hw hl
      replace hD : fX16_listed_i4 fu k a1 (fX16_listed_h4 fu k a1 f4) v2 v3 M L = some (r0, M0, L0) := hD
      have hh13 : ∀ (f : Nat) (v2 : Int32) (v3 : Int32) (v4 : Int32) (M : mwM) (L : mwL) (H : Heap) (locs : List Loc) (ls : Array Slot), fX16_listed_h13 fu k a1 (fX16_listed_h4 fu k a1 f4) f (v2, v3, v4, M, L) = some (r0, M0, L0) → mw_W G ad NF TF FF M L H locs → lv_has ls 7 [(0, .ref (ad k)), (1, .int a1), (2, .int v2), (3, .int v3), (4, .int v4)] → W p l e ({ frames := 1, cells := 0, slots := 0, locals := 21 }) s m [.ref (ad k), .int a1].toArray below meth c H locs 0 0 (MQ below (mw_Qi G ad NF TF FF (mw_eqI r0 M0 L0)) [.ref (ad k), .int a1].toArray s 0 0 (mw_fr G)) (F0 m 13 ls []) := by
        intro f
        induction f with
        | zero => intro v2 v3 v4 M L H locs ls hD; cases hD
        | succ f13 ih13 =>
          intro v2 v3 v4 M L H locs ls hD hw hl
          replace hD : fX16_listed_i13 fu k a1 (fX16_listed_h4 fu k a1 f4) (fX16_listed_h13 fu k a1 (fX16_listed_h4 fu k a1 f4) f13) v2 v3 v4 M L = some (r0, M0, L0) := hD
          have hb165 : ∀ (v2 : Int32) (v4 : Int32) (s0 : Int32) (M : mwM) (L : mwL) (H : Heap) (locs : List Loc) (ls : Array Slot), fX16_listed_b165 fu k a1 (fX16_listed_h4 fu k a1 f4) (fX16_listed_h13 fu k a1 (fX16_listed_h4 fu k a1 f4) f13) v2 v4 s0 M L = some (r0, M0, L0) → mw_W G ad NF TF FF M L H locs → lv_has ls 7 [(0, .ref (ad k)), (1, .int a1), (2, .int v2), (4, .int v4)] → W p l e ({ frames := 1, cells := 0, slots := 0, locals := 21 }) s m [.ref (ad k), .int a1].toArray below meth c H locs 0 0 (MQ below (mw_Qi G ad NF TF FF (mw_eqI r0 M0 L0)) [.ref (ad k), .int a1].toArray s 0 0 (mw_fr G)) (F0 m 165 ls [.int s0]) := by
            intro v2 v4 s0 M L H locs ls hD hw hl
            unfold fX16_listed_b165 at hD
            refine lv_istore_n (lv' := [(3, .int s0), (0, .ref (ad k)), (1, .int a1), (2, .int v2), (4, .int v4)]) C.1.1 C.1.2.1 dX16_listed_165 rfl hl (by decide) rfl (fun ls hl => ?_)
            obtain ⟨x32, ex32, hD⟩ := g_let hD
            refine lv_iinc (v := x32) (lv' := [(4, .int x32), (3, .int s0), (0, .ref (ad k)), (1, .int a1), (2, .int v2)]) C.1.1 C.1.2.1 dX16_listed_166 hl (k := 4) rfl (by rw [ex32]; rfl) (by decide) rfl (fun ls hl => ?_)
            refine lv_goto (tgt := 13) C.1.1 C.1.2.1 dX16_listed_169 (by decide) ?_
            exact ih13 v2 s0 x32 M L _ _ ls hD hw (lv_sub hl [2, 3, 4, 1, 0] rfl)
          have hb164 : ∀ (v2 : Int32) (v3 : Int32) (v4 : Int32) (M : mwM) (L : mwL) (H : Heap) (locs : List Loc) (ls : Array Slot), fX16_listed_b164 fu k a1 (fX16_listed_h4 fu k a1 f4) (fX16_listed_h13 fu k a1 (fX16_listed_h4 fu k a1 f4) f13) v2 v3 v4 M L = some (r0, M0, L0) → mw_W G ad NF TF FF M L H locs → lv_has ls 7 [(0, .ref (ad k)), (1, .int a1), (2, .int v2), (3, .int v3), (4, .int v4)] → W p l e ({ frames := 1, cells := 0, slots := 0, locals := 21 }) s m [.ref (ad k), .int a1].toArray below meth c H locs 0 0 (MQ below (mw_Qi G ad NF TF FF (mw_eqI r0 M0 L0)) [.ref (ad k), .int a1].toArray s 0 0 (mw_fr G)) (F0 m 164 ls []) := by
            intro v2 v3 v4 M L H locs ls hD hw hl
            unfold fX16_listed_b164 at hD
            refine lv_iload_n C.1.1 C.1.2.1 dX16_listed_164 rfl (lv_at hl 3 rfl) ?_
            exact hb165 v2 v4 v3 M L _ _ ls hD hw (lv_sub hl [0, 1, 2, 4] rfl)
          have hb159 : ∀ (v2 : Int32) (v4 : Int32) (M : mwM) (L : mwL) (H : Heap) (locs : List Loc) (ls : Array Slot), fX16_listed_b159 fu k a1 (fX16_listed_h4 fu k a1 f4) (fX16_listed_h13 fu k a1 (fX16_listed_h4 fu k a1 f4) f13) v2 v4 M L = some (r0, M0, L0) → mw_W G ad NF TF FF M L H locs → lv_has ls 7 [(0, .ref (ad k)), (1, .int a1), (2, .int v2), (4, .int v4)] → W p l e ({ frames := 1, cells := 0, slots := 0, locals := 21 }) s m [.ref (ad k), .int a1].toArray below meth c H locs 0 0 (MQ below (mw_Qi G ad NF TF FF (mw_eqI r0 M0 L0)) [.ref (ad k), .int a1].toArray s 0 0 (mw_fr G)) (F0 m 159 ls []) := by
            intro v2 v4 M L H locs ls hD hw hl
            unfold fX16_listed_b159 at hD
            refine lv_iload C.1.1 C.1.2.1 dX16_listed_159 (lv_at hl 3 rfl) ?_
            refine lv_goto (tgt := 165) C.1.1 C.1.2.1 dX16_listed_161 (by decide) ?_
            exact hb165 v2 v4 v4 M L _ _ ls hD hw (lv_sub hl [0, 1, 2, 3] rfl)
          have hb127 : ∀ (v2 : Int32) (v3 : Int32) (v4 : Int32) (v5 : Int32) (s0 : Int32) (M : mwM) (L : mwL) (H : Heap) (locs : List Loc) (ls : Array Slot), fX16_listed_b127 fu k a1 (fX16_listed_h4 fu k a1 f4) (fX16_listed_h13 fu k a1 (fX16_listed_h4 fu k a1 f4) f13) v2 v3 v4 v5 s0 M L = some (r0, M0, L0) → mw_W G ad NF TF FF M L H locs → lv_has ls 7 [(0, .ref (ad k)), (1, .int a1), (2, .int v2), (3, .int v3), (4, .int v4), (5, .int v5)] → W p l e ({ frames := 1, cells := 0, slots := 0, locals := 21 }) s m [.ref (ad k), .int a1].toArray below meth c H locs 0 0 (MQ below (mw_Qi G ad NF TF FF (mw_eqI r0 M0 L0)) [.ref (ad k), .int a1].toArray s 0 0 (mw_fr G)) (F0 m 127 ls [.int s0]) := by
            intro v2 v3 v4 v5 s0 M L H locs ls hD hw hl
            unfold fX16_listed_b127 at hD
            refine lv_istore (lv' := [(6, .int s0), (0, .ref (ad k)), (1, .int a1), (2, .int v2), (3, .int v3), (4, .int v4), (5, .int v5)]) C.1.1 C.1.2.1 dX16_listed_127 hl (by decide) rfl (fun ls hl => ?_)
            refine lv_iload C.1.1 C.1.2.1 dX16_listed_129 (lv_at hl 6 rfl) ?_
            refine lv_if_eq (tgt := 164) C.1.1 C.1.2.1 dX16_listed_131 (by decide) (fun c26 => ?_) (fun c26 => ?_)
            · replace hD := g_pos c26 hD
              exact hb164 v2 v3 v4 M L _ _ ls hD hw (lv_sub hl [1, 2, 3, 4, 5] rfl)
            · replace hD := g_neg c26 hD
              refine lv_iload C.1.1 C.1.2.1 dX16_listed_134 (lv_at hl 0 rfl) ?_
              refine lv_if_eq (tgt := 164) C.1.1 C.1.2.1 dX16_listed_136 (by decide) (fun c27 => ?_) (fun c27 => ?_)
              · replace hD := g_pos c27 hD
                exact hb164 v2 v3 v4 M L _ _ ls hD hw (lv_sub hl [1, 2, 3, 4, 5] rfl)
              · replace hD := g_neg c27 hD
                refine lv_iload_n C.1.1 C.1.2.1 dX16_listed_139 rfl (lv_at hl 4 rfl) ?_
                refine lv_if_lt (tgt := 159) C.1.1 C.1.2.1 dX16_listed_140 (by decide) (fun c28 => ?_) (fun c28 => ?_)
                · replace hD := g_pos c28 hD
                  exact hb159 v2 v4 M L _ _ ls hD hw (lv_sub hl [1, 2, 3, 5] rfl)
                · replace hD := g_neg c28 hD
                  refine lv_aload_n C.1.1 C.1.2.1 dX16_listed_143 rfl (lv_at hl 1 rfl) ?_
                  refine mr_getR C hw kc_16 26 (Mp_N0 hk0) (Mp_T0 hk0) (Mp_F0_26 hk0) wd_2581 dX16_listed_144 (by decide) rfl ?_
                  refine lv_iload C.1.1 C.1.2.1 dX16_listed_147 (lv_at hl 5 rfl) ?_
                  obtain ⟨q29, hD⟩ := g_ck hD
                  refine mr_iald C hw (Mp_N22 hk0) (Mp_T22 hk0) q29 dX16_listed_149 ?_
                  refine lv_aload_n C.1.1 C.1.2.1 dX16_listed_150 rfl (lv_at hl 1 rfl) ?_
                  refine mr_getR C hw kc_16 26 (Mp_N0 hk0) (Mp_T0 hk0) (Mp_F0_26 hk0) wd_2581 dX16_listed_151 (by decide) rfl ?_
                  refine lv_iload_n C.1.1 C.1.2.1 dX16_listed_154 rfl (lv_at hl 4 rfl) ?_
                  obtain ⟨q30, hD⟩ := g_ck hD
                  refine mr_iald C hw (Mp_N22 hk0) (Mp_T22 hk0) q30 dX16_listed_155 ?_
                  refine lv_icmp_le (tgt := 164) C.1.1 C.1.2.1 dX16_listed_156 (by decide) (fun c31 => ?_) (fun c31 => ?_)
                  · replace hD := g_pos c31 hD
                    exact hb164 v2 v3 v4 M L _ _ ls hD hw (lv_sub hl [1, 2, 3, 4, 5] rfl)
                  · replace hD := g_neg c31 hD
                    exact hb159 v2 v4 M L _ _ ls hD hw (lv_sub hl [1, 2, 3, 5] rfl)
          have hb122 : ∀ (v2 : Int32) (v3 : Int32) (v4 : Int32) (v5 : Int32) (M : mwM) (L : mwL) (H : Heap) (locs : List Loc) (ls : Array Slot), fX16_listed_b122 fu k a1 (fX16_listed_h4 fu k a1 f4) (fX16_listed_h13 fu k a1 (fX16_listed_h4 fu k a1 f4) f13) v2 v3 v4 v5 M L = some (r0, M0, L0) → mw_W G ad NF TF FF M L H locs → lv_has ls 7 [(0, .ref (ad k)), (1, .int a1), (2, .int v2), (3, .int v3), (4, .int v4), (5, .int v5)] → W p l e ({ frames := 1, cells := 0, slots := 0, locals := 21 }) s m [.ref (ad k), .int a1].toArray below meth c H locs 0 0 (MQ below (mw_Qi G ad NF TF FF (mw_eqI r0 M0 L0)) [.ref (ad k), .int a1].toArray s 0 0 (mw_fr G)) (F0 m 122 ls []) := by
            intro v2 v3 v4 v5 M L H locs ls hD hw hl
            unfold fX16_listed_b122 at hD
            refine lv_iconst (v := 1) C.1.1 C.1.2.1 dX16_listed_122 (by decide) ?_
            refine lv_goto (tgt := 127) C.1.1 C.1.2.1 dX16_listed_123 (by decide) ?_
            exact hb127 v2 v3 v4 v5 1 M L _ _ ls hD hw (lv_sub hl [0, 1, 2, 3, 4, 5] rfl)
          have hb126 : ∀ (v2 : Int32) (v3 : Int32) (v4 : Int32) (v5 : Int32) (M : mwM) (L : mwL) (H : Heap) (locs : List Loc) (ls : Array Slot), fX16_listed_b126 fu k a1 (fX16_listed_h4 fu k a1 f4) (fX16_listed_h13 fu k a1 (fX16_listed_h4 fu k a1 f4) f13) v2 v3 v4 v5 M L = some (r0, M0, L0) → mw_W G ad NF TF FF M L H locs → lv_has ls 7 [(0, .ref (ad k)), (1, .int a1), (2, .int v2), (3, .int v3), (4, .int v4), (5, .int v5)] → W p l e ({ frames := 1, cells := 0, slots := 0, locals := 21 }) s m [.ref (ad k), .int a1].toArray below meth c H locs 0 0 (MQ below (mw_Qi G ad NF TF FF (mw_eqI r0 M0 L0)) [.ref (ad k), .int a1].toArray s 0 0 (mw_fr G)) (F0 m 126 ls []) := by
            intro v2 v3 v4 v5 M L H locs ls hD hw hl
            unfold fX16_listed_b126 at hD
            refine lv_iconst (v := 0) C.1.1 C.1.2.1 dX16_listed_126 (by decide) ?_
            exact hb127 v2 v3 v4 v5 0 M L _ _ ls hD hw (lv_sub hl [0, 1, 2, 3, 4, 5] rfl)
          have hb57 : ∀ (v2 : Int32) (v3 : Int32) (v4 : Int32) (s0 : Int32) (M : mwM) (L : mwL) (H : Heap) (locs : List Loc) (ls : Array Slot), fX16_listed_b57 fu k a1 (fX16_listed_h4 fu k a1 f4) (fX16_listed_h13 fu k a1 (fX16_listed_h4 fu k a1 f4) f13) v2 v3 v4 s0 M L = some (r0, M0, L0) → mw_W G ad NF TF FF M L H locs → lv_has ls 7 [(0, .ref (ad k)), (1, .int a1), (2, .int v2), (3, .int v3), (4, .int v4)] → W p l e ({ frames := 1, cells := 0, slots := 0, locals := 21 }) s m [.ref (ad k), .int a1].toArray below meth c H locs 0 0 (MQ below (mw_Qi G ad NF TF FF (mw_eqI r0 M0 L0)) [.ref (ad k), .int a1].toArray s 0 0 (mw_fr G)) (F0 m 57 ls [.int s0]) := by
            intro v2 v3 v4 s0 M L H locs ls hD hw hl
            unfold fX16_listed_b57 at hD
            refine lv_istore (lv' := [(5, .int s0), (0, .ref (ad k)), (1, .int a1), (2, .int v2), (3, .int v3), (4, .int v4)]) C.1.1 C.1.2.1 dX16_listed_57 hl (by decide) rfl (fun ls hl => ?_)
            refine lv_iload_n C.1.1 C.1.2.1 dX16_listed_59 rfl (lv_at hl 3 rfl) ?_
            refine lv_if_eq (tgt := 122) C.1.1 C.1.2.1 dX16_listed_60 (by decide) (fun c15 => ?_) (fun c15 => ?_)
            · replace hD := g_pos c15 hD
              exact hb122 v2 v3 v4 s0 M L _ _ ls hD hw (lv_sub hl [1, 2, 3, 4, 5, 0] rfl)
            · replace hD := g_neg c15 hD
              refine lv_aload_n C.1.1 C.1.2.1 dX16_listed_63 rfl (lv_at hl 1 rfl) ?_
              refine mr_getR C hw kc_16 26 (Mp_N0 hk0) (Mp_T0 hk0) (Mp_F0_26 hk0) wd_2581 dX16_listed_64 (by decide) rfl ?_
              refine lv_iload C.1.1 C.1.2.1 dX16_listed_67 (lv_at hl 5 rfl) ?_
              obtain ⟨q16, hD⟩ := g_ck hD
              refine mr_iald C hw (Mp_N22 hk0) (Mp_T22 hk0) q16 dX16_listed_69 ?_
              refine lv_aload_n C.1.1 C.1.2.1 dX16_listed_70 rfl (lv_at hl 1 rfl) ?_
              refine mr_getR C hw kc_16 26 (Mp_N0 hk0) (Mp_T0 hk0) (Mp_F0_26 hk0) wd_2581 dX16_listed_71 (by decide) rfl ?_
              refine lv_aload_n C.1.1 C.1.2.1 dX16_listed_74 rfl (lv_at hl 1 rfl) ?_
              refine mr_getR C hw kc_16 22 (Mp_N0 hk0) (Mp_T0 hk0) (Mp_F0_22 hk0) wd_2577 dX16_listed_75 (by decide) rfl ?_
              refine lv_iload_n C.1.1 C.1.2.1 dX16_listed_78 rfl (lv_at hl 3 rfl) ?_
              refine lv_iconst (v := 1) C.1.1 C.1.2.1 dX16_listed_79 (by decide) ?_
              refine lv_isub C.1.1 C.1.2.1 dX16_listed_80 ?_
              obtain ⟨q17, hD⟩ := g_ck hD
              refine mr_iald C hw (Mp_N18 hk0) (Mp_T18 hk0) q17 dX16_listed_81 ?_
              obtain ⟨q18, hD⟩ := g_ck hD
              refine mr_iald C hw (Mp_N22 hk0) (Mp_T22 hk0) q18 dX16_listed_82 ?_
              refine lv_icmp_lt (tgt := 122) C.1.1 C.1.2.1 dX16_listed_83 (by decide) (fun c19 => ?_) (fun c19 => ?_)
              · replace hD := g_pos c19 hD
                exact hb122 v2 v3 v4 s0 M L _ _ ls hD hw (lv_sub hl [1, 2, 3, 4, 5, 0] rfl)
              · replace hD := g_neg c19 hD
                refine lv_aload_n C.1.1 C.1.2.1 dX16_listed_86 rfl (lv_at hl 1 rfl) ?_
                refine mr_getR C hw kc_16 26 (Mp_N0 hk0) (Mp_T0 hk0) (Mp_F0_26 hk0) wd_2581 dX16_listed_87 (by decide) rfl ?_
                refine lv_iload C.1.1 C.1.2.1 dX16_listed_90 (lv_at hl 5 rfl) ?_
                obtain ⟨q20, hD⟩ := g_ck hD
                refine mr_iald C hw (Mp_N22 hk0) (Mp_T22 hk0) q20 dX16_listed_92 ?_
                refine lv_aload_n C.1.1 C.1.2.1 dX16_listed_93 rfl (lv_at hl 1 rfl) ?_
                refine mr_getR C hw kc_16 26 (Mp_N0 hk0) (Mp_T0 hk0) (Mp_F0_26 hk0) wd_2581 dX16_listed_94 (by decide) rfl ?_
                refine lv_aload_n C.1.1 C.1.2.1 dX16_listed_97 rfl (lv_at hl 1 rfl) ?_
                refine mr_getR C hw kc_16 22 (Mp_N0 hk0) (Mp_T0 hk0) (Mp_F0_22 hk0) wd_2577 dX16_listed_98 (by decide) rfl ?_
                refine lv_iload_n C.1.1 C.1.2.1 dX16_listed_101 rfl (lv_at hl 3 rfl) ?_
                refine lv_iconst (v := 1) C.1.1 C.1.2.1 dX16_listed_102 (by decide) ?_
                refine lv_isub C.1.1 C.1.2.1 dX16_listed_103 ?_
                obtain ⟨q21, hD⟩ := g_ck hD
                refine mr_iald C hw (Mp_N18 hk0) (Mp_T18 hk0) q21 dX16_listed_104 ?_
                obtain ⟨q22, hD⟩ := g_ck hD
                refine mr_iald C hw (Mp_N22 hk0) (Mp_T22 hk0) q22 dX16_listed_105 ?_
                refine lv_icmp_ne (tgt := 126) C.1.1 C.1.2.1 dX16_listed_106 (by decide) (fun c23 => ?_) (fun c23 => ?_)
                · replace hD := g_neg c23 hD
                  exact hb126 v2 v3 v4 s0 M L _ _ ls hD hw (lv_sub hl [1, 2, 3, 4, 5, 0] rfl)
                · replace hD := g_pos c23 hD
                  refine lv_iload C.1.1 C.1.2.1 dX16_listed_109 (lv_at hl 5 rfl) ?_
                  refine lv_aload_n C.1.1 C.1.2.1 dX16_listed_111 rfl (lv_at hl 1 rfl) ?_
                  refine mr_getR C hw kc_16 22 (Mp_N0 hk0) (Mp_T0 hk0) (Mp_F0_22 hk0) wd_2577 dX16_listed_112 (by decide) rfl ?_
                  refine lv_iload_n C.1.1 C.1.2.1 dX16_listed_115 rfl (lv_at hl 3 rfl) ?_
                  refine lv_iconst (v := 1) C.1.1 C.1.2.1 dX16_listed_116 (by decide) ?_
                  refine lv_isub C.1.1 C.1.2.1 dX16_listed_117 ?_
                  obtain ⟨q24, hD⟩ := g_ck hD
                  refine mr_iald C hw (Mp_N18 hk0) (Mp_T18 hk0) q24 dX16_listed_118 ?_
                  refine lv_icmp_le (tgt := 126) C.1.1 C.1.2.1 dX16_listed_119 (by decide) (fun c25 => ?_) (fun c25 => ?_)
                  · replace hD := g_pos c25 hD
                    exact hb126 v2 v3 v4 s0 M L _ _ ls hD hw (lv_sub hl [1, 2, 3, 4, 5, 0] rfl)
                  · replace hD := g_neg c25 hD
                    exact hb122 v2 v3 v4 s0 M L _ _ ls hD hw (lv_sub hl [1, 2, 3, 4, 5, 0] rfl)
          have hb56 : ∀ (v2 : Int32) (v3 : Int32) (v4 : Int32) (M : mwM) (L : mwL) (H : Heap) (locs : List Loc) (ls : Array Slot), fX16_listed_b56 fu k a1 (fX16_listed_h4 fu k a1 f4) (fX16_listed_h13 fu k a1 (fX16_listed_h4 fu k a1 f4) f13) v2 v3 v4 M L = some (r0, M0, L0) → mw_W G ad NF TF FF M L H locs → lv_has ls 7 [(0, .ref (ad k)), (1, .int a1), (2, .int v2), (3, .int v3), (4, .int v4)] → W p l e ({ frames := 1, cells := 0, slots := 0, locals := 21 }) s m [.ref (ad k), .int a1].toArray below meth c H locs 0 0 (MQ below (mw_Qi G ad NF TF FF (mw_eqI r0 M0 L0)) [.ref (ad k), .int a1].toArray s 0 0 (mw_fr G)) (F0 m 56 ls []) := by
            intro v2 v3 v4 M L H locs ls hD hw hl
            unfold fX16_listed_b56 at hD
            refine lv_iconst (v := 0) C.1.1 C.1.2.1 dX16_listed_56 (by decide) ?_
            exact hb57 v2 v3 v4 0 M L _ _ ls hD hw (lv_sub hl [0, 1, 2, 3, 4] rfl)
          unfold fX16_listed_i13 at hD
          refine lv_iload C.1.1 C.1.2.1 dX16_listed_13 (lv_at hl 4 rfl) ?_
          refine lv_aload_n C.1.1 C.1.2.1 dX16_listed_15 rfl (lv_at hl 0 rfl) ?_
          refine mr_getI C hw kc_16 2 (Mp_N0 hk0) (Mp_T0 hk0) wd_2557 dX16_listed_16 (by decide) rfl ?_
          refine lv_icmp_gt (tgt := 172) C.1.1 C.1.2.1 dX16_listed_19 (by decide) (fun c2 => ?_) (fun c2 => ?_)
          · replace hD := g_pos c2 hD
            refine lv_iload_n C.1.1 C.1.2.1 dX16_listed_172 rfl (lv_at hl 3 rfl) ?_
            refine lv_if_le (tgt := 4) C.1.1 C.1.2.1 dX16_listed_173 (by decide) (fun c3 => ?_) (fun c3 => ?_)
            · replace hD := g_pos c3 hD
              exact ih4 v2 v3 M L _ _ ls hD hw (lv_sub hl [0, 1, 2, 3] rfl)
            · replace hD := g_neg c3 hD
              refine lv_aload_n C.1.1 C.1.2.1 dX16_listed_176 rfl (lv_at hl 0 rfl) ?_
              refine mr_getR C hw kc_16 22 (Mp_N0 hk0) (Mp_T0 hk0) (Mp_F0_22 hk0) wd_2577 dX16_listed_177 (by decide) rfl ?_
              refine lv_iload_n C.1.1 C.1.2.1 dX16_listed_180 rfl (lv_at hl 2 rfl) ?_
              refine lv_iload_n C.1.1 C.1.2.1 dX16_listed_181 rfl (lv_at hl 3 rfl) ?_
              obtain ⟨q4, hD⟩ := g_ck hD
              obtain ⟨M5, eM5, hD⟩ := g_let hD
              refine mr_iast C hw (Mp_N18 hk0) (Mp_T18 hk0) q4 dX16_listed_182 (fun H locs hw => ?_)
              replace hw : mw_W G ad NF TF FF M5 L H locs := by rw [eM5]; exact hw
              obtain ⟨x6, ex6, hD⟩ := g_let hD
              refine lv_iinc (v := x6) (lv' := [(2, .int x6), (0, .ref (ad k)), (1, .int a1), (3, .int v3), (4, .int v4)]) C.1.1 C.1.2.1 dX16_listed_183 hl (k := 2) rfl (by rw [ex6]; rfl) (by decide) rfl (fun ls hl => ?_)
              refine lv_goto (tgt := 4) C.1.1 C.1.2.1 dX16_listed_186 (by decide) ?_
              exact ih4 x6 v3 M5 L _ _ ls hD hw (lv_sub hl [1, 2, 0, 3] rfl)
          · replace hD := g_neg c2 hD
            refine lv_aload_n C.1.1 C.1.2.1 dX16_listed_22 rfl (lv_at hl 0 rfl) ?_
            refine lv_iload C.1.1 C.1.2.1 dX16_listed_23 (lv_at hl 4 rfl) ?_
            obtain ⟨r9, M7, L8, h1, hD⟩ := g_b3 hD
            refine md_cvI (As := [.int v4]) (rest := []) C hw (tX16_isGroup l G ad fu k v4 M L h1 hk0) kc_16 (Mp_N0 hk0) (Mp_T0 hk0) wd_3417 cwX16_isGroup ⟨Nat.le_of_ble_eq_true rfl, Nat.le_of_ble_eq_true rfl⟩ rfl hl.1 (Nat.le_of_ble_eq_true rfl) dX16_listed_25 rfl rfl ⟨Nat.zero_le _, Nat.zero_le _⟩ rfl (fun H locs hw => ?_)
            refine lv_if_eq (tgt := 56) C.1.1 C.1.2.1 dX16_listed_28 (by decide) (fun c10 => ?_) (fun c10 => ?_)
            · replace hD := g_pos c10 hD
              exact hb56 v2 v3 v4 M7 L8 _ _ ls hD hw (lv_sub hl [0, 1, 2, 3, 4] rfl)
            · replace hD := g_neg c10 hD
              refine lv_aload_n C.1.1 C.1.2.1 dX16_listed_31 rfl (lv_at hl 0 rfl) ?_
              refine mr_getR C hw kc_16 20 (Mp_N0 hk0) (Mp_T0 hk0) (Mp_F0_20 hk0) wd_2575 dX16_listed_32 (by decide) rfl ?_
              refine lv_iload C.1.1 C.1.2.1 dX16_listed_35 (lv_at hl 4 rfl) ?_
              obtain ⟨q11, hD⟩ := g_ck hD
              refine mr_iald C hw (Mp_N16 hk0) (Mp_T16 hk0) q11 dX16_listed_37 ?_
              refine lv_if_ne (tgt := 56) C.1.1 C.1.2.1 dX16_listed_38 (by decide) (fun c12 => ?_) (fun c12 => ?_)
              · replace hD := g_neg c12 hD
                exact hb56 v2 v3 v4 M7 L8 _ _ ls hD hw (lv_sub hl [0, 1, 2, 3, 4] rfl)
              · replace hD := g_pos c12 hD
                refine lv_aload_n C.1.1 C.1.2.1 dX16_listed_41 rfl (lv_at hl 0 rfl) ?_
                refine mr_getR C hw kc_16 4 (Mp_N0 hk0) (Mp_T0 hk0) (Mp_F0_4 hk0) wd_2559 dX16_listed_42 (by decide) rfl ?_
                refine lv_iload C.1.1 C.1.2.1 dX16_listed_45 (lv_at hl 4 rfl) ?_
                obtain ⟨q13, hD⟩ := g_ck hD
                refine mr_iald C hw (Mp_N2 hk0) (Mp_T2 hk0) q13 dX16_listed_47 ?_
                refine lv_iload_n C.1.1 C.1.2.1 dX16_listed_48 rfl (lv_at hl 1 rfl) ?_
                refine lv_icmp_ne (tgt := 56) C.1.1 C.1.2.1 dX16_listed_49 (by decide) (fun c14 => ?_) (fun c14 => ?_)
                · replace hD := g_neg c14 hD
                  exact hb56 v2 v3 v4 M7 L8 _ _ ls hD hw (lv_sub hl [0, 1, 2, 3, 4] rfl)
                · replace hD := g_pos c14 hD
                  refine lv_iconst (v := 1) C.1.1 C.1.2.1 dX16_listed_52 (by decide) ?_
                  refine lv_goto (tgt := 57) C.1.1 C.1.2.1 dX16_listed_53 (by decide) ?_
                  exact hb57 v2 v3 v4 1 M7 L8 _ _ ls hD hw (lv_sub hl [0, 1, 2, 3, 4] rfl)
      unfold fX16_listed_i4 at hD
      refine lv_iload_n C.1.1 C.1.2.1 dX16_listed_4 rfl (lv_at hl 3 rfl) ?_
      refine lv_if_lt (tgt := 189) C.1.1 C.1.2.1 dX16_listed_5 (by decide) (fun c1 => ?_) (fun c1 => ?_)
      · replace hD := g_pos c1 hD
        refine lv_iload_n C.1.1 C.1.2.1 dX16_listed_189 rfl (lv_at hl 2 rfl) ?_
        exact mr_iret C hr hlocks hw rfl (Option.some.inj hD) dX16_listed_190
      · replace hD := g_neg c1 hD
        refine lv_iconst (v := (-1)) C.1.1 C.1.2.1 dX16_listed_8 (by decide) ?_
        refine lv_istore_n (lv' := [(3, .int ((-1))), (0, .ref (ad k)), (1, .int a1), (2, .int v2)]) C.1.1 C.1.2.1 dX16_listed_9 rfl hl (by decide) rfl (fun ls hl => ?_)
        refine lv_iconst (v := 1) C.1.1 C.1.2.1 dX16_listed_10 (by decide) ?_
        refine lv_istore (lv' := [(4, .int 1), (3, .int ((-1))), (0, .ref (ad k)), (1, .int a1), (2, .int v2)]) C.1.1 C.1.2.1 dX16_listed_11 hl (by decide) rfl (fun ls hl => ?_)
        exact hh13 fu v2 ((-1)) 1 M L _ _ ls hD hw (lv_sub hl [2, 3, 4, 1, 0] rfl)
  unfold DX16_listed at hD
  refine lv_iconst (v := 0) C.1.1 C.1.2.1 dX16_listed_0 (by decide) ?_
  refine lv_istore_n (lv' := [(2, .int 0), (0, .ref (ad k)), (1, .int a1)]) C.1.1 C.1.2.1 dX16_listed_1 rfl hl (by decide) rfl (fun ls hl => ?_)
  refine lv_iconst (v := 0) C.1.1 C.1.2.1 dX16_listed_2 (by decide) ?_
  refine lv_istore_n (lv' := [(3, .int 0), (2, .int 0), (0, .ref (ad k)), (1, .int a1)]) C.1.1 C.1.2.1 dX16_listed_3 rfl hl (by decide) rfl (fun ls hl => ?_)
  exact hh4 fu 0 0 M L _ _ ls hD hw (lv_sub hl [2, 3, 1, 0] rfl)

theorem dX16_packPeriod_0 : decode cX16_packPeriod 0 = .ok (.aload_n 0, 1) := by decide +kernel
theorem dX16_packPeriod_1 : decode cX16_packPeriod 1 = .ok (.iload_n 1, 1) := by decide +kernel
theorem dX16_packPeriod_2 : decode cX16_packPeriod 2 = .ok (.invokevirtual 128, 3) := by decide +kernel
theorem dX16_packPeriod_5 : decode cX16_packPeriod 5 = .ok (.istore 4, 2) := by decide +kernel
theorem dX16_packPeriod_7 : decode cX16_packPeriod 7 = .ok (.iconst 0, 1) := by decide +kernel
theorem dX16_packPeriod_8 : decode cX16_packPeriod 8 = .ok (.istore 5, 2) := by decide +kernel
theorem dX16_packPeriod_10 : decode cX16_packPeriod 10 = .ok (.iconst 1, 1) := by decide +kernel
theorem dX16_packPeriod_11 : decode cX16_packPeriod 11 = .ok (.istore 6, 2) := by decide +kernel
theorem dX16_packPeriod_13 : decode cX16_packPeriod 13 = .ok (.iload 6, 2) := by decide +kernel
theorem dX16_packPeriod_15 : decode cX16_packPeriod 15 = .ok (.bipush 65, 2) := by decide +kernel
theorem dX16_packPeriod_17 : decode cX16_packPeriod 17 = .ok (.if_icmp .ge 40, 3) := by decide +kernel
theorem dX16_packPeriod_20 : decode cX16_packPeriod 20 = .ok (.aload_n 0, 1) := by decide +kernel
theorem dX16_packPeriod_21 : decode cX16_packPeriod 21 = .ok (.iload 6, 2) := by decide +kernel
theorem dX16_packPeriod_23 : decode cX16_packPeriod 23 = .ok (.invokevirtual 117, 3) := by decide +kernel
theorem dX16_packPeriod_26 : decode cX16_packPeriod 26 = .ok (.ifCond .eq 25, 3) := by decide +kernel
theorem dX16_packPeriod_29 : decode cX16_packPeriod 29 = .ok (.aload_n 0, 1) := by decide +kernel
theorem dX16_packPeriod_30 : decode cX16_packPeriod 30 = .ok (.iload 6, 2) := by decide +kernel
theorem dX16_packPeriod_32 : decode cX16_packPeriod 32 = .ok (.iload_n 1, 1) := by decide +kernel
theorem dX16_packPeriod_33 : decode cX16_packPeriod 33 = .ok (.invokevirtual 131, 3) := by decide +kernel
theorem dX16_packPeriod_36 : decode cX16_packPeriod 36 = .ok (.ifCond .ne 15, 3) := by decide +kernel
theorem dX16_packPeriod_39 : decode cX16_packPeriod 39 = .ok (.aload_n 0, 1) := by decide +kernel
theorem dX16_packPeriod_40 : decode cX16_packPeriod 40 = .ok (.getfield 65, 3) := by decide +kernel
theorem dX16_packPeriod_43 : decode cX16_packPeriod 43 = .ok (.iload 5, 2) := by decide +kernel
theorem dX16_packPeriod_45 : decode cX16_packPeriod 45 = .ok (.iload 6, 2) := by decide +kernel
theorem dX16_packPeriod_47 : decode cX16_packPeriod 47 = .ok (.iastore, 1) := by decide +kernel
theorem dX16_packPeriod_48 : decode cX16_packPeriod 48 = .ok (.iinc 5 1, 3) := by decide +kernel
theorem dX16_packPeriod_51 : decode cX16_packPeriod 51 = .ok (.iinc 6 1, 3) := by decide +kernel
theorem dX16_packPeriod_54 : decode cX16_packPeriod 54 = .ok (.goto (-41), 3) := by decide +kernel
theorem dX16_packPeriod_57 : decode cX16_packPeriod 57 = .ok (.lconst 1, 1) := by decide +kernel
theorem dX16_packPeriod_58 : decode cX16_packPeriod 58 = .ok (.lstore 6, 2) := by decide +kernel
theorem dX16_packPeriod_60 : decode cX16_packPeriod 60 = .ok (.iconst 2, 1) := by decide +kernel
theorem dX16_packPeriod_61 : decode cX16_packPeriod 61 = .ok (.istore 8, 2) := by decide +kernel
theorem dX16_packPeriod_63 : decode cX16_packPeriod 63 = .ok (.iload 8, 2) := by decide +kernel
theorem dX16_packPeriod_65 : decode cX16_packPeriod 65 = .ok (.iload 4, 2) := by decide +kernel
theorem dX16_packPeriod_67 : decode cX16_packPeriod 67 = .ok (.if_icmp .gt 24, 3) := by decide +kernel
theorem dX16_packPeriod_70 : decode cX16_packPeriod 70 = .ok (.iload 4, 2) := by decide +kernel
theorem dX16_packPeriod_72 : decode cX16_packPeriod 72 = .ok (.bipush 8, 2) := by decide +kernel
theorem dX16_packPeriod_74 : decode cX16_packPeriod 74 = .ok (.if_icmp .ge 17, 3) := by decide +kernel
theorem dX16_packPeriod_77 : decode cX16_packPeriod 77 = .ok (.lload 6, 2) := by decide +kernel
theorem dX16_packPeriod_79 : decode cX16_packPeriod 79 = .ok (.iload 8, 2) := by decide +kernel
theorem dX16_packPeriod_81 : decode cX16_packPeriod 81 = .ok (.i2l, 1) := by decide +kernel
theorem dX16_packPeriod_82 : decode cX16_packPeriod 82 = .ok (.lmul, 1) := by decide +kernel
theorem dX16_packPeriod_83 : decode cX16_packPeriod 83 = .ok (.lstore 6, 2) := by decide +kernel
theorem dX16_packPeriod_85 : decode cX16_packPeriod 85 = .ok (.iinc 8 1, 3) := by decide +kernel
theorem dX16_packPeriod_88 : decode cX16_packPeriod 88 = .ok (.goto (-25), 3) := by decide +kernel
theorem dX16_packPeriod_91 : decode cX16_packPeriod 91 = .ok (.iload 4, 2) := by decide +kernel
theorem dX16_packPeriod_93 : decode cX16_packPeriod 93 = .ok (.bipush 7, 2) := by decide +kernel
theorem dX16_packPeriod_95 : decode cX16_packPeriod 95 = .ok (.if_icmp .gt 10, 3) := by decide +kernel
theorem dX16_packPeriod_98 : decode cX16_packPeriod 98 = .ok (.lload 6, 2) := by decide +kernel
theorem dX16_packPeriod_100 : decode cX16_packPeriod 100 = .ok (.lload_n 2, 1) := by decide +kernel
theorem dX16_packPeriod_101 : decode cX16_packPeriod 101 = .ok (.lcmp, 1) := by decide +kernel
theorem dX16_packPeriod_102 : decode cX16_packPeriod 102 = .ok (.ifCond .le 17, 3) := by decide +kernel
theorem dX16_packPeriod_105 : decode cX16_packPeriod 105 = .ok (.aload_n 0, 1) := by decide +kernel
theorem dX16_packPeriod_106 : decode cX16_packPeriod 106 = .ok (.iconst 0, 1) := by decide +kernel
theorem dX16_packPeriod_107 : decode cX16_packPeriod 107 = .ok (.putfield 87, 3) := by decide +kernel
theorem dX16_packPeriod_110 : decode cX16_packPeriod 110 = .ok (.aload_n 0, 1) := by decide +kernel
theorem dX16_packPeriod_111 : decode cX16_packPeriod 111 = .ok (.iload 4, 2) := by decide +kernel
theorem dX16_packPeriod_113 : decode cX16_packPeriod 113 = .ok (.iload 5, 2) := by decide +kernel
theorem dX16_packPeriod_115 : decode cX16_packPeriod 115 = .ok (.invokevirtual 135, 3) := by decide +kernel
theorem dX16_packPeriod_118 : decode cX16_packPeriod 118 = .ok (.ireturn, 1) := by decide +kernel
theorem dX16_packPeriod_119 : decode cX16_packPeriod 119 = .ok (.iconst 0, 1) := by decide +kernel
theorem dX16_packPeriod_120 : decode cX16_packPeriod 120 = .ok (.istore 8, 2) := by decide +kernel
theorem dX16_packPeriod_122 : decode cX16_packPeriod 122 = .ok (.iload 8, 2) := by decide +kernel
theorem dX16_packPeriod_124 : decode cX16_packPeriod 124 = .ok (.iload 4, 2) := by decide +kernel
theorem dX16_packPeriod_126 : decode cX16_packPeriod 126 = .ok (.if_icmp .gt 24, 3) := by decide +kernel
theorem dX16_packPeriod_129 : decode cX16_packPeriod 129 = .ok (.aload_n 0, 1) := by decide +kernel
theorem dX16_packPeriod_130 : decode cX16_packPeriod 130 = .ok (.iload 4, 2) := by decide +kernel
theorem dX16_packPeriod_132 : decode cX16_packPeriod 132 = .ok (.iload 5, 2) := by decide +kernel
theorem dX16_packPeriod_134 : decode cX16_packPeriod 134 = .ok (.iload 8, 2) := by decide +kernel
theorem dX16_packPeriod_136 : decode cX16_packPeriod 136 = .ok (.invokevirtual 138, 3) := by decide +kernel
theorem dX16_packPeriod_139 : decode cX16_packPeriod 139 = .ok (.ifCond .eq 5, 3) := by decide +kernel
theorem dX16_packPeriod_142 : decode cX16_packPeriod 142 = .ok (.iconst 1, 1) := by decide +kernel
theorem dX16_packPeriod_143 : decode cX16_packPeriod 143 = .ok (.ireturn, 1) := by decide +kernel
theorem dX16_packPeriod_144 : decode cX16_packPeriod 144 = .ok (.iinc 8 1, 3) := by decide +kernel
theorem dX16_packPeriod_147 : decode cX16_packPeriod 147 = .ok (.goto (-25), 3) := by decide +kernel
theorem dX16_packPeriod_150 : decode cX16_packPeriod 150 = .ok (.iconst 0, 1) := by decide +kernel
theorem dX16_packPeriod_151 : decode cX16_packPeriod 151 = .ok (.ireturn, 1) := by decide +kernel
theorem cwX16_packPeriod : mw_cwV yX16_packPeriod cX16_packPeriod 9 ((some .boolean)) 2 := ⟨⟨wd_19, wd_3445, by decide +kernel⟩, wd_3444, sl_202⟩
noncomputable def fX16_packPeriod_b105 (fu : Nat) (k : Nat) (a1 : Int32) (a2 : Int64) (v4 : Int32) (v5 : Int32) (M : mwM) (L : mwL) : Option (Int32 × mwM × mwL) :=
  mlet (mset M k 14 0) (fun M20 => mb3 (DX16_inTurn fu k v4 v5 M20 L) (fun r23 M21 L22 => mzz r23 (some (r23, M21, L22))))
noncomputable def fX16_packPeriod_i122 (fu : Nat) (k : Nat) (a1 : Int32) (a2 : Int64) (r122 : (Int32 × Int32 × Int32 × mwM × mwL) → Option (Int32 × mwM × mwL)) (v4 : Int32) (v5 : Int32) (v8 : Int32) (M : mwM) (L : mwL) : Option (Int32 × mwM × mwL) :=
  (if v4 < v8 then some (0, M, L) else mb3 (DX16_search fu k v4 v5 v8 M L) (fun r28 M26 L27 => (if r28 = 0 then mlet (v8 + 1) (fun x30 => r122 (v4, v5, x30, M26, L27)) else some (1, M26, L27))))
noncomputable def fX16_packPeriod_h122 (fu : Nat) (k : Nat) (a1 : Int32) (a2 : Int64) : Nat → (Int32 × Int32 × Int32 × mwM × mwL) → Option (Int32 × mwM × mwL) := mloop (fun r122 s => fX16_packPeriod_i122 fu k a1 a2 r122 s.1 s.2.1 s.2.2.1 s.2.2.2.1 s.2.2.2.2)
noncomputable def fX16_packPeriod_b91 (fu : Nat) (k : Nat) (a1 : Int32) (a2 : Int64) (v4 : Int32) (v5 : Int32) (v6 : Int64) (M : mwM) (L : mwL) : Option (Int32 × mwM × mwL) :=
  (if 7 < v4 then fX16_packPeriod_b105 fu k a1 a2 v4 v5 M L else (if (lg_cmp v6 a2) ≤ 0 then fX16_packPeriod_h122 fu k a1 a2 fu (v4, v5, 0, M, L) else fX16_packPeriod_b105 fu k a1 a2 v4 v5 M L))
noncomputable def fX16_packPeriod_i63 (fu : Nat) (k : Nat) (a1 : Int32) (a2 : Int64) (r63 : (Int32 × Int32 × Int64 × Int32 × mwM × mwL) → Option (Int32 × mwM × mwL)) (v4 : Int32) (v5 : Int32) (v6 : Int64) (v8 : Int32) (M : mwM) (L : mwL) : Option (Int32 × mwM × mwL) :=
  (if v4 < v8 then fX16_packPeriod_b91 fu k a1 a2 v4 v5 v6 M L else (if 8 ≤ v4 then fX16_packPeriod_b91 fu k a1 a2 v4 v5 v6 M L else mlet (v6 * v8.toInt64) (fun x16 => mlet (v8 + 1) (fun x17 => r63 (v4, v5, x16, x17, M, L)))))
noncomputable def fX16_packPeriod_h63 (fu : Nat) (k : Nat) (a1 : Int32) (a2 : Int64) : Nat → (Int32 × Int32 × Int64 × Int32 × mwM × mwL) → Option (Int32 × mwM × mwL) := mloop (fun r63 s => fX16_packPeriod_i63 fu k a1 a2 r63 s.1 s.2.1 s.2.2.1 s.2.2.2.1 s.2.2.2.2.1 s.2.2.2.2.2)
noncomputable def fX16_packPeriod_b51 (fu : Nat) (k : Nat) (a1 : Int32) (a2 : Int64) (r13 : (Int32 × Int32 × Int32 × mwM × mwL) → Option (Int32 × mwM × mwL)) (v4 : Int32) (v5 : Int32) (v6 : Int32) (M : mwM) (L : mwL) : Option (Int32 × mwM × mwL) :=
  mlet (v6 + 1) (fun x13 => r13 (v4, v5, x13, M, L))
noncomputable def fX16_packPeriod_i13 (fu : Nat) (k : Nat) (a1 : Int32) (a2 : Int64) (r13 : (Int32 × Int32 × Int32 × mwM × mwL) → Option (Int32 × mwM × mwL)) (v4 : Int32) (v5 : Int32) (v6 : Int32) (M : mwM) (L : mwL) : Option (Int32 × mwM × mwL) :=
  (if 65 ≤ v6 then fX16_packPeriod_h63 fu k a1 a2 fu (v4, v5, 1, 2, M, L) else mb3 (DX16_isUsed fu k v6 M L) (fun r4 M2 L3 => (if r4 = 0 then fX16_packPeriod_b51 fu k a1 a2 r13 v4 v5 v6 M2 L3 else mb3 (DX16_hasOther fu k v6 a1 M2 L3) (fun r8 M6 L7 => (if r8 = 0 then mck v5 65 (mlet (mset M6 (k + 19) (v5.toNatClampNeg) v6) (fun M11 => mlet (v5 + 1) (fun x12 => fX16_packPeriod_b51 fu k a1 a2 r13 v4 x12 v6 M11 L7))) else fX16_packPeriod_b51 fu k a1 a2 r13 v4 v5 v6 M6 L7)))))
noncomputable def fX16_packPeriod_h13 (fu : Nat) (k : Nat) (a1 : Int32) (a2 : Int64) : Nat → (Int32 × Int32 × Int32 × mwM × mwL) → Option (Int32 × mwM × mwL) := mloop (fun r13 s => fX16_packPeriod_i13 fu k a1 a2 r13 s.1 s.2.1 s.2.2.1 s.2.2.2.1 s.2.2.2.2)
noncomputable def DX16_packPeriod (fu : Nat) (k : Nat) (a1 : Int32) (a2 : Int64) (M : mwM) (L : mwL) : Option (Int32 × mwM × mwL) :=
  mb3 (DX16_listed fu k a1 M L) (fun r33 M31 L32 => fX16_packPeriod_h13 fu k a1 a2 fu (r33, 0, 1, M31, L32))
set_option maxHeartbeats 4000000 in
set_option maxRecDepth 100000 in
theorem tX16_packPeriod (l : Launch) (G : mwG) (ad : Nat → Nat) (fu : Nat) (k : Nat) (a1 : Int32) (a2 : Int64) (M : mwM) (L : mwL) {r0 : Int32} {M0 : mwM} {L0 : mwL} (hD : DX16_packPeriod fu k a1 a2 M L = some (r0, M0, L0)) (hk0 : isMp k) : Met l yX16_packPeriod (Cond.code yX16_packPeriod cX16_packPeriod 9 ((some .boolean)) :: GT) ({ frames := 4, cells := 0, slots := 0, locals := 100 }) (mw_Pre G ad NF TF FF M L [.ref (ad k), .int a1, .long a2]) (mw_Qi G ad NF TF FF (mw_eqI r0 M0 L0)) 0 0 (mw_fr G) := by
  refine mw_enter (by decide) (Nat.le_of_ble_eq_true rfl) ?_
  intro p e s m below meth c ls C hr hlocks hnm hw hl
  have hl : lv_has ls 9 [(0, .ref (ad k)), (1, .int a1), (2, .long a2)] := hl
  have hb105 : ∀ (v4 : Int32) (v5 : Int32) (M : mwM) (L : mwL) (H : Heap) (locs : List Loc) (ls : Array Slot), fX16_packPeriod_b105 fu k a1 a2 v4 v5 M L = some (r0, M0, L0) → mw_W G ad NF TF FF M L H locs → lv_has ls 9 [(0, .ref (ad k)), (4, .int v4), (5, .int v5)] → W p l e ({ frames := 4, cells := 0, slots := 0, locals := 100 }) s m [.ref (ad k), .int a1, .long a2].toArray below meth c H locs 0 0 (MQ below (mw_Qi G ad NF TF FF (mw_eqI r0 M0 L0)) [.ref (ad k), .int a1, .long a2].toArray s 0 0 (mw_fr G)) (F0 m 105 ls []) := by
    intro v4 v5 M L H locs ls hD hw hl
    unfold fX16_packPeriod_b105 at hD
    refine lv_aload_n C.1.1 C.1.2.1 dX16_packPeriod_105 rfl (lv_at hl 0 rfl) ?_
    refine lv_iconst (v := 0) C.1.1 C.1.2.1 dX16_packPeriod_106 (by decide) ?_
    obtain ⟨M20, eM20, hD⟩ := g_let hD
    refine mr_putI C hw kc_16 14 (Mp_N0 hk0) (Mp_T0 hk0) wd_2569 dX16_packPeriod_107 (by decide) rfl rfl (by decide +kernel) (by decide +kernel) (fun H locs hw => ?_)
    replace hw : mw_W G ad NF TF FF M20 L H locs := by rw [eM20]; exact hw
    refine lv_aload_n C.1.1 C.1.2.1 dX16_packPeriod_110 rfl (lv_at hl 0 rfl) ?_
    refine lv_iload C.1.1 C.1.2.1 dX16_packPeriod_111 (lv_at hl 1 rfl) ?_
    refine lv_iload C.1.1 C.1.2.1 dX16_packPeriod_113 (lv_at hl 2 rfl) ?_
    obtain ⟨r23, M21, L22, h1, hD⟩ := g_b3 hD
    refine md_cvI (As := [.int v4, .int v5]) (rest := []) C hw (tX16_inTurn l G ad fu k v4 v5 M20 L h1 hk0) kc_16 (Mp_N0 hk0) (Mp_T0 hk0) wd_3454 cwX16_inTurn ⟨Nat.le_of_ble_eq_true rfl, Nat.le_of_ble_eq_true rfl⟩ rfl hl.1 (Nat.le_of_ble_eq_true rfl) dX16_packPeriod_115 rfl rfl ⟨Nat.zero_le _, Nat.zero_le _⟩ rfl (fun H locs hw => ?_)
    obtain ⟨z24, hD⟩ := g_zz hD
    exact mr_iret C hr hlocks hw (nz_zz z24) (Option.some.inj hD) dX16_packPeriod_118
  have hh122 : ∀ (f : Nat) (v4 : Int32) (v5 : Int32) (v8 : Int32) (M : mwM) (L : mwL) (H : Heap) (locs : List Loc) (ls : Array Slot), fX16_packPeriod_h122 fu k a1 a2 f (v4, v5, v8, M, L) = some (r0, M0, L0) → mw_W G ad NF TF FF M L H locs → lv_has ls 9 [(0, .ref (ad k)), (4, .int v4), (5, .int v5), (8, .int v8)] → W p l e ({ frames := 4, cells := 0, slots := 0, locals := 100 }) s m [.ref (ad k), .int a1, .long a2].toArray below meth c H locs 0 0 (MQ below (mw_Qi G ad NF TF FF (mw_eqI r0 M0 L0)) [.ref (ad k), .int a1, .long a2].toArray s 0 0 (mw_fr G)) (F0 m 122 ls []) := by
    intro f
    induction f with
    | zero => intro v4 v5 v8 M L H locs ls hD; cases hD
    | succ f122 ih122 =>
      intro v4 v5 v8 M L H locs ls hD hw hl
      replace hD : fX16_packPeriod_i122 fu k a1 a2 (fX16_packPeriod_h122 fu k a1 a2 f122) v4 v5 v8 M L = some (r0, M0, L0) := hD
      unfold fX16_packPeriod_i122 at hD
      refine lv_iload C.1.1 C.1.2.1 dX16_packPeriod_122 (lv_at hl 3 rfl) ?_
      refine lv_iload C.1.1 C.1.2.1 dX16_packPeriod_124 (lv_at hl 1 rfl) ?_
      refine lv_icmp_gt (tgt := 150) C.1.1 C.1.2.1 dX16_packPeriod_126 (by decide) (fun c25 => ?_) (fun c25 => ?_)
      · replace hD := g_pos c25 hD
        refine lv_iconst (v := 0) C.1.1 C.1.2.1 dX16_packPeriod_150 (by decide) ?_
        exact mr_iret C hr hlocks hw (by decide +kernel) (Option.some.inj hD) dX16_packPeriod_151
      · replace hD := g_neg c25 hD
        refine lv_aload_n C.1.1 C.1.2.1 dX16_packPeriod_129 rfl (lv_at hl 0 rfl) ?_
        refine lv_iload C.1.1 C.1.2.1 dX16_packPeriod_130 (lv_at hl 1 rfl) ?_
        refine lv_iload C.1.1 C.1.2.1 dX16_packPeriod_132 (lv_at hl 2 rfl) ?_
        refine lv_iload C.1.1 C.1.2.1 dX16_packPeriod_134 (lv_at hl 3 rfl) ?_
        obtain ⟨r28, M26, L27, h1, hD⟩ := g_b3 hD
        refine md_cvI (As := [.int v4, .int v5, .int v8]) (rest := []) C hw (tX16_search l G ad fu k v4 v5 v8 M L h1 hk0) kc_16 (Mp_N0 hk0) (Mp_T0 hk0) wd_3466 cwX16_search ⟨Nat.le_of_ble_eq_true rfl, Nat.le_of_ble_eq_true rfl⟩ rfl hl.1 (Nat.le_of_ble_eq_true rfl) dX16_packPeriod_136 rfl rfl ⟨Nat.zero_le _, Nat.zero_le _⟩ rfl (fun H locs hw => ?_)
        refine lv_if_eq (tgt := 144) C.1.1 C.1.2.1 dX16_packPeriod_139 (by decide) (fun c29 => ?_) (fun c29 => ?_)
        · replace hD := g_pos c29 hD
          obtain ⟨x30, ex30, hD⟩ := g_let hD
          refine lv_iinc (v := x30) (lv' := [(8, .int x30), (0, .ref (ad k)), (4, .int v4), (5, .int v5)]) C.1.1 C.1.2.1 dX16_packPeriod_144 hl (k := 3) rfl (by rw [ex30]; rfl) (by decide) rfl (fun ls hl => ?_)
          refine lv_goto (tgt := 122) C.1.1 C.1.2.1 dX16_packPeriod_147 (by decide) ?_
          exact ih122 v4 v5 x30 M26 L27 _ _ ls hD hw (lv_sub hl [1, 2, 3, 0] rfl)
        · replace hD := g_neg c29 hD
          refine lv_iconst (v := 1) C.1.1 C.1.2.1 dX16_packPeriod_142 (by decide) ?_
          exact mr_iret C hr hlocks hw (by decide +kernel) (Option.some.inj hD) dX16_packPeriod_143
  have hb91 : ∀ (v4 : Int32) (v5 : Int32) (v6 : Int64) (M : mwM) (L : mwL) (H : Heap) (locs : List Loc) (ls : Array Slot), fX16_packPeriod_b91 fu k a1 a2 v4 v5 v6 M L = some (r0, M0, L0) → mw_W G ad NF TF FF M L H locs → lv_has ls 9 [(0, .ref (ad k)), (2, .long a2), (4, .int v4), (5, .int v5), (6, .long v6)] → W p l e ({ frames := 4, cells := 0, slots := 0, locals := 100 }) s m [.ref (ad k), .int a1, .long a2].toArray below meth c H locs 0 0 (MQ below (mw_Qi G ad NF TF FF (mw_eqI r0 M0 L0)) [.ref (ad k), .int a1, .long a2].toArray s 0 0 (mw_fr G)) (F0 m 91 ls []) := by
    intro v4 v5 v6 M L H locs ls hD hw hl
    unfold fX16_packPeriod_b91 at hD
    refine lv_iload C.1.1 C.1.2.1 dX16_packPeriod_91 (lv_at hl 2 rfl) ?_
    refine lv_bipush (v := 7) C.1.1 C.1.2.1 dX16_packPeriod_93 (by decide) ?_
    refine lv_icmp_gt (tgt := 105) C.1.1 C.1.2.1 dX16_packPeriod_95 (by decide) (fun c18 => ?_) (fun c18 => ?_)
    · replace hD := g_pos c18 hD
      exact hb105 v4 v5 M L _ _ ls hD hw (lv_sub hl [0, 2, 3] rfl)
    · replace hD := g_neg c18 hD
      refine lv_lload C.1.1 C.1.2.1 dX16_packPeriod_98 (lv_at hl 4 rfl) ?_
      refine lv_lload_n C.1.1 C.1.2.1 dX16_packPeriod_100 rfl (lv_at hl 1 rfl) ?_
      refine W.lcmp C.1.1 C.1.2.1 dX16_packPeriod_101 ?_
      refine lv_if_le (tgt := 119) C.1.1 C.1.2.1 dX16_packPeriod_102 (by decide) (fun c19 => ?_) (fun c19 => ?_)
      · replace hD := g_pos c19 hD
        refine lv_iconst (v := 0) C.1.1 C.1.2.1 dX16_packPeriod_119 (by decide) ?_
        refine lv_istore (lv' := [(8, .int 0), (0, .ref (ad k)), (2, .long a2), (4, .int v4), (5, .int v5), (6, .long v6)]) C.1.1 C.1.2.1 dX16_packPeriod_120 hl (by decide) rfl (fun ls hl => ?_)
        exact hh122 fu v4 v5 0 M L _ _ ls hD hw (lv_sub hl [1, 3, 4, 0] rfl)
      · replace hD := g_neg c19 hD
        exact hb105 v4 v5 M L _ _ ls hD hw (lv_sub hl [0, 2, 3] rfl)
  have hh63 : ∀ (f : Nat) (v4 : Int32) (v5 : Int32) (v6 : Int64) (v8 : Int32) (M : mwM) (L : mwL) (H : Heap) (locs : List Loc) (ls : Array Slot), fX16_packPeriod_h63 fu k a1 a2 f (v4, v5, v6, v8, M, L) = some (r0, M0, L0) → mw_W G ad NF TF FF M L H locs → lv_has ls 9 [(0, .ref (ad k)), (2, .long a2), (4, .int v4), (5, .int v5), (6, .long v6), (8, .int v8)] → W p l e ({ frames := 4, cells := 0, slots := 0, locals := 100 }) s m [.ref (ad k), .int a1, .long a2].toArray below meth c H locs 0 0 (MQ below (mw_Qi G ad NF TF FF (mw_eqI r0 M0 L0)) [.ref (ad k), .int a1, .long a2].toArray s 0 0 (mw_fr G)) (F0 m 63 ls []) := by
    intro f
    induction f with
    | zero => intro v4 v5 v6 v8 M L H locs ls hD; cases hD
    | succ f63 ih63 =>
      intro v4 v5 v6 v8 M L H locs ls hD hw hl
      replace hD : fX16_packPeriod_i63 fu k a1 a2 (fX16_packPeriod_h63 fu k a1 a2 f63) v4 v5 v6 v8 M L = some (r0, M0, L0) := hD
      unfold fX16_packPeriod_i63 at hD
      refine lv_iload C.1.1 C.1.2.1 dX16_packPeriod_63 (lv_at hl 5 rfl) ?_
      refine lv_iload C.1.1 C.1.2.1 dX16_packPeriod_65 (lv_at hl 2 rfl) ?_
      refine lv_icmp_gt (tgt := 91) C.1.1 C.1.2.1 dX16_packPeriod_67 (by decide) (fun c14 => ?_) (fun c14 => ?_)
      · replace hD := g_pos c14 hD
        exact hb91 v4 v5 v6 M L _ _ ls hD hw (lv_sub hl [0, 1, 2, 3, 4] rfl)
      · replace hD := g_neg c14 hD
        refine lv_iload C.1.1 C.1.2.1 dX16_packPeriod_70 (lv_at hl 2 rfl) ?_
        refine lv_bipush (v := 8) C.1.1 C.1.2.1 dX16_packPeriod_72 (by decide) ?_
        refine lv_icmp_ge (tgt := 91) C.1.1 C.1.2.1 dX16_packPeriod_74 (by decide) (fun c15 => ?_) (fun c15 => ?_)
        · replace hD := g_pos c15 hD
          exact hb91 v4 v5 v6 M L _ _ ls hD hw (lv_sub hl [0, 1, 2, 3, 4] rfl)
        · replace hD := g_neg c15 hD
          refine lv_lload C.1.1 C.1.2.1 dX16_packPeriod_77 (lv_at hl 4 rfl) ?_
          refine lv_iload C.1.1 C.1.2.1 dX16_packPeriod_79 (lv_at hl 5 rfl) ?_
          refine lv_i2l C.1.1 C.1.2.1 dX16_packPeriod_81 rfl ?_
          refine lv_lmul C.1.1 C.1.2.1 dX16_packPeriod_82 ?_
          obtain ⟨x16, ex16, hD⟩ := g_let hD
          refine W.eq (g2 := F0 m 83 ls (.long x16 :: [])) (by rw [ex16]) ?_
          refine lv_lstore (lv' := [(6, .long x16), (0, .ref (ad k)), (2, .long a2), (4, .int v4), (5, .int v5), (8, .int v8)]) C.1.1 C.1.2.1 dX16_packPeriod_83 hl (by decide) rfl (fun ls hl => ?_)
          obtain ⟨x17, ex17, hD⟩ := g_let hD
          refine lv_iinc (v := x17) (lv' := [(8, .int x17), (6, .long x16), (0, .ref (ad k)), (2, .long a2), (4, .int v4), (5, .int v5)]) C.1.1 C.1.2.1 dX16_packPeriod_85 hl (k := 5) rfl (by rw [ex17]; rfl) (by decide) rfl (fun ls hl => ?_)
          refine lv_goto (tgt := 63) C.1.1 C.1.2.1 dX16_packPeriod_88 (by decide) ?_
          exact ih63 v4 v5 x16 x17 M L _ _ ls hD hw (lv_sub hl [2, 3, 4, 5, 1, 0] rfl)
  have hh13 : ∀ (f : Nat) (v4 : Int32) (v5 : Int32) (v6 : Int32) (M : mwM) (L : mwL) (H : Heap) (locs : List Loc) (ls : Array Slot), fX16_packPeriod_h13 fu k a1 a2 f (v4, v5, v6, M, L) = some (r0, M0, L0) → mw_W G ad NF TF FF M L H locs → lv_has ls 9 [(0, .ref (ad k)), (1, .int a1), (2, .long a2), (4, .int v4), (5, .int v5), (6, .int v6)] → W p l e ({ frames := 4, cells := 0, slots := 0, locals := 100 }) s m [.ref (ad k), .int a1, .long a2].toArray below meth c H locs 0 0 (MQ below (mw_Qi G ad NF TF FF (mw_eqI r0 M0 L0)) [.ref (ad k), .int a1, .long a2].toArray s 0 0 (mw_fr G)) (F0 m 13 ls []) := by
    intro f
    induction f with
    | zero => intro v4 v5 v6 M L H locs ls hD; cases hD
    | succ f13 ih13 =>
      intro v4 v5 v6 M L H locs ls hD hw hl
      replace hD : fX16_packPeriod_i13 fu k a1 a2 (fX16_packPeriod_h13 fu k a1 a2 f13) v4 v5 v6 M L = some (r0, M0, L0) := hD
      have hb51 : ∀ (v4 : Int32) (v5 : Int32) (v6 : Int32) (M : mwM) (L : mwL) (H : Heap) (locs : List Loc) (ls : Array Slot), fX16_packPeriod_b51 fu k a1 a2 (fX16_packPeriod_h13 fu k a1 a2 f13) v4 v5 v6 M L = some (r0, M0, L0) → mw_W G ad NF TF FF M L H locs → lv_has ls 9 [(0, .ref (ad k)), (1, .int a1), (2, .long a2), (4, .int v4), (5, .int v5), (6, .int v6)] → W p l e ({ frames := 4, cells := 0, slots := 0, locals := 100 }) s m [.ref (ad k), .int a1, .long a2].toArray below meth c H locs 0 0 (MQ below (mw_Qi G ad NF TF FF (mw_eqI r0 M0 L0)) [.ref (ad k), .int a1, .long a2].toArray s 0 0 (mw_fr G)) (F0 m 51 ls []) := by
        intro v4 v5 v6 M L H locs ls hD hw hl
        unfold fX16_packPeriod_b51 at hD
        obtain ⟨x13, ex13, hD⟩ := g_let hD
        refine lv_iinc (v := x13) (lv' := [(6, .int x13), (0, .ref (ad k)), (1, .int a1), (2, .long a2), (4, .int v4), (5, .int v5)]) C.1.1 C.1.2.1 dX16_packPeriod_51 hl (k := 5) rfl (by rw [ex13]; rfl) (by decide) rfl (fun ls hl => ?_)
        refine lv_goto (tgt := 13) C.1.1 C.1.2.1 dX16_packPeriod_54 (by decide) ?_
        exact ih13 v4 v5 x13 M L _ _ ls hD hw (lv_sub hl [1, 2, 3, 4, 5, 0] rfl)
      unfold fX16_packPeriod_i13 at hD
      refine lv_iload C.1.1 C.1.2.1 dX16_packPeriod_13 (lv_at hl 5 rfl) ?_
      refine lv_bipush (v := 65) C.1.1 C.1.2.1 dX16_packPeriod_15 (by decide) ?_
      refine lv_icmp_ge (tgt := 57) C.1.1 C.1.2.1 dX16_packPeriod_17 (by decide) (fun c1 => ?_) (fun c1 => ?_)
      · replace hD := g_pos c1 hD
        refine lv_lconst (v := 1) C.1.1 C.1.2.1 dX16_packPeriod_57 (by decide) ?_
        refine lv_lstore (lv' := [(6, .long 1), (0, .ref (ad k)), (1, .int a1), (2, .long a2), (4, .int v4), (5, .int v5)]) C.1.1 C.1.2.1 dX16_packPeriod_58 hl (by decide) rfl (fun ls hl => ?_)
        refine lv_iconst (v := 2) C.1.1 C.1.2.1 dX16_packPeriod_60 (by decide) ?_
        refine lv_istore (lv' := [(8, .int 2), (6, .long 1), (0, .ref (ad k)), (1, .int a1), (2, .long a2), (4, .int v4), (5, .int v5)]) C.1.1 C.1.2.1 dX16_packPeriod_61 hl (by decide) rfl (fun ls hl => ?_)
        exact hh63 fu v4 v5 1 2 M L _ _ ls hD hw (lv_sub hl [2, 4, 5, 6, 1, 0] rfl)
      · replace hD := g_neg c1 hD
        refine lv_aload_n C.1.1 C.1.2.1 dX16_packPeriod_20 rfl (lv_at hl 0 rfl) ?_
        refine lv_iload C.1.1 C.1.2.1 dX16_packPeriod_21 (lv_at hl 5 rfl) ?_
        obtain ⟨r4, M2, L3, h1, hD⟩ := g_b3 hD
        refine md_cvI (As := [.int v6]) (rest := []) C hw (tX16_isUsed l G ad fu k v6 M L h1 hk0) kc_16 (Mp_N0 hk0) (Mp_T0 hk0) wd_3450 cwX16_isUsed ⟨Nat.le_of_ble_eq_true rfl, Nat.le_of_ble_eq_true rfl⟩ rfl hl.1 (Nat.le_of_ble_eq_true rfl) dX16_packPeriod_23 rfl rfl ⟨Nat.zero_le _, Nat.zero_le _⟩ rfl (fun H locs hw => ?_)
        refine lv_if_eq (tgt := 51) C.1.1 C.1.2.1 dX16_packPeriod_26 (by decide) (fun c5 => ?_) (fun c5 => ?_)
        · replace hD := g_pos c5 hD
          exact hb51 v4 v5 v6 M2 L3 _ _ ls hD hw (lv_sub hl [0, 1, 2, 3, 4, 5] rfl)
        · replace hD := g_neg c5 hD
          refine lv_aload_n C.1.1 C.1.2.1 dX16_packPeriod_29 rfl (lv_at hl 0 rfl) ?_
          refine lv_iload C.1.1 C.1.2.1 dX16_packPeriod_30 (lv_at hl 5 rfl) ?_
          refine lv_iload_n C.1.1 C.1.2.1 dX16_packPeriod_32 rfl (lv_at hl 1 rfl) ?_
          obtain ⟨r8, M6, L7, h1, hD⟩ := g_b3 hD
          refine md_cvI (As := [.int v6, .int a1]) (rest := []) C hw (tX16_hasOther l G ad fu k v6 a1 M2 L3 h1 hk0) kc_16 (Mp_N0 hk0) (Mp_T0 hk0) wd_3433 cwX16_hasOther ⟨Nat.le_of_ble_eq_true rfl, Nat.le_of_ble_eq_true rfl⟩ rfl hl.1 (Nat.le_of_ble_eq_true rfl) dX16_packPeriod_33 rfl rfl ⟨Nat.zero_le _, Nat.zero_le _⟩ rfl (fun H locs hw => ?_)
          refine lv_if_ne (tgt := 51) C.1.1 C.1.2.1 dX16_packPeriod_36 (by decide) (fun c9 => ?_) (fun c9 => ?_)
          · replace hD := g_neg c9 hD
            exact hb51 v4 v5 v6 M6 L7 _ _ ls hD hw (lv_sub hl [0, 1, 2, 3, 4, 5] rfl)
          · replace hD := g_pos c9 hD
            refine lv_aload_n C.1.1 C.1.2.1 dX16_packPeriod_39 rfl (lv_at hl 0 rfl) ?_
            refine mr_getR C hw kc_16 23 (Mp_N0 hk0) (Mp_T0 hk0) (Mp_F0_23 hk0) wd_2578 dX16_packPeriod_40 (by decide) rfl ?_
            refine lv_iload C.1.1 C.1.2.1 dX16_packPeriod_43 (lv_at hl 4 rfl) ?_
            refine lv_iload C.1.1 C.1.2.1 dX16_packPeriod_45 (lv_at hl 5 rfl) ?_
            obtain ⟨q10, hD⟩ := g_ck hD
            obtain ⟨M11, eM11, hD⟩ := g_let hD
            refine mr_iast C hw (Mp_N19 hk0) (Mp_T19 hk0) q10 dX16_packPeriod_47 (fun H locs hw => ?_)
            replace hw : mw_W G ad NF TF FF M11 L7 H locs := by rw [eM11]; exact hw
            obtain ⟨x12, ex12, hD⟩ := g_let hD
            refine lv_iinc (v := x12) (lv' := [(5, .int x12), (0, .ref (ad k)), (1, .int a1), (2, .long a2), (4, .int v4), (6, .int v6)]) C.1.1 C.1.2.1 dX16_packPeriod_48 hl (k := 4) rfl (by rw [ex12]; rfl) (by decide) rfl (fun ls hl => ?_)
            exact hb51 v4 x12 v6 M11 L7 _ _ ls hD hw (lv_sub hl [1, 2, 3, 4, 0, 5] rfl)
  unfold DX16_packPeriod at hD
  refine lv_aload_n C.1.1 C.1.2.1 dX16_packPeriod_0 rfl (lv_at hl 0 rfl) ?_
  refine lv_iload_n C.1.1 C.1.2.1 dX16_packPeriod_1 rfl (lv_at hl 1 rfl) ?_
  obtain ⟨r33, M31, L32, h1, hD⟩ := g_b3 hD
  refine md_cvI (As := [.int a1]) (rest := []) C hw (tX16_listed l G ad fu k a1 M L h1 hk0) kc_16 (Mp_N0 hk0) (Mp_T0 hk0) wd_3446 cwX16_listed ⟨Nat.le_of_ble_eq_true rfl, Nat.le_of_ble_eq_true rfl⟩ rfl hl.1 (Nat.le_of_ble_eq_true rfl) dX16_packPeriod_2 rfl rfl ⟨Nat.zero_le _, Nat.zero_le _⟩ rfl (fun H locs hw => ?_)
  refine lv_istore (lv' := [(4, .int r33), (0, .ref (ad k)), (1, .int a1), (2, .long a2)]) C.1.1 C.1.2.1 dX16_packPeriod_5 hl (by decide) rfl (fun ls hl => ?_)
  refine lv_iconst (v := 0) C.1.1 C.1.2.1 dX16_packPeriod_7 (by decide) ?_
  refine lv_istore (lv' := [(5, .int 0), (4, .int r33), (0, .ref (ad k)), (1, .int a1), (2, .long a2)]) C.1.1 C.1.2.1 dX16_packPeriod_8 hl (by decide) rfl (fun ls hl => ?_)
  refine lv_iconst (v := 1) C.1.1 C.1.2.1 dX16_packPeriod_10 (by decide) ?_
  refine lv_istore (lv' := [(6, .int 1), (5, .int 0), (4, .int r33), (0, .ref (ad k)), (1, .int a1), (2, .long a2)]) C.1.1 C.1.2.1 dX16_packPeriod_11 hl (by decide) rfl (fun ls hl => ?_)
  exact hh13 fu r33 0 1 M31 L32 _ _ ls hD hw (lv_sub hl [3, 4, 5, 2, 1, 0] rfl)

theorem dX16_frames_0 : decode cX16_frames 0 = .ok (.iconst 0, 1) := by decide +kernel
theorem dX16_frames_1 : decode cX16_frames 1 = .ok (.istore_n 1, 1) := by decide +kernel
theorem dX16_frames_2 : decode cX16_frames 2 = .ok (.iconst 1, 1) := by decide +kernel
theorem dX16_frames_3 : decode cX16_frames 3 = .ok (.istore_n 2, 1) := by decide +kernel
theorem dX16_frames_4 : decode cX16_frames 4 = .ok (.iload_n 2, 1) := by decide +kernel
theorem dX16_frames_5 : decode cX16_frames 5 = .ok (.bipush 65, 2) := by decide +kernel
theorem dX16_frames_7 : decode cX16_frames 7 = .ok (.if_icmp .ge 25, 3) := by decide +kernel
theorem dX16_frames_10 : decode cX16_frames 10 = .ok (.aload_n 0, 1) := by decide +kernel
theorem dX16_frames_11 : decode cX16_frames 11 = .ok (.iload_n 2, 1) := by decide +kernel
theorem dX16_frames_12 : decode cX16_frames 12 = .ok (.invokevirtual 117, 3) := by decide +kernel
theorem dX16_frames_15 : decode cX16_frames 15 = .ok (.ifCond .eq 9, 3) := by decide +kernel
theorem dX16_frames_18 : decode cX16_frames 18 = .ok (.iload_n 1, 1) := by decide +kernel
theorem dX16_frames_19 : decode cX16_frames 19 = .ok (.iconst 1, 1) := by decide +kernel
theorem dX16_frames_20 : decode cX16_frames 20 = .ok (.iadd, 1) := by decide +kernel
theorem dX16_frames_21 : decode cX16_frames 21 = .ok (.goto 4, 3) := by decide +kernel
theorem dX16_frames_24 : decode cX16_frames 24 = .ok (.iload_n 1, 1) := by decide +kernel
theorem dX16_frames_25 : decode cX16_frames 25 = .ok (.istore_n 1, 1) := by decide +kernel
theorem dX16_frames_26 : decode cX16_frames 26 = .ok (.iinc 2 1, 3) := by decide +kernel
theorem dX16_frames_29 : decode cX16_frames 29 = .ok (.goto (-25), 3) := by decide +kernel
theorem dX16_frames_32 : decode cX16_frames 32 = .ok (.iload_n 1, 1) := by decide +kernel
theorem dX16_frames_33 : decode cX16_frames 33 = .ok (.ireturn, 1) := by decide +kernel
theorem cwX16_frames : mw_cwV yX16_frames cX16_frames 3 ((some .int)) 0 := ⟨⟨wd_19, wd_3473, by decide +kernel⟩, wd_3472, sl_209⟩
noncomputable def fX16_frames_b25 (fu : Nat) (k : Nat) (r4 : (Int32 × Int32 × mwM × mwL) → Option (Int32 × mwM × mwL)) (v2 : Int32) (s0 : Int32) (M : mwM) (L : mwL) : Option (Int32 × mwM × mwL) :=
  mlet (v2 + 1) (fun x7 => r4 (s0, x7, M, L))
noncomputable def fX16_frames_i4 (fu : Nat) (k : Nat) (r4 : (Int32 × Int32 × mwM × mwL) → Option (Int32 × mwM × mwL)) (v1 : Int32) (v2 : Int32) (M : mwM) (L : mwL) : Option (Int32 × mwM × mwL) :=
  (if 65 ≤ v2 then some (v1, M, L) else mb3 (DX16_isUsed fu k v2 M L) (fun r5 M2 L3 => (if r5 = 0 then fX16_frames_b25 fu k r4 v2 v1 M2 L3 else fX16_frames_b25 fu k r4 v2 (v1 + 1) M2 L3)))
noncomputable def fX16_frames_h4 (fu : Nat) (k : Nat) : Nat → (Int32 × Int32 × mwM × mwL) → Option (Int32 × mwM × mwL) := mloop (fun r4 s => fX16_frames_i4 fu k r4 s.1 s.2.1 s.2.2.1 s.2.2.2)
noncomputable def DX16_frames (fu : Nat) (k : Nat) (M : mwM) (L : mwL) : Option (Int32 × mwM × mwL) :=
  fX16_frames_h4 fu k fu (0, 1, M, L)
set_option maxHeartbeats 4000000 in
set_option maxRecDepth 100000 in
theorem tX16_frames (l : Launch) (G : mwG) (ad : Nat → Nat) (fu : Nat) (k : Nat) (M : mwM) (L : mwL) {r0 : Int32} {M0 : mwM} {L0 : mwL} (hD : DX16_frames fu k M L = some (r0, M0, L0)) (hk0 : isMp k) : Met l yX16_frames (Cond.code yX16_frames cX16_frames 3 ((some .int)) :: GT) ({ frames := 2, cells := 0, slots := 0, locals := 44 }) (mw_Pre G ad NF TF FF M L [.ref (ad k)]) (mw_Qi G ad NF TF FF (mw_eqI r0 M0 L0)) 0 0 (mw_fr G) := by
  refine mw_enter (by decide) (Nat.le_of_ble_eq_true rfl) ?_
  intro p e s m below meth c ls C hr hlocks hnm hw hl
  have hl : lv_has ls 3 [(0, .ref (ad k))] := hl
  have hh4 : ∀ (f : Nat) (v1 : Int32) (v2 : Int32) (M : mwM) (L : mwL) (H : Heap) (locs : List Loc) (ls : Array Slot), fX16_frames_h4 fu k f (v1, v2, M, L) = some (r0, M0, L0) → mw_W G ad NF TF FF M L H locs → lv_has ls 3 [(0, .ref (ad k)), (1, .int v1), (2, .int v2)] → W p l e ({ frames := 2, cells := 0, slots := 0, locals := 44 }) s m [.ref (ad k)].toArray below meth c H locs 0 0 (MQ below (mw_Qi G ad NF TF FF (mw_eqI r0 M0 L0)) [.ref (ad k)].toArray s 0 0 (mw_fr G)) (F0 m 4 ls []) := by
    intro f
    induction f with
    | zero => intro v1 v2 M L H locs ls hD; cases hD
    | succ f4 ih4 =>
      intro v1 v2 M L H locs ls hD hw hl
      replace hD : fX16_frames_i4 fu k (fX16_frames_h4 fu k f4) v1 v2 M L = some (r0, M0, L0) := hD
      have hb25 : ∀ (v2 : Int32) (s0 : Int32) (M : mwM) (L : mwL) (H : Heap) (locs : List Loc) (ls : Array Slot), fX16_frames_b25 fu k (fX16_frames_h4 fu k f4) v2 s0 M L = some (r0, M0, L0) → mw_W G ad NF TF FF M L H locs → lv_has ls 3 [(0, .ref (ad k)), (2, .int v2)] → W p l e ({ frames := 2, cells := 0, slots := 0, locals := 44 }) s m [.ref (ad k)].toArray below meth c H locs 0 0 (MQ below (mw_Qi G ad NF TF FF (mw_eqI r0 M0 L0)) [.ref (ad k)].toArray s 0 0 (mw_fr G)) (F0 m 25 ls [.int s0]) := by
        intro v2 s0 M L H locs ls hD hw hl
        unfold fX16_frames_b25 at hD
        refine lv_istore_n (lv' := [(1, .int s0), (0, .ref (ad k)), (2, .int v2)]) C.1.1 C.1.2.1 dX16_frames_25 rfl hl (by decide) rfl (fun ls hl => ?_)
        obtain ⟨x7, ex7, hD⟩ := g_let hD
        refine lv_iinc (v := x7) (lv' := [(2, .int x7), (1, .int s0), (0, .ref (ad k))]) C.1.1 C.1.2.1 dX16_frames_26 hl (k := 2) rfl (by rw [ex7]; rfl) (by decide) rfl (fun ls hl => ?_)
        refine lv_goto (tgt := 4) C.1.1 C.1.2.1 dX16_frames_29 (by decide) ?_
        exact ih4 s0 x7 M L _ _ ls hD hw (lv_sub hl [2, 1, 0] rfl)
      unfold fX16_frames_i4 at hD
      refine lv_iload_n C.1.1 C.1.2.1 dX16_frames_4 rfl (lv_at hl 2 rfl) ?_
      refine lv_bipush (v := 65) C.1.1 C.1.2.1 dX16_frames_5 (by decide) ?_
      refine lv_icmp_ge (tgt := 32) C.1.1 C.1.2.1 dX16_frames_7 (by decide) (fun c1 => ?_) (fun c1 => ?_)
      · replace hD := g_pos c1 hD
        refine lv_iload_n C.1.1 C.1.2.1 dX16_frames_32 rfl (lv_at hl 1 rfl) ?_
        exact mr_iret C hr hlocks hw rfl (Option.some.inj hD) dX16_frames_33
      · replace hD := g_neg c1 hD
        refine lv_aload_n C.1.1 C.1.2.1 dX16_frames_10 rfl (lv_at hl 0 rfl) ?_
        refine lv_iload_n C.1.1 C.1.2.1 dX16_frames_11 rfl (lv_at hl 2 rfl) ?_
        obtain ⟨r5, M2, L3, h1, hD⟩ := g_b3 hD
        refine md_cvI (As := [.int v2]) (rest := []) C hw (tX16_isUsed l G ad fu k v2 M L h1 hk0) kc_16 (Mp_N0 hk0) (Mp_T0 hk0) wd_3450 cwX16_isUsed ⟨Nat.le_of_ble_eq_true rfl, Nat.le_of_ble_eq_true rfl⟩ rfl hl.1 (Nat.le_of_ble_eq_true rfl) dX16_frames_12 rfl rfl ⟨Nat.zero_le _, Nat.zero_le _⟩ rfl (fun H locs hw => ?_)
        refine lv_if_eq (tgt := 24) C.1.1 C.1.2.1 dX16_frames_15 (by decide) (fun c6 => ?_) (fun c6 => ?_)
        · replace hD := g_pos c6 hD
          refine lv_iload_n C.1.1 C.1.2.1 dX16_frames_24 rfl (lv_at hl 1 rfl) ?_
          exact hb25 v2 v1 M2 L3 _ _ ls hD hw (lv_sub hl [0, 2] rfl)
        · replace hD := g_neg c6 hD
          refine lv_iload_n C.1.1 C.1.2.1 dX16_frames_18 rfl (lv_at hl 1 rfl) ?_
          refine lv_iconst (v := 1) C.1.1 C.1.2.1 dX16_frames_19 (by decide) ?_
          refine lv_iadd C.1.1 C.1.2.1 dX16_frames_20 ?_
          refine lv_goto (tgt := 25) C.1.1 C.1.2.1 dX16_frames_21 (by decide) ?_
          exact hb25 v2 (v1 + 1) M2 L3 _ _ ls hD hw (lv_sub hl [0, 2] rfl)
  unfold DX16_frames at hD
  refine lv_iconst (v := 0) C.1.1 C.1.2.1 dX16_frames_0 (by decide) ?_
  refine lv_istore_n (lv' := [(1, .int 0), (0, .ref (ad k))]) C.1.1 C.1.2.1 dX16_frames_1 rfl hl (by decide) rfl (fun ls hl => ?_)
  refine lv_iconst (v := 1) C.1.1 C.1.2.1 dX16_frames_2 (by decide) ?_
  refine lv_istore_n (lv' := [(2, .int 1), (1, .int 0), (0, .ref (ad k))]) C.1.1 C.1.2.1 dX16_frames_3 rfl hl (by decide) rfl (fun ls hl => ?_)
  exact hh4 fu 0 1 M L _ _ ls hD hw (lv_sub hl [2, 1, 0] rfl)
