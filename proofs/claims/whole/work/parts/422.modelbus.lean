theorem dX12_sees_0 : decode cX12_sees 0 = .ok (.aload_n 0, 1) := by decide +kernel
theorem dX12_sees_1 : decode cX12_sees 1 = .ok (.getfield 43, 3) := by decide +kernel
theorem dX12_sees_4 : decode cX12_sees 4 = .ok (.iload_n 1, 1) := by decide +kernel
theorem dX12_sees_5 : decode cX12_sees 5 = .ok (.iaload, 1) := by decide +kernel
theorem dX12_sees_6 : decode cX12_sees 6 = .ok (.ifCond .ne 50, 3) := by decide +kernel
theorem dX12_sees_9 : decode cX12_sees 9 = .ok (.aload_n 0, 1) := by decide +kernel
theorem dX12_sees_10 : decode cX12_sees 10 = .ok (.getfield 58, 3) := by decide +kernel
theorem dX12_sees_13 : decode cX12_sees 13 = .ok (.iload_n 1, 1) := by decide +kernel
theorem dX12_sees_14 : decode cX12_sees 14 = .ok (.iconst 0, 1) := by decide +kernel
theorem dX12_sees_15 : decode cX12_sees 15 = .ok (.iastore, 1) := by decide +kernel
theorem dX12_sees_16 : decode cX12_sees 16 = .ok (.aload_n 0, 1) := by decide +kernel
theorem dX12_sees_17 : decode cX12_sees 17 = .ok (.iload_n 1, 1) := by decide +kernel
theorem dX12_sees_18 : decode cX12_sees 18 = .ok (.invokevirtual 248, 3) := by decide +kernel
theorem dX12_sees_21 : decode cX12_sees 21 = .ok (.istore_n 3, 1) := by decide +kernel
theorem dX12_sees_22 : decode cX12_sees 22 = .ok (.iload_n 3, 1) := by decide +kernel
theorem dX12_sees_23 : decode cX12_sees 23 = .ok (.iconst (-1), 1) := by decide +kernel
theorem dX12_sees_24 : decode cX12_sees 24 = .ok (.if_icmp .ne 9, 3) := by decide +kernel
theorem dX12_sees_27 : decode cX12_sees 27 = .ok (.iload_n 2, 1) := by decide +kernel
theorem dX12_sees_28 : decode cX12_sees 28 = .ok (.iconst 1, 1) := by decide +kernel
theorem dX12_sees_29 : decode cX12_sees 29 = .ok (.if_icmp .ne 4, 3) := by decide +kernel
theorem dX12_sees_32 : decode cX12_sees 32 = .ok (.return_, 1) := by decide +kernel
theorem dX12_sees_33 : decode cX12_sees 33 = .ok (.aload_n 0, 1) := by decide +kernel
theorem dX12_sees_34 : decode cX12_sees 34 = .ok (.getfield 43, 3) := by decide +kernel
theorem dX12_sees_37 : decode cX12_sees 37 = .ok (.iload_n 1, 1) := by decide +kernel
theorem dX12_sees_38 : decode cX12_sees 38 = .ok (.iload_n 3, 1) := by decide +kernel
theorem dX12_sees_39 : decode cX12_sees 39 = .ok (.iconst (-1), 1) := by decide +kernel
theorem dX12_sees_40 : decode cX12_sees 40 = .ok (.if_icmp .ne 7, 3) := by decide +kernel
theorem dX12_sees_43 : decode cX12_sees 43 = .ok (.iconst 2, 1) := by decide +kernel
theorem dX12_sees_44 : decode cX12_sees 44 = .ok (.goto 4, 3) := by decide +kernel
theorem dX12_sees_47 : decode cX12_sees 47 = .ok (.iconst 1, 1) := by decide +kernel
theorem dX12_sees_48 : decode cX12_sees 48 = .ok (.iastore, 1) := by decide +kernel
theorem dX12_sees_49 : decode cX12_sees 49 = .ok (.aload_n 0, 1) := by decide +kernel
theorem dX12_sees_50 : decode cX12_sees 50 = .ok (.getfield 49, 3) := by decide +kernel
theorem dX12_sees_53 : decode cX12_sees 53 = .ok (.iload_n 1, 1) := by decide +kernel
theorem dX12_sees_54 : decode cX12_sees 54 = .ok (.iload_n 3, 1) := by decide +kernel
theorem dX12_sees_55 : decode cX12_sees 55 = .ok (.iastore, 1) := by decide +kernel
theorem dX12_sees_56 : decode cX12_sees 56 = .ok (.aload_n 0, 1) := by decide +kernel
theorem dX12_sees_57 : decode cX12_sees 57 = .ok (.getfield 43, 3) := by decide +kernel
theorem dX12_sees_60 : decode cX12_sees 60 = .ok (.iload_n 1, 1) := by decide +kernel
theorem dX12_sees_61 : decode cX12_sees 61 = .ok (.iaload, 1) := by decide +kernel
theorem dX12_sees_62 : decode cX12_sees 62 = .ok (.iconst 1, 1) := by decide +kernel
theorem dX12_sees_63 : decode cX12_sees 63 = .ok (.if_icmp .ne 12, 3) := by decide +kernel
theorem dX12_sees_66 : decode cX12_sees 66 = .ok (.aload_n 0, 1) := by decide +kernel
theorem dX12_sees_67 : decode cX12_sees 67 = .ok (.iload_n 1, 1) := by decide +kernel
theorem dX12_sees_68 : decode cX12_sees 68 = .ok (.iload_n 2, 1) := by decide +kernel
theorem dX12_sees_69 : decode cX12_sees 69 = .ok (.invokevirtual 254, 3) := by decide +kernel
theorem dX12_sees_72 : decode cX12_sees 72 = .ok (.goto 222, 3) := by decide +kernel
theorem dX12_sees_75 : decode cX12_sees 75 = .ok (.aload_n 0, 1) := by decide +kernel
theorem dX12_sees_76 : decode cX12_sees 76 = .ok (.getfield 43, 3) := by decide +kernel
theorem dX12_sees_79 : decode cX12_sees 79 = .ok (.iload_n 1, 1) := by decide +kernel
theorem dX12_sees_80 : decode cX12_sees 80 = .ok (.iaload, 1) := by decide +kernel
theorem dX12_sees_81 : decode cX12_sees 81 = .ok (.iconst 2, 1) := by decide +kernel
theorem dX12_sees_82 : decode cX12_sees 82 = .ok (.if_icmp .ne 60, 3) := by decide +kernel
theorem dX12_sees_85 : decode cX12_sees 85 = .ok (.aload_n 0, 1) := by decide +kernel
theorem dX12_sees_86 : decode cX12_sees 86 = .ok (.iload_n 1, 1) := by decide +kernel
theorem dX12_sees_87 : decode cX12_sees 87 = .ok (.iload_n 2, 1) := by decide +kernel
theorem dX12_sees_88 : decode cX12_sees 88 = .ok (.invokevirtual 257, 3) := by decide +kernel
theorem dX12_sees_91 : decode cX12_sees 91 = .ok (.aload_n 0, 1) := by decide +kernel
theorem dX12_sees_92 : decode cX12_sees 92 = .ok (.iload_n 1, 1) := by decide +kernel
theorem dX12_sees_93 : decode cX12_sees 93 = .ok (.invokevirtual 260, 3) := by decide +kernel
theorem dX12_sees_96 : decode cX12_sees 96 = .ok (.istore_n 3, 1) := by decide +kernel
theorem dX12_sees_97 : decode cX12_sees 97 = .ok (.iload_n 3, 1) := by decide +kernel
theorem dX12_sees_98 : decode cX12_sees 98 = .ok (.bipush 10, 2) := by decide +kernel
theorem dX12_sees_100 : decode cX12_sees 100 = .ok (.if_icmp .ne 11, 3) := by decide +kernel
theorem dX12_sees_103 : decode cX12_sees 103 = .ok (.aload_n 0, 1) := by decide +kernel
theorem dX12_sees_104 : decode cX12_sees 104 = .ok (.iload_n 1, 1) := by decide +kernel
theorem dX12_sees_105 : decode cX12_sees 105 = .ok (.invokevirtual 263, 3) := by decide +kernel
theorem dX12_sees_108 : decode cX12_sees 108 = .ok (.goto 31, 3) := by decide +kernel
theorem dX12_sees_111 : decode cX12_sees 111 = .ok (.iload_n 3, 1) := by decide +kernel
theorem dX12_sees_112 : decode cX12_sees 112 = .ok (.bipush 11, 2) := by decide +kernel
theorem dX12_sees_114 : decode cX12_sees 114 = .ok (.if_icmp .ne 14, 3) := by decide +kernel
theorem dX12_sees_117 : decode cX12_sees 117 = .ok (.aload_n 0, 1) := by decide +kernel
theorem dX12_sees_118 : decode cX12_sees 118 = .ok (.iload_n 1, 1) := by decide +kernel
theorem dX12_sees_119 : decode cX12_sees 119 = .ok (.bipush 6, 2) := by decide +kernel
theorem dX12_sees_121 : decode cX12_sees 121 = .ok (.iconst 3, 1) := by decide +kernel
theorem dX12_sees_122 : decode cX12_sees 122 = .ok (.invokevirtual 266, 3) := by decide +kernel
theorem dX12_sees_125 : decode cX12_sees 125 = .ok (.goto 14, 3) := by decide +kernel
theorem dX12_sees_128 : decode cX12_sees 128 = .ok (.iload_n 3, 1) := by decide +kernel
theorem dX12_sees_129 : decode cX12_sees 129 = .ok (.iconst (-1), 1) := by decide +kernel
theorem dX12_sees_130 : decode cX12_sees 130 = .ok (.if_icmp .eq 9, 3) := by decide +kernel
theorem dX12_sees_133 : decode cX12_sees 133 = .ok (.aload_n 0, 1) := by decide +kernel
theorem dX12_sees_134 : decode cX12_sees 134 = .ok (.iload_n 1, 1) := by decide +kernel
theorem dX12_sees_135 : decode cX12_sees 135 = .ok (.iload_n 3, 1) := by decide +kernel
theorem dX12_sees_136 : decode cX12_sees 136 = .ok (.invokevirtual 270, 3) := by decide +kernel
theorem dX12_sees_139 : decode cX12_sees 139 = .ok (.goto 155, 3) := by decide +kernel
theorem dX12_sees_142 : decode cX12_sees 142 = .ok (.aload_n 0, 1) := by decide +kernel
theorem dX12_sees_143 : decode cX12_sees 143 = .ok (.getfield 46, 3) := by decide +kernel
theorem dX12_sees_146 : decode cX12_sees 146 = .ok (.iload_n 1, 1) := by decide +kernel
theorem dX12_sees_147 : decode cX12_sees 147 = .ok (.dup2, 1) := by decide +kernel
theorem dX12_sees_148 : decode cX12_sees 148 = .ok (.iaload, 1) := by decide +kernel
theorem dX12_sees_149 : decode cX12_sees 149 = .ok (.iconst 1, 1) := by decide +kernel
theorem dX12_sees_150 : decode cX12_sees 150 = .ok (.isub, 1) := by decide +kernel
theorem dX12_sees_151 : decode cX12_sees 151 = .ok (.iastore, 1) := by decide +kernel
theorem dX12_sees_152 : decode cX12_sees 152 = .ok (.aload_n 0, 1) := by decide +kernel
theorem dX12_sees_153 : decode cX12_sees 153 = .ok (.getfield 43, 3) := by decide +kernel
theorem dX12_sees_156 : decode cX12_sees 156 = .ok (.iload_n 1, 1) := by decide +kernel
theorem dX12_sees_157 : decode cX12_sees 157 = .ok (.iaload, 1) := by decide +kernel
theorem dX12_sees_158 : decode cX12_sees 158 = .ok (.iconst 3, 1) := by decide +kernel
theorem dX12_sees_159 : decode cX12_sees 159 = .ok (.if_icmp .ne 26, 3) := by decide +kernel
theorem dX12_sees_162 : decode cX12_sees 162 = .ok (.aload_n 0, 1) := by decide +kernel
theorem dX12_sees_163 : decode cX12_sees 163 = .ok (.getfield 43, 3) := by decide +kernel
theorem dX12_sees_166 : decode cX12_sees 166 = .ok (.iload_n 1, 1) := by decide +kernel
theorem dX12_sees_167 : decode cX12_sees 167 = .ok (.aload_n 0, 1) := by decide +kernel
theorem dX12_sees_168 : decode cX12_sees 168 = .ok (.getfield 46, 3) := by decide +kernel
theorem dX12_sees_171 : decode cX12_sees 171 = .ok (.iload_n 1, 1) := by decide +kernel
theorem dX12_sees_172 : decode cX12_sees 172 = .ok (.iaload, 1) := by decide +kernel
theorem dX12_sees_173 : decode cX12_sees 173 = .ok (.ifCond .ne 7, 3) := by decide +kernel
theorem dX12_sees_176 : decode cX12_sees 176 = .ok (.iconst 4, 1) := by decide +kernel
theorem dX12_sees_177 : decode cX12_sees 177 = .ok (.goto 4, 3) := by decide +kernel
theorem dX12_sees_180 : decode cX12_sees 180 = .ok (.iconst 3, 1) := by decide +kernel
theorem dX12_sees_181 : decode cX12_sees 181 = .ok (.iastore, 1) := by decide +kernel
theorem dX12_sees_182 : decode cX12_sees 182 = .ok (.goto 112, 3) := by decide +kernel
theorem dX12_sees_185 : decode cX12_sees 185 = .ok (.aload_n 0, 1) := by decide +kernel
theorem dX12_sees_186 : decode cX12_sees 186 = .ok (.getfield 43, 3) := by decide +kernel
theorem dX12_sees_189 : decode cX12_sees 189 = .ok (.iload_n 1, 1) := by decide +kernel
theorem dX12_sees_190 : decode cX12_sees 190 = .ok (.iaload, 1) := by decide +kernel
theorem dX12_sees_191 : decode cX12_sees 191 = .ok (.iconst 4, 1) := by decide +kernel
theorem dX12_sees_192 : decode cX12_sees 192 = .ok (.if_icmp .ne 19, 3) := by decide +kernel
theorem dX12_sees_195 : decode cX12_sees 195 = .ok (.iload_n 2, 1) := by decide +kernel
theorem dX12_sees_196 : decode cX12_sees 196 = .ok (.iconst 1, 1) := by decide +kernel
theorem dX12_sees_197 : decode cX12_sees 197 = .ok (.if_icmp .ne 14, 3) := by decide +kernel
theorem dX12_sees_200 : decode cX12_sees 200 = .ok (.aload_n 0, 1) := by decide +kernel
theorem dX12_sees_201 : decode cX12_sees 201 = .ok (.iload_n 1, 1) := by decide +kernel
theorem dX12_sees_202 : decode cX12_sees 202 = .ok (.iconst 5, 1) := by decide +kernel
theorem dX12_sees_203 : decode cX12_sees 203 = .ok (.bipush 7, 2) := by decide +kernel
theorem dX12_sees_205 : decode cX12_sees 205 = .ok (.invokevirtual 266, 3) := by decide +kernel
theorem dX12_sees_208 : decode cX12_sees 208 = .ok (.goto 86, 3) := by decide +kernel
theorem dX12_sees_211 : decode cX12_sees 211 = .ok (.aload_n 0, 1) := by decide +kernel
theorem dX12_sees_212 : decode cX12_sees 212 = .ok (.getfield 43, 3) := by decide +kernel
theorem dX12_sees_215 : decode cX12_sees 215 = .ok (.iload_n 1, 1) := by decide +kernel
theorem dX12_sees_216 : decode cX12_sees 216 = .ok (.iaload, 1) := by decide +kernel
theorem dX12_sees_217 : decode cX12_sees 217 = .ok (.iconst 5, 1) := by decide +kernel
theorem dX12_sees_218 : decode cX12_sees 218 = .ok (.if_icmp .ne 29, 3) := by decide +kernel
theorem dX12_sees_221 : decode cX12_sees 221 = .ok (.iload_n 2, 1) := by decide +kernel
theorem dX12_sees_222 : decode cX12_sees 222 = .ok (.ifCond .ne 25, 3) := by decide +kernel
theorem dX12_sees_225 : decode cX12_sees 225 = .ok (.aload_n 0, 1) := by decide +kernel
theorem dX12_sees_226 : decode cX12_sees 226 = .ok (.iload_n 1, 1) := by decide +kernel
theorem dX12_sees_227 : decode cX12_sees 227 = .ok (.aload_n 0, 1) := by decide +kernel
theorem dX12_sees_228 : decode cX12_sees 228 = .ok (.getfield 46, 3) := by decide +kernel
theorem dX12_sees_231 : decode cX12_sees 231 = .ok (.iload_n 1, 1) := by decide +kernel
theorem dX12_sees_232 : decode cX12_sees 232 = .ok (.iaload, 1) := by decide +kernel
theorem dX12_sees_233 : decode cX12_sees 233 = .ok (.ifCond .ne 7, 3) := by decide +kernel
theorem dX12_sees_236 : decode cX12_sees 236 = .ok (.iconst 5, 1) := by decide +kernel
theorem dX12_sees_237 : decode cX12_sees 237 = .ok (.goto 4, 3) := by decide +kernel
theorem dX12_sees_240 : decode cX12_sees 240 = .ok (.iconst 2, 1) := by decide +kernel
theorem dX12_sees_241 : decode cX12_sees 241 = .ok (.invokevirtual 270, 3) := by decide +kernel
theorem dX12_sees_244 : decode cX12_sees 244 = .ok (.goto 50, 3) := by decide +kernel
theorem dX12_sees_247 : decode cX12_sees 247 = .ok (.aload_n 0, 1) := by decide +kernel
theorem dX12_sees_248 : decode cX12_sees 248 = .ok (.getfield 43, 3) := by decide +kernel
theorem dX12_sees_251 : decode cX12_sees 251 = .ok (.iload_n 1, 1) := by decide +kernel
theorem dX12_sees_252 : decode cX12_sees 252 = .ok (.iaload, 1) := by decide +kernel
theorem dX12_sees_253 : decode cX12_sees 253 = .ok (.iconst 5, 1) := by decide +kernel
theorem dX12_sees_254 : decode cX12_sees 254 = .ok (.if_icmp .ne 23, 3) := by decide +kernel
theorem dX12_sees_257 : decode cX12_sees 257 = .ok (.aload_n 0, 1) := by decide +kernel
theorem dX12_sees_258 : decode cX12_sees 258 = .ok (.getfield 46, 3) := by decide +kernel
theorem dX12_sees_261 : decode cX12_sees 261 = .ok (.iload_n 1, 1) := by decide +kernel
theorem dX12_sees_262 : decode cX12_sees 262 = .ok (.iaload, 1) := by decide +kernel
theorem dX12_sees_263 : decode cX12_sees 263 = .ok (.ifCond .ne 14, 3) := by decide +kernel
theorem dX12_sees_266 : decode cX12_sees 266 = .ok (.aload_n 0, 1) := by decide +kernel
theorem dX12_sees_267 : decode cX12_sees 267 = .ok (.iload_n 1, 1) := by decide +kernel
theorem dX12_sees_268 : decode cX12_sees 268 = .ok (.bipush 6, 2) := by decide +kernel
theorem dX12_sees_270 : decode cX12_sees 270 = .ok (.iconst 3, 1) := by decide +kernel
theorem dX12_sees_271 : decode cX12_sees 271 = .ok (.invokevirtual 266, 3) := by decide +kernel
theorem dX12_sees_274 : decode cX12_sees 274 = .ok (.goto 20, 3) := by decide +kernel
theorem dX12_sees_277 : decode cX12_sees 277 = .ok (.aload_n 0, 1) := by decide +kernel
theorem dX12_sees_278 : decode cX12_sees 278 = .ok (.getfield 43, 3) := by decide +kernel
theorem dX12_sees_281 : decode cX12_sees 281 = .ok (.iload_n 1, 1) := by decide +kernel
theorem dX12_sees_282 : decode cX12_sees 282 = .ok (.iaload, 1) := by decide +kernel
theorem dX12_sees_283 : decode cX12_sees 283 = .ok (.bipush 6, 2) := by decide +kernel
theorem dX12_sees_285 : decode cX12_sees 285 = .ok (.if_icmp .ne 9, 3) := by decide +kernel
theorem dX12_sees_288 : decode cX12_sees 288 = .ok (.aload_n 0, 1) := by decide +kernel
theorem dX12_sees_289 : decode cX12_sees 289 = .ok (.iload_n 1, 1) := by decide +kernel
theorem dX12_sees_290 : decode cX12_sees 290 = .ok (.iload_n 2, 1) := by decide +kernel
theorem dX12_sees_291 : decode cX12_sees 291 = .ok (.invokevirtual 273, 3) := by decide +kernel
theorem dX12_sees_294 : decode cX12_sees 294 = .ok (.return_, 1) := by decide +kernel
theorem cwX12_sees : mw_cwV yX12_sees cX12_sees 4 (none) 2 := ⟨⟨wd_15, wd_3739, by decide +kernel⟩, wd_3738, sl_250⟩
set_option maxHeartbeats 4000000 in
set_option maxRecDepth 100000 in
theorem tX12_sees (l : Launch) (G : mwG) (ad : Nat → Nat) (fu : Nat) (a1 : Int32) (a2 : Int32) (M : mwM) (L : mwL) {M0 : mwM} {L0 : mwL} (hD : DX12_sees fu a1 a2 M L = some (M0, L0)) : Met l yX12_sees (Cond.code yX12_sees cX12_sees 4 (none) :: GT) ({ frames := 5, cells := 0, slots := 0, locals := 130 }) (mw_Pre G ad NF TF FF M L [.ref (ad 821), .int a1, .int a2]) (mw_Qv G ad NF TF FF (mw_eqV M0 L0)) 0 0 (mw_fr G) := by
  refine mw_enter (by decide) (Nat.le_of_ble_eq_true rfl) ?_
  intro p e s m below meth c ls C hr hlocks hnm hw hl
  have hl : lv_has ls 4 [(0, .ref (ad 821)), (1, .int a1), (2, .int a2)] := hl
  have hb294 : ∀ (M : mwM) (L : mwL) (H : Heap) (locs : List Loc) (ls : Array Slot), fX12_sees_b294 fu a1 a2 M L = some (M0, L0) → mw_W G ad NF TF FF M L H locs → lv_has ls 4 [] → W p l e ({ frames := 5, cells := 0, slots := 0, locals := 130 }) s m [.ref (ad 821), .int a1, .int a2].toArray below meth c H locs 0 0 (MQ below (mw_Qv G ad NF TF FF (mw_eqV M0 L0)) [.ref (ad 821), .int a1, .int a2].toArray s 0 0 (mw_fr G)) (F0 m 294 ls []) := by
    intro M L H locs ls hD hw hl
    unfold fX12_sees_b294 at hD
    exact mr_vret C hr hlocks hw (Option.some.inj hD) dX12_sees_294
  have hb139 : ∀ (M : mwM) (L : mwL) (H : Heap) (locs : List Loc) (ls : Array Slot), fX12_sees_b139 fu a1 a2 M L = some (M0, L0) → mw_W G ad NF TF FF M L H locs → lv_has ls 4 [] → W p l e ({ frames := 5, cells := 0, slots := 0, locals := 130 }) s m [.ref (ad 821), .int a1, .int a2].toArray below meth c H locs 0 0 (MQ below (mw_Qv G ad NF TF FF (mw_eqV M0 L0)) [.ref (ad 821), .int a1, .int a2].toArray s 0 0 (mw_fr G)) (F0 m 139 ls []) := by
    intro M L H locs ls hD hw hl
    unfold fX12_sees_b139 at hD
    refine lv_goto (tgt := 294) C.1.1 C.1.2.1 dX12_sees_139 (by decide) ?_
    exact hb294 M L _ _ ls hD hw (lv_sub hl [] rfl)
  have hb181 : ∀ (s2 : Int32) (M : mwM) (L : mwL) (H : Heap) (locs : List Loc) (ls : Array Slot), fX12_sees_b181 fu a1 a2 s2 M L = some (M0, L0) → mw_W G ad NF TF FF M L H locs → lv_has ls 4 [] → W p l e ({ frames := 5, cells := 0, slots := 0, locals := 130 }) s m [.ref (ad 821), .int a1, .int a2].toArray below meth c H locs 0 0 (MQ below (mw_Qv G ad NF TF FF (mw_eqV M0 L0)) [.ref (ad 821), .int a1, .int a2].toArray s 0 0 (mw_fr G)) (F0 m 181 ls [.int s2, .int a1, .ref (ad 831)]) := by
    intro s2 M L H locs ls hD hw hl
    unfold fX12_sees_b181 at hD
    obtain ⟨q38, hD⟩ := g_ck hD
    obtain ⟨M39, eM39, hD⟩ := g_let hD
    refine mr_iast C hw (by decide) tf_831 q38 dX12_sees_181 (fun H locs hw => ?_)
    replace hw : mw_W G ad NF TF FF M39 L H locs := by rw [eM39]; exact hw
    refine lv_goto (tgt := 294) C.1.1 C.1.2.1 dX12_sees_182 (by decide) ?_
    exact hb294 M39 L _ _ ls hD hw (lv_sub hl [] rfl)
  have hb241 : ∀ (s2 : Int32) (M : mwM) (L : mwL) (H : Heap) (locs : List Loc) (ls : Array Slot), fX12_sees_b241 fu a1 a2 s2 M L = some (M0, L0) → mw_W G ad NF TF FF M L H locs → lv_has ls 4 [] → W p l e ({ frames := 5, cells := 0, slots := 0, locals := 130 }) s m [.ref (ad 821), .int a1, .int a2].toArray below meth c H locs 0 0 (MQ below (mw_Qv G ad NF TF FF (mw_eqV M0 L0)) [.ref (ad 821), .int a1, .int a2].toArray s 0 0 (mw_fr G)) (F0 m 241 ls [.int s2, .int a1, .ref (ad 821)]) := by
    intro s2 M L H locs ls hD hw hl
    unfold fX12_sees_b241 at hD
    obtain ⟨M45, L46, h1, hD⟩ := g_b2 hD
    refine md_cvV (As := [.int a1, .int s2]) (rest := []) C hw (tX12_wrong l G ad fu a1 s2 M L h1) kc_12 (by decide) tf_821 wd_3748 cwX12_wrong ⟨Nat.le_of_ble_eq_true rfl, Nat.le_of_ble_eq_true rfl⟩ rfl hl.1 (Nat.le_of_ble_eq_true rfl) dX12_sees_241 rfl rfl ⟨Nat.zero_le _, Nat.zero_le _⟩ rfl (fun H locs hw => ?_)
    refine lv_goto (tgt := 294) C.1.1 C.1.2.1 dX12_sees_244 (by decide) ?_
    exact hb294 M45 L46 _ _ ls hD hw (lv_sub hl [] rfl)
  have hb277 : ∀ (M : mwM) (L : mwL) (H : Heap) (locs : List Loc) (ls : Array Slot), fX12_sees_b277 fu a1 a2 M L = some (M0, L0) → mw_W G ad NF TF FF M L H locs → lv_has ls 4 [(0, .ref (ad 821)), (1, .int a1), (2, .int a2)] → W p l e ({ frames := 5, cells := 0, slots := 0, locals := 130 }) s m [.ref (ad 821), .int a1, .int a2].toArray below meth c H locs 0 0 (MQ below (mw_Qv G ad NF TF FF (mw_eqV M0 L0)) [.ref (ad 821), .int a1, .int a2].toArray s 0 0 (mw_fr G)) (F0 m 277 ls []) := by
    intro M L H locs ls hD hw hl
    unfold fX12_sees_b277 at hD
    refine lv_aload_n C.1.1 C.1.2.1 dX12_sees_277 rfl (lv_at hl 0 rfl) ?_
    refine mr_getR C hw kc_12 14 (by decide) tf_821 ff_821_14 wd_2114 dX12_sees_278 (by decide) rfl ?_
    refine lv_iload_n C.1.1 C.1.2.1 dX12_sees_281 rfl (lv_at hl 1 rfl) ?_
    obtain ⟨q53, hD⟩ := g_ck hD
    refine mr_iald C hw (by decide) tf_831 q53 dX12_sees_282 ?_
    refine lv_bipush (v := 6) C.1.1 C.1.2.1 dX12_sees_283 (by decide) ?_
    refine lv_icmp_ne (tgt := 294) C.1.1 C.1.2.1 dX12_sees_285 (by decide) (fun c54 => ?_) (fun c54 => ?_)
    · replace hD := g_neg c54 hD
      exact hb294 M L _ _ ls hD hw (lv_sub hl [] rfl)
    · replace hD := g_pos c54 hD
      refine lv_aload_n C.1.1 C.1.2.1 dX12_sees_288 rfl (lv_at hl 0 rfl) ?_
      refine lv_iload_n C.1.1 C.1.2.1 dX12_sees_289 rfl (lv_at hl 1 rfl) ?_
      refine lv_iload_n C.1.1 C.1.2.1 dX12_sees_290 rfl (lv_at hl 2 rfl) ?_
      obtain ⟨M55, L56, h1, hD⟩ := g_b2 hD
      refine md_cvV (As := [.int a1, .int a2]) (rest := []) C hw (tX12_pauses l G ad fu a1 a2 M L h1) kc_12 (by decide) tf_821 wd_3764 cwX12_pauses ⟨Nat.le_of_ble_eq_true rfl, Nat.le_of_ble_eq_true rfl⟩ rfl hl.1 (Nat.le_of_ble_eq_true rfl) dX12_sees_291 rfl rfl ⟨Nat.zero_le _, Nat.zero_le _⟩ rfl (fun H locs hw => ?_)
      exact hb294 M55 L56 _ _ ls hD hw (lv_sub hl [] rfl)
  have hb247 : ∀ (M : mwM) (L : mwL) (H : Heap) (locs : List Loc) (ls : Array Slot), fX12_sees_b247 fu a1 a2 M L = some (M0, L0) → mw_W G ad NF TF FF M L H locs → lv_has ls 4 [(0, .ref (ad 821)), (1, .int a1), (2, .int a2)] → W p l e ({ frames := 5, cells := 0, slots := 0, locals := 130 }) s m [.ref (ad 821), .int a1, .int a2].toArray below meth c H locs 0 0 (MQ below (mw_Qv G ad NF TF FF (mw_eqV M0 L0)) [.ref (ad 821), .int a1, .int a2].toArray s 0 0 (mw_fr G)) (F0 m 247 ls []) := by
    intro M L H locs ls hD hw hl
    unfold fX12_sees_b247 at hD
    refine lv_aload_n C.1.1 C.1.2.1 dX12_sees_247 rfl (lv_at hl 0 rfl) ?_
    refine mr_getR C hw kc_12 14 (by decide) tf_821 ff_821_14 wd_2114 dX12_sees_248 (by decide) rfl ?_
    refine lv_iload_n C.1.1 C.1.2.1 dX12_sees_251 rfl (lv_at hl 1 rfl) ?_
    obtain ⟨q47, hD⟩ := g_ck hD
    refine mr_iald C hw (by decide) tf_831 q47 dX12_sees_252 ?_
    refine lv_iconst (v := 5) C.1.1 C.1.2.1 dX12_sees_253 (by decide) ?_
    refine lv_icmp_ne (tgt := 277) C.1.1 C.1.2.1 dX12_sees_254 (by decide) (fun c48 => ?_) (fun c48 => ?_)
    · replace hD := g_neg c48 hD
      exact hb277 M L _ _ ls hD hw (lv_sub hl [0, 1, 2] rfl)
    · replace hD := g_pos c48 hD
      refine lv_aload_n C.1.1 C.1.2.1 dX12_sees_257 rfl (lv_at hl 0 rfl) ?_
      refine mr_getR C hw kc_12 15 (by decide) tf_821 ff_821_15 wd_2115 dX12_sees_258 (by decide) rfl ?_
      refine lv_iload_n C.1.1 C.1.2.1 dX12_sees_261 rfl (lv_at hl 1 rfl) ?_
      obtain ⟨q49, hD⟩ := g_ck hD
      refine mr_iald C hw (by decide) tf_832 q49 dX12_sees_262 ?_
      refine lv_if_ne (tgt := 277) C.1.1 C.1.2.1 dX12_sees_263 (by decide) (fun c50 => ?_) (fun c50 => ?_)
      · replace hD := g_neg c50 hD
        exact hb277 M L _ _ ls hD hw (lv_sub hl [0, 1, 2] rfl)
      · replace hD := g_pos c50 hD
        refine lv_aload_n C.1.1 C.1.2.1 dX12_sees_266 rfl (lv_at hl 0 rfl) ?_
        refine lv_iload_n C.1.1 C.1.2.1 dX12_sees_267 rfl (lv_at hl 1 rfl) ?_
        refine lv_bipush (v := 6) C.1.1 C.1.2.1 dX12_sees_268 (by decide) ?_
        refine lv_iconst (v := 3) C.1.1 C.1.2.1 dX12_sees_270 (by decide) ?_
        obtain ⟨M51, L52, h1, hD⟩ := g_b2 hD
        refine md_cvV (As := [.int a1, .int 6, .int 3]) (rest := []) C hw (tX12_go l G ad fu a1 6 3 M L h1) kc_12 (by decide) tf_821 wd_3752 cwX12_go ⟨Nat.le_of_ble_eq_true rfl, Nat.le_of_ble_eq_true rfl⟩ rfl hl.1 (Nat.le_of_ble_eq_true rfl) dX12_sees_271 rfl rfl ⟨Nat.zero_le _, Nat.zero_le _⟩ rfl (fun H locs hw => ?_)
        refine lv_goto (tgt := 294) C.1.1 C.1.2.1 dX12_sees_274 (by decide) ?_
        exact hb294 M51 L52 _ _ ls hD hw (lv_sub hl [] rfl)
  have hb211 : ∀ (M : mwM) (L : mwL) (H : Heap) (locs : List Loc) (ls : Array Slot), fX12_sees_b211 fu a1 a2 M L = some (M0, L0) → mw_W G ad NF TF FF M L H locs → lv_has ls 4 [(0, .ref (ad 821)), (1, .int a1), (2, .int a2)] → W p l e ({ frames := 5, cells := 0, slots := 0, locals := 130 }) s m [.ref (ad 821), .int a1, .int a2].toArray below meth c H locs 0 0 (MQ below (mw_Qv G ad NF TF FF (mw_eqV M0 L0)) [.ref (ad 821), .int a1, .int a2].toArray s 0 0 (mw_fr G)) (F0 m 211 ls []) := by
    intro M L H locs ls hD hw hl
    unfold fX12_sees_b211 at hD
    refine lv_aload_n C.1.1 C.1.2.1 dX12_sees_211 rfl (lv_at hl 0 rfl) ?_
    refine mr_getR C hw kc_12 14 (by decide) tf_821 ff_821_14 wd_2114 dX12_sees_212 (by decide) rfl ?_
    refine lv_iload_n C.1.1 C.1.2.1 dX12_sees_215 rfl (lv_at hl 1 rfl) ?_
    obtain ⟨q40, hD⟩ := g_ck hD
    refine mr_iald C hw (by decide) tf_831 q40 dX12_sees_216 ?_
    refine lv_iconst (v := 5) C.1.1 C.1.2.1 dX12_sees_217 (by decide) ?_
    refine lv_icmp_ne (tgt := 247) C.1.1 C.1.2.1 dX12_sees_218 (by decide) (fun c41 => ?_) (fun c41 => ?_)
    · replace hD := g_neg c41 hD
      exact hb247 M L _ _ ls hD hw (lv_sub hl [0, 1, 2] rfl)
    · replace hD := g_pos c41 hD
      refine lv_iload_n C.1.1 C.1.2.1 dX12_sees_221 rfl (lv_at hl 2 rfl) ?_
      refine lv_if_ne (tgt := 247) C.1.1 C.1.2.1 dX12_sees_222 (by decide) (fun c42 => ?_) (fun c42 => ?_)
      · replace hD := g_neg c42 hD
        exact hb247 M L _ _ ls hD hw (lv_sub hl [0, 1, 2] rfl)
      · replace hD := g_pos c42 hD
        refine lv_aload_n C.1.1 C.1.2.1 dX12_sees_225 rfl (lv_at hl 0 rfl) ?_
        refine lv_iload_n C.1.1 C.1.2.1 dX12_sees_226 rfl (lv_at hl 1 rfl) ?_
        refine lv_aload_n C.1.1 C.1.2.1 dX12_sees_227 rfl (lv_at hl 0 rfl) ?_
        refine mr_getR C hw kc_12 15 (by decide) tf_821 ff_821_15 wd_2115 dX12_sees_228 (by decide) rfl ?_
        refine lv_iload_n C.1.1 C.1.2.1 dX12_sees_231 rfl (lv_at hl 1 rfl) ?_
        obtain ⟨q43, hD⟩ := g_ck hD
        refine mr_iald C hw (by decide) tf_832 q43 dX12_sees_232 ?_
        refine lv_if_ne (tgt := 240) C.1.1 C.1.2.1 dX12_sees_233 (by decide) (fun c44 => ?_) (fun c44 => ?_)
        · replace hD := g_neg c44 hD
          refine lv_iconst (v := 2) C.1.1 C.1.2.1 dX12_sees_240 (by decide) ?_
          exact hb241 2 M L _ _ ls hD hw (lv_sub hl [] rfl)
        · replace hD := g_pos c44 hD
          refine lv_iconst (v := 5) C.1.1 C.1.2.1 dX12_sees_236 (by decide) ?_
          refine lv_goto (tgt := 241) C.1.1 C.1.2.1 dX12_sees_237 (by decide) ?_
          exact hb241 5 M L _ _ ls hD hw (lv_sub hl [] rfl)
  have hb56 : ∀ (M : mwM) (L : mwL) (H : Heap) (locs : List Loc) (ls : Array Slot), fX12_sees_b56 fu a1 a2 M L = some (M0, L0) → mw_W G ad NF TF FF M L H locs → lv_has ls 4 [(0, .ref (ad 821)), (1, .int a1), (2, .int a2)] → W p l e ({ frames := 5, cells := 0, slots := 0, locals := 130 }) s m [.ref (ad 821), .int a1, .int a2].toArray below meth c H locs 0 0 (MQ below (mw_Qv G ad NF TF FF (mw_eqV M0 L0)) [.ref (ad 821), .int a1, .int a2].toArray s 0 0 (mw_fr G)) (F0 m 56 ls []) := by
    intro M L H locs ls hD hw hl
    unfold fX12_sees_b56 at hD
    refine lv_aload_n C.1.1 C.1.2.1 dX12_sees_56 rfl (lv_at hl 0 rfl) ?_
    refine mr_getR C hw kc_12 14 (by decide) tf_821 ff_821_14 wd_2114 dX12_sees_57 (by decide) rfl ?_
    refine lv_iload_n C.1.1 C.1.2.1 dX12_sees_60 rfl (lv_at hl 1 rfl) ?_
    obtain ⟨q6, hD⟩ := g_ck hD
    refine mr_iald C hw (by decide) tf_831 q6 dX12_sees_61 ?_
    refine lv_iconst (v := 1) C.1.1 C.1.2.1 dX12_sees_62 (by decide) ?_
    refine lv_icmp_ne (tgt := 75) C.1.1 C.1.2.1 dX12_sees_63 (by decide) (fun c7 => ?_) (fun c7 => ?_)
    · replace hD := g_neg c7 hD
      refine lv_aload_n C.1.1 C.1.2.1 dX12_sees_75 rfl (lv_at hl 0 rfl) ?_
      refine mr_getR C hw kc_12 14 (by decide) tf_821 ff_821_14 wd_2114 dX12_sees_76 (by decide) rfl ?_
      refine lv_iload_n C.1.1 C.1.2.1 dX12_sees_79 rfl (lv_at hl 1 rfl) ?_
      obtain ⟨q8, hD⟩ := g_ck hD
      refine mr_iald C hw (by decide) tf_831 q8 dX12_sees_80 ?_
      refine lv_iconst (v := 2) C.1.1 C.1.2.1 dX12_sees_81 (by decide) ?_
      refine lv_icmp_ne (tgt := 142) C.1.1 C.1.2.1 dX12_sees_82 (by decide) (fun c9 => ?_) (fun c9 => ?_)
      · replace hD := g_neg c9 hD
        refine lv_aload_n C.1.1 C.1.2.1 dX12_sees_142 rfl (lv_at hl 0 rfl) ?_
        refine mr_getR C hw kc_12 15 (by decide) tf_821 ff_821_15 wd_2115 dX12_sees_143 (by decide) rfl ?_
        refine lv_iload_n C.1.1 C.1.2.1 dX12_sees_146 rfl (lv_at hl 1 rfl) ?_
        refine lv_dup2_11 C.1.1 C.1.2.1 dX12_sees_147 rfl rfl ?_
        obtain ⟨q10, hD⟩ := g_ck hD
        refine mr_iald C hw (by decide) tf_832 q10 dX12_sees_148 ?_
        refine lv_iconst (v := 1) C.1.1 C.1.2.1 dX12_sees_149 (by decide) ?_
        refine lv_isub C.1.1 C.1.2.1 dX12_sees_150 ?_
        obtain ⟨q11, hD⟩ := g_ck hD
        obtain ⟨M12, eM12, hD⟩ := g_let hD
        refine mr_iast C hw (by decide) tf_832 q11 dX12_sees_151 (fun H locs hw => ?_)
        replace hw : mw_W G ad NF TF FF M12 L H locs := by rw [eM12]; exact hw
        refine lv_aload_n C.1.1 C.1.2.1 dX12_sees_152 rfl (lv_at hl 0 rfl) ?_
        refine mr_getR C hw kc_12 14 (by decide) tf_821 ff_821_14 wd_2114 dX12_sees_153 (by decide) rfl ?_
        refine lv_iload_n C.1.1 C.1.2.1 dX12_sees_156 rfl (lv_at hl 1 rfl) ?_
        obtain ⟨q13, hD⟩ := g_ck hD
        refine mr_iald C hw (by decide) tf_831 q13 dX12_sees_157 ?_
        refine lv_iconst (v := 3) C.1.1 C.1.2.1 dX12_sees_158 (by decide) ?_
        refine lv_icmp_ne (tgt := 185) C.1.1 C.1.2.1 dX12_sees_159 (by decide) (fun c14 => ?_) (fun c14 => ?_)
        · replace hD := g_neg c14 hD
          refine lv_aload_n C.1.1 C.1.2.1 dX12_sees_185 rfl (lv_at hl 0 rfl) ?_
          refine mr_getR C hw kc_12 14 (by decide) tf_821 ff_821_14 wd_2114 dX12_sees_186 (by decide) rfl ?_
          refine lv_iload_n C.1.1 C.1.2.1 dX12_sees_189 rfl (lv_at hl 1 rfl) ?_
          obtain ⟨q15, hD⟩ := g_ck hD
          refine mr_iald C hw (by decide) tf_831 q15 dX12_sees_190 ?_
          refine lv_iconst (v := 4) C.1.1 C.1.2.1 dX12_sees_191 (by decide) ?_
          refine lv_icmp_ne (tgt := 211) C.1.1 C.1.2.1 dX12_sees_192 (by decide) (fun c16 => ?_) (fun c16 => ?_)
          · replace hD := g_neg c16 hD
            exact hb211 M12 L _ _ ls hD hw (lv_sub hl [0, 1, 2] rfl)
          · replace hD := g_pos c16 hD
            refine lv_iload_n C.1.1 C.1.2.1 dX12_sees_195 rfl (lv_at hl 2 rfl) ?_
            refine lv_iconst (v := 1) C.1.1 C.1.2.1 dX12_sees_196 (by decide) ?_
            refine lv_icmp_ne (tgt := 211) C.1.1 C.1.2.1 dX12_sees_197 (by decide) (fun c17 => ?_) (fun c17 => ?_)
            · replace hD := g_neg c17 hD
              exact hb211 M12 L _ _ ls hD hw (lv_sub hl [0, 1, 2] rfl)
            · replace hD := g_pos c17 hD
              refine lv_aload_n C.1.1 C.1.2.1 dX12_sees_200 rfl (lv_at hl 0 rfl) ?_
              refine lv_iload_n C.1.1 C.1.2.1 dX12_sees_201 rfl (lv_at hl 1 rfl) ?_
              refine lv_iconst (v := 5) C.1.1 C.1.2.1 dX12_sees_202 (by decide) ?_
              refine lv_bipush (v := 7) C.1.1 C.1.2.1 dX12_sees_203 (by decide) ?_
              obtain ⟨M18, L19, h1, hD⟩ := g_b2 hD
              refine md_cvV (As := [.int a1, .int 5, .int 7]) (rest := []) C hw (tX12_go l G ad fu a1 5 7 M12 L h1) kc_12 (by decide) tf_821 wd_3752 cwX12_go ⟨Nat.le_of_ble_eq_true rfl, Nat.le_of_ble_eq_true rfl⟩ rfl hl.1 (Nat.le_of_ble_eq_true rfl) dX12_sees_205 rfl rfl ⟨Nat.zero_le _, Nat.zero_le _⟩ rfl (fun H locs hw => ?_)
              refine lv_goto (tgt := 294) C.1.1 C.1.2.1 dX12_sees_208 (by decide) ?_
              exact hb294 M18 L19 _ _ ls hD hw (lv_sub hl [] rfl)
        · replace hD := g_pos c14 hD
          refine lv_aload_n C.1.1 C.1.2.1 dX12_sees_162 rfl (lv_at hl 0 rfl) ?_
          refine mr_getR C hw kc_12 14 (by decide) tf_821 ff_821_14 wd_2114 dX12_sees_163 (by decide) rfl ?_
          refine lv_iload_n C.1.1 C.1.2.1 dX12_sees_166 rfl (lv_at hl 1 rfl) ?_
          refine lv_aload_n C.1.1 C.1.2.1 dX12_sees_167 rfl (lv_at hl 0 rfl) ?_
          refine mr_getR C hw kc_12 15 (by decide) tf_821 ff_821_15 wd_2115 dX12_sees_168 (by decide) rfl ?_
          refine lv_iload_n C.1.1 C.1.2.1 dX12_sees_171 rfl (lv_at hl 1 rfl) ?_
          obtain ⟨q20, hD⟩ := g_ck hD
          refine mr_iald C hw (by decide) tf_832 q20 dX12_sees_172 ?_
          refine lv_if_ne (tgt := 180) C.1.1 C.1.2.1 dX12_sees_173 (by decide) (fun c21 => ?_) (fun c21 => ?_)
          · replace hD := g_neg c21 hD
            refine lv_iconst (v := 3) C.1.1 C.1.2.1 dX12_sees_180 (by decide) ?_
            exact hb181 3 M12 L _ _ ls hD hw (lv_sub hl [] rfl)
          · replace hD := g_pos c21 hD
            refine lv_iconst (v := 4) C.1.1 C.1.2.1 dX12_sees_176 (by decide) ?_
            refine lv_goto (tgt := 181) C.1.1 C.1.2.1 dX12_sees_177 (by decide) ?_
            exact hb181 4 M12 L _ _ ls hD hw (lv_sub hl [] rfl)
      · replace hD := g_pos c9 hD
        refine lv_aload_n C.1.1 C.1.2.1 dX12_sees_85 rfl (lv_at hl 0 rfl) ?_
        refine lv_iload_n C.1.1 C.1.2.1 dX12_sees_86 rfl (lv_at hl 1 rfl) ?_
        refine lv_iload_n C.1.1 C.1.2.1 dX12_sees_87 rfl (lv_at hl 2 rfl) ?_
        obtain ⟨M22, L23, h1, hD⟩ := g_b2 hD
        refine md_cvV (As := [.int a1, .int a2]) (rest := []) C hw (tX12_see l G ad fu a1 a2 M L h1) kc_12 (by decide) tf_821 wd_3744 cwX12_see ⟨Nat.le_of_ble_eq_true rfl, Nat.le_of_ble_eq_true rfl⟩ rfl hl.1 (Nat.le_of_ble_eq_true rfl) dX12_sees_88 rfl rfl ⟨Nat.zero_le _, Nat.zero_le _⟩ rfl (fun H locs hw => ?_)
        refine lv_aload_n C.1.1 C.1.2.1 dX12_sees_91 rfl (lv_at hl 0 rfl) ?_
        refine lv_iload_n C.1.1 C.1.2.1 dX12_sees_92 rfl (lv_at hl 1 rfl) ?_
        obtain ⟨r26, M24, L25, h1, hD⟩ := g_b3 hD
        refine md_cvI (As := [.int a1]) (rest := []) C hw (tX12_read l G ad fu a1 M22 L23 h1) kc_12 (by decide) tf_821 wd_3756 cwX12_read ⟨Nat.le_of_ble_eq_true rfl, Nat.le_of_ble_eq_true rfl⟩ rfl hl.1 (Nat.le_of_ble_eq_true rfl) dX12_sees_93 rfl rfl ⟨Nat.zero_le _, Nat.zero_le _⟩ rfl (fun H locs hw => ?_)
        refine lv_istore_n (lv' := [(3, .int r26), (0, .ref (ad 821)), (1, .int a1), (2, .int a2)]) C.1.1 C.1.2.1 dX12_sees_96 rfl hl (by decide) rfl (fun ls hl => ?_)
        refine lv_iload_n C.1.1 C.1.2.1 dX12_sees_97 rfl (lv_at hl 0 rfl) ?_
        refine lv_bipush (v := 10) C.1.1 C.1.2.1 dX12_sees_98 (by decide) ?_
        refine lv_icmp_ne (tgt := 111) C.1.1 C.1.2.1 dX12_sees_100 (by decide) (fun c27 => ?_) (fun c27 => ?_)
        · replace hD := g_neg c27 hD
          refine lv_iload_n C.1.1 C.1.2.1 dX12_sees_111 rfl (lv_at hl 0 rfl) ?_
          refine lv_bipush (v := 11) C.1.1 C.1.2.1 dX12_sees_112 (by decide) ?_
          refine lv_icmp_ne (tgt := 128) C.1.1 C.1.2.1 dX12_sees_114 (by decide) (fun c28 => ?_) (fun c28 => ?_)
          · replace hD := g_neg c28 hD
            refine lv_iload_n C.1.1 C.1.2.1 dX12_sees_128 rfl (lv_at hl 0 rfl) ?_
            refine lv_iconst (v := (-1)) C.1.1 C.1.2.1 dX12_sees_129 (by decide) ?_
            refine lv_icmp_eq (tgt := 139) C.1.1 C.1.2.1 dX12_sees_130 (by decide) (fun c29 => ?_) (fun c29 => ?_)
            · replace hD := g_pos c29 hD
              exact hb139 M24 L25 _ _ ls hD hw (lv_sub hl [] rfl)
            · replace hD := g_neg c29 hD
              refine lv_aload_n C.1.1 C.1.2.1 dX12_sees_133 rfl (lv_at hl 1 rfl) ?_
              refine lv_iload_n C.1.1 C.1.2.1 dX12_sees_134 rfl (lv_at hl 2 rfl) ?_
              refine lv_iload_n C.1.1 C.1.2.1 dX12_sees_135 rfl (lv_at hl 0 rfl) ?_
              obtain ⟨M30, L31, h1, hD⟩ := g_b2 hD
              refine md_cvV (As := [.int a1, .int r26]) (rest := []) C hw (tX12_wrong l G ad fu a1 r26 M24 L25 h1) kc_12 (by decide) tf_821 wd_3748 cwX12_wrong ⟨Nat.le_of_ble_eq_true rfl, Nat.le_of_ble_eq_true rfl⟩ rfl hl.1 (Nat.le_of_ble_eq_true rfl) dX12_sees_136 rfl rfl ⟨Nat.zero_le _, Nat.zero_le _⟩ rfl (fun H locs hw => ?_)
              exact hb139 M30 L31 _ _ ls hD hw (lv_sub hl [] rfl)
          · replace hD := g_pos c28 hD
            refine lv_aload_n C.1.1 C.1.2.1 dX12_sees_117 rfl (lv_at hl 1 rfl) ?_
            refine lv_iload_n C.1.1 C.1.2.1 dX12_sees_118 rfl (lv_at hl 2 rfl) ?_
            refine lv_bipush (v := 6) C.1.1 C.1.2.1 dX12_sees_119 (by decide) ?_
            refine lv_iconst (v := 3) C.1.1 C.1.2.1 dX12_sees_121 (by decide) ?_
            obtain ⟨M32, L33, h1, hD⟩ := g_b2 hD
            refine md_cvV (As := [.int a1, .int 6, .int 3]) (rest := []) C hw (tX12_go l G ad fu a1 6 3 M24 L25 h1) kc_12 (by decide) tf_821 wd_3752 cwX12_go ⟨Nat.le_of_ble_eq_true rfl, Nat.le_of_ble_eq_true rfl⟩ rfl hl.1 (Nat.le_of_ble_eq_true rfl) dX12_sees_122 rfl rfl ⟨Nat.zero_le _, Nat.zero_le _⟩ rfl (fun H locs hw => ?_)
            refine lv_goto (tgt := 139) C.1.1 C.1.2.1 dX12_sees_125 (by decide) ?_
            exact hb139 M32 L33 _ _ ls hD hw (lv_sub hl [] rfl)
        · replace hD := g_pos c27 hD
          refine lv_aload_n C.1.1 C.1.2.1 dX12_sees_103 rfl (lv_at hl 1 rfl) ?_
          refine lv_iload_n C.1.1 C.1.2.1 dX12_sees_104 rfl (lv_at hl 2 rfl) ?_
          obtain ⟨M34, L35, h1, hD⟩ := g_b2 hD
          refine md_cvV (As := [.int a1]) (rest := []) C hw (tX12_take l G ad fu a1 M24 L25 h1) kc_12 (by decide) tf_821 wd_3760 cwX12_take ⟨Nat.le_of_ble_eq_true rfl, Nat.le_of_ble_eq_true rfl⟩ rfl hl.1 (Nat.le_of_ble_eq_true rfl) dX12_sees_105 rfl rfl ⟨Nat.zero_le _, Nat.zero_le _⟩ rfl (fun H locs hw => ?_)
          refine lv_goto (tgt := 139) C.1.1 C.1.2.1 dX12_sees_108 (by decide) ?_
          exact hb139 M34 L35 _ _ ls hD hw (lv_sub hl [] rfl)
    · replace hD := g_pos c7 hD
      refine lv_aload_n C.1.1 C.1.2.1 dX12_sees_66 rfl (lv_at hl 0 rfl) ?_
      refine lv_iload_n C.1.1 C.1.2.1 dX12_sees_67 rfl (lv_at hl 1 rfl) ?_
      refine lv_iload_n C.1.1 C.1.2.1 dX12_sees_68 rfl (lv_at hl 2 rfl) ?_
      obtain ⟨M36, L37, h1, hD⟩ := g_b2 hD
      refine md_cvV (As := [.int a1, .int a2]) (rest := []) C hw (tX12_sent l G ad fu a1 a2 M L h1) kc_12 (by decide) tf_821 wd_3740 cwX12_sent ⟨Nat.le_of_ble_eq_true rfl, Nat.le_of_ble_eq_true rfl⟩ rfl hl.1 (Nat.le_of_ble_eq_true rfl) dX12_sees_69 rfl rfl ⟨Nat.zero_le _, Nat.zero_le _⟩ rfl (fun H locs hw => ?_)
      refine lv_goto (tgt := 294) C.1.1 C.1.2.1 dX12_sees_72 (by decide) ?_
      exact hb294 M36 L37 _ _ ls hD hw (lv_sub hl [] rfl)
  have hb48 : ∀ (v3 : Int32) (s2 : Int32) (M : mwM) (L : mwL) (H : Heap) (locs : List Loc) (ls : Array Slot), fX12_sees_b48 fu a1 a2 v3 s2 M L = some (M0, L0) → mw_W G ad NF TF FF M L H locs → lv_has ls 4 [(0, .ref (ad 821)), (1, .int a1), (2, .int a2), (3, .int v3)] → W p l e ({ frames := 5, cells := 0, slots := 0, locals := 130 }) s m [.ref (ad 821), .int a1, .int a2].toArray below meth c H locs 0 0 (MQ below (mw_Qv G ad NF TF FF (mw_eqV M0 L0)) [.ref (ad 821), .int a1, .int a2].toArray s 0 0 (mw_fr G)) (F0 m 48 ls [.int s2, .int a1, .ref (ad 831)]) := by
    intro v3 s2 M L H locs ls hD hw hl
    unfold fX12_sees_b48 at hD
    obtain ⟨q2, hD⟩ := g_ck hD
    obtain ⟨M3, eM3, hD⟩ := g_let hD
    refine mr_iast C hw (by decide) tf_831 q2 dX12_sees_48 (fun H locs hw => ?_)
    replace hw : mw_W G ad NF TF FF M3 L H locs := by rw [eM3]; exact hw
    refine lv_aload_n C.1.1 C.1.2.1 dX12_sees_49 rfl (lv_at hl 0 rfl) ?_
    refine mr_getR C hw kc_12 16 (by decide) tf_821 ff_821_16 wd_2116 dX12_sees_50 (by decide) rfl ?_
    refine lv_iload_n C.1.1 C.1.2.1 dX12_sees_53 rfl (lv_at hl 1 rfl) ?_
    refine lv_iload_n C.1.1 C.1.2.1 dX12_sees_54 rfl (lv_at hl 3 rfl) ?_
    obtain ⟨q4, hD⟩ := g_ck hD
    obtain ⟨M5, eM5, hD⟩ := g_let hD
    refine mr_iast C hw (by decide) tf_833 q4 dX12_sees_55 (fun H locs hw => ?_)
    replace hw : mw_W G ad NF TF FF M5 L H locs := by rw [eM5]; exact hw
    exact hb56 M5 L _ _ ls hD hw (lv_sub hl [0, 1, 2] rfl)
  have hb33 : ∀ (v3 : Int32) (M : mwM) (L : mwL) (H : Heap) (locs : List Loc) (ls : Array Slot), fX12_sees_b33 fu a1 a2 v3 M L = some (M0, L0) → mw_W G ad NF TF FF M L H locs → lv_has ls 4 [(0, .ref (ad 821)), (1, .int a1), (2, .int a2), (3, .int v3)] → W p l e ({ frames := 5, cells := 0, slots := 0, locals := 130 }) s m [.ref (ad 821), .int a1, .int a2].toArray below meth c H locs 0 0 (MQ below (mw_Qv G ad NF TF FF (mw_eqV M0 L0)) [.ref (ad 821), .int a1, .int a2].toArray s 0 0 (mw_fr G)) (F0 m 33 ls []) := by
    intro v3 M L H locs ls hD hw hl
    unfold fX12_sees_b33 at hD
    refine lv_aload_n C.1.1 C.1.2.1 dX12_sees_33 rfl (lv_at hl 0 rfl) ?_
    refine mr_getR C hw kc_12 14 (by decide) tf_821 ff_821_14 wd_2114 dX12_sees_34 (by decide) rfl ?_
    refine lv_iload_n C.1.1 C.1.2.1 dX12_sees_37 rfl (lv_at hl 1 rfl) ?_
    refine lv_iload_n C.1.1 C.1.2.1 dX12_sees_38 rfl (lv_at hl 3 rfl) ?_
    refine lv_iconst (v := (-1)) C.1.1 C.1.2.1 dX12_sees_39 (by decide) ?_
    refine lv_icmp_ne (tgt := 47) C.1.1 C.1.2.1 dX12_sees_40 (by decide) (fun c1 => ?_) (fun c1 => ?_)
    · replace hD := g_neg c1 hD
      refine lv_iconst (v := 1) C.1.1 C.1.2.1 dX12_sees_47 (by decide) ?_
      exact hb48 v3 1 M L _ _ ls hD hw (lv_sub hl [0, 1, 2, 3] rfl)
    · replace hD := g_pos c1 hD
      refine lv_iconst (v := 2) C.1.1 C.1.2.1 dX12_sees_43 (by decide) ?_
      refine lv_goto (tgt := 48) C.1.1 C.1.2.1 dX12_sees_44 (by decide) ?_
      exact hb48 v3 2 M L _ _ ls hD hw (lv_sub hl [0, 1, 2, 3] rfl)
  unfold DX12_sees at hD
  refine lv_aload_n C.1.1 C.1.2.1 dX12_sees_0 rfl (lv_at hl 0 rfl) ?_
  refine mr_getR C hw kc_12 14 (by decide) tf_821 ff_821_14 wd_2114 dX12_sees_1 (by decide) rfl ?_
  refine lv_iload_n C.1.1 C.1.2.1 dX12_sees_4 rfl (lv_at hl 1 rfl) ?_
  obtain ⟨q57, hD⟩ := g_ck hD
  refine mr_iald C hw (by decide) tf_831 q57 dX12_sees_5 ?_
  refine lv_if_ne (tgt := 56) C.1.1 C.1.2.1 dX12_sees_6 (by decide) (fun c58 => ?_) (fun c58 => ?_)
  · replace hD := g_neg c58 hD
    exact hb56 M L _ _ ls hD hw (lv_sub hl [0, 1, 2] rfl)
  · replace hD := g_pos c58 hD
    refine lv_aload_n C.1.1 C.1.2.1 dX12_sees_9 rfl (lv_at hl 0 rfl) ?_
    refine mr_getR C hw kc_12 19 (by decide) tf_821 ff_821_19 wd_2119 dX12_sees_10 (by decide) rfl ?_
    refine lv_iload_n C.1.1 C.1.2.1 dX12_sees_13 rfl (lv_at hl 1 rfl) ?_
    refine lv_iconst (v := 0) C.1.1 C.1.2.1 dX12_sees_14 (by decide) ?_
    obtain ⟨q59, hD⟩ := g_ck hD
    obtain ⟨M60, eM60, hD⟩ := g_let hD
    refine mr_iast C hw (by decide) tf_836 q59 dX12_sees_15 (fun H locs hw => ?_)
    replace hw : mw_W G ad NF TF FF M60 L H locs := by rw [eM60]; exact hw
    refine lv_aload_n C.1.1 C.1.2.1 dX12_sees_16 rfl (lv_at hl 0 rfl) ?_
    refine lv_iload_n C.1.1 C.1.2.1 dX12_sees_17 rfl (lv_at hl 1 rfl) ?_
    obtain ⟨r63, M61, L62, h1, hD⟩ := g_b3 hD
    refine md_cvI (As := [.int a1]) (rest := []) C hw (tX12_first l G ad fu a1 M60 L h1) kc_12 (by decide) tf_821 wd_3650 cwX12_first ⟨Nat.le_of_ble_eq_true rfl, Nat.le_of_ble_eq_true rfl⟩ rfl hl.1 (Nat.le_of_ble_eq_true rfl) dX12_sees_18 rfl rfl ⟨Nat.zero_le _, Nat.zero_le _⟩ rfl (fun H locs hw => ?_)
    refine lv_istore_n (lv' := [(3, .int r63), (0, .ref (ad 821)), (1, .int a1), (2, .int a2)]) C.1.1 C.1.2.1 dX12_sees_21 rfl hl (by decide) rfl (fun ls hl => ?_)
    refine lv_iload_n C.1.1 C.1.2.1 dX12_sees_22 rfl (lv_at hl 0 rfl) ?_
    refine lv_iconst (v := (-1)) C.1.1 C.1.2.1 dX12_sees_23 (by decide) ?_
    refine lv_icmp_ne (tgt := 33) C.1.1 C.1.2.1 dX12_sees_24 (by decide) (fun c64 => ?_) (fun c64 => ?_)
    · replace hD := g_neg c64 hD
      exact hb33 r63 M61 L62 _ _ ls hD hw (lv_sub hl [1, 2, 3, 0] rfl)
    · replace hD := g_pos c64 hD
      refine lv_iload_n C.1.1 C.1.2.1 dX12_sees_27 rfl (lv_at hl 3 rfl) ?_
      refine lv_iconst (v := 1) C.1.1 C.1.2.1 dX12_sees_28 (by decide) ?_
      refine lv_icmp_ne (tgt := 33) C.1.1 C.1.2.1 dX12_sees_29 (by decide) (fun c65 => ?_) (fun c65 => ?_)
      · replace hD := g_neg c65 hD
        exact hb33 r63 M61 L62 _ _ ls hD hw (lv_sub hl [1, 2, 3, 0] rfl)
      · replace hD := g_pos c65 hD
        exact mr_vret C hr hlocks hw (Option.some.inj hD) dX12_sees_32

theorem dX12_run_0 : decode cX12_run 0 = .ok (.aload_n 0, 1) := by decide +kernel
theorem dX12_run_1 : decode cX12_run 1 = .ok (.iload_n 1, 1) := by decide +kernel
theorem dX12_run_2 : decode cX12_run 2 = .ok (.ifCond .ge 7, 3) := by decide +kernel
theorem dX12_run_5 : decode cX12_run 5 = .ok (.iconst 1, 1) := by decide +kernel
theorem dX12_run_6 : decode cX12_run 6 = .ok (.goto 20, 3) := by decide +kernel
theorem dX12_run_9 : decode cX12_run 9 = .ok (.iload_n 1, 1) := by decide +kernel
theorem dX12_run_10 : decode cX12_run 10 = .ok (.sipush 20000, 3) := by decide +kernel
theorem dX12_run_13 : decode cX12_run 13 = .ok (.aload_n 0, 1) := by decide +kernel
theorem dX12_run_14 : decode cX12_run 14 = .ok (.getfield 123, 3) := by decide +kernel
theorem dX12_run_17 : decode cX12_run 17 = .ok (.isub, 1) := by decide +kernel
theorem dX12_run_18 : decode cX12_run 18 = .ok (.if_icmp .le 7, 3) := by decide +kernel
theorem dX12_run_21 : decode cX12_run 21 = .ok (.iconst 2, 1) := by decide +kernel
theorem dX12_run_22 : decode cX12_run 22 = .ok (.goto 4, 3) := by decide +kernel
theorem dX12_run_25 : decode cX12_run 25 = .ok (.iconst 0, 1) := by decide +kernel
theorem dX12_run_26 : decode cX12_run 26 = .ok (.putfield 120, 3) := by decide +kernel
theorem dX12_run_29 : decode cX12_run 29 = .ok (.aload_n 0, 1) := by decide +kernel
theorem dX12_run_30 : decode cX12_run 30 = .ok (.getfield 120, 3) := by decide +kernel
theorem dX12_run_33 : decode cX12_run 33 = .ok (.ifCond .le 5, 3) := by decide +kernel
theorem dX12_run_36 : decode cX12_run 36 = .ok (.iconst 0, 1) := by decide +kernel
theorem dX12_run_37 : decode cX12_run 37 = .ok (.ireturn, 1) := by decide +kernel
theorem dX12_run_38 : decode cX12_run 38 = .ok (.aload_n 0, 1) := by decide +kernel
theorem dX12_run_39 : decode cX12_run 39 = .ok (.getfield 129, 3) := by decide +kernel
theorem dX12_run_42 : decode cX12_run 42 = .ok (.istore_n 2, 1) := by decide +kernel
theorem dX12_run_43 : decode cX12_run 43 = .ok (.iconst 0, 1) := by decide +kernel
theorem dX12_run_44 : decode cX12_run 44 = .ok (.istore_n 3, 1) := by decide +kernel
theorem dX12_run_45 : decode cX12_run 45 = .ok (.iload_n 3, 1) := by decide +kernel
theorem dX12_run_46 : decode cX12_run 46 = .ok (.iload_n 1, 1) := by decide +kernel
theorem dX12_run_47 : decode cX12_run 47 = .ok (.if_icmp .ge 121, 3) := by decide +kernel
theorem dX12_run_50 : decode cX12_run 50 = .ok (.iconst 1, 1) := by decide +kernel
theorem dX12_run_51 : decode cX12_run 51 = .ok (.istore 4, 2) := by decide +kernel
theorem dX12_run_53 : decode cX12_run 53 = .ok (.iconst 0, 1) := by decide +kernel
theorem dX12_run_54 : decode cX12_run 54 = .ok (.istore 5, 2) := by decide +kernel
theorem dX12_run_56 : decode cX12_run 56 = .ok (.iload 5, 2) := by decide +kernel
theorem dX12_run_58 : decode cX12_run 58 = .ok (.aload_n 0, 1) := by decide +kernel
theorem dX12_run_59 : decode cX12_run 59 = .ok (.getfield 7, 3) := by decide +kernel
theorem dX12_run_62 : decode cX12_run 62 = .ok (.if_icmp .ge 26, 3) := by decide +kernel
theorem dX12_run_65 : decode cX12_run 65 = .ok (.aload_n 0, 1) := by decide +kernel
theorem dX12_run_66 : decode cX12_run 66 = .ok (.iload 5, 2) := by decide +kernel
theorem dX12_run_68 : decode cX12_run 68 = .ok (.invokevirtual 276, 3) := by decide +kernel
theorem dX12_run_71 : decode cX12_run 71 = .ok (.ifCond .ne 7, 3) := by decide +kernel
theorem dX12_run_74 : decode cX12_run 74 = .ok (.iconst 0, 1) := by decide +kernel
theorem dX12_run_75 : decode cX12_run 75 = .ok (.goto 5, 3) := by decide +kernel
theorem dX12_run_78 : decode cX12_run 78 = .ok (.iload 4, 2) := by decide +kernel
theorem dX12_run_80 : decode cX12_run 80 = .ok (.istore 4, 2) := by decide +kernel
theorem dX12_run_82 : decode cX12_run 82 = .ok (.iinc 5 1, 3) := by decide +kernel
theorem dX12_run_85 : decode cX12_run 85 = .ok (.goto (-29), 3) := by decide +kernel
theorem dX12_run_88 : decode cX12_run 88 = .ok (.aload_n 0, 1) := by decide +kernel
theorem dX12_run_89 : decode cX12_run 89 = .ok (.getfield 13, 3) := by decide +kernel
theorem dX12_run_92 : decode cX12_run 92 = .ok (.aload_n 0, 1) := by decide +kernel
theorem dX12_run_93 : decode cX12_run 93 = .ok (.getfield 123, 3) := by decide +kernel
theorem dX12_run_96 : decode cX12_run 96 = .ok (.iload 4, 2) := by decide +kernel
theorem dX12_run_98 : decode cX12_run 98 = .ok (.i2b, 1) := by decide +kernel
theorem dX12_run_99 : decode cX12_run 99 = .ok (.bastore, 1) := by decide +kernel
theorem dX12_run_100 : decode cX12_run 100 = .ok (.iconst 0, 1) := by decide +kernel
theorem dX12_run_101 : decode cX12_run 101 = .ok (.istore 5, 2) := by decide +kernel
theorem dX12_run_103 : decode cX12_run 103 = .ok (.iload 5, 2) := by decide +kernel
theorem dX12_run_105 : decode cX12_run 105 = .ok (.aload_n 0, 1) := by decide +kernel
theorem dX12_run_106 : decode cX12_run 106 = .ok (.getfield 7, 3) := by decide +kernel
theorem dX12_run_109 : decode cX12_run 109 = .ok (.if_icmp .ge 43, 3) := by decide +kernel
theorem dX12_run_112 : decode cX12_run 112 = .ok (.aload_n 0, 1) := by decide +kernel
theorem dX12_run_113 : decode cX12_run 113 = .ok (.iload 5, 2) := by decide +kernel
theorem dX12_run_115 : decode cX12_run 115 = .ok (.aload_n 0, 1) := by decide +kernel
theorem dX12_run_116 : decode cX12_run 116 = .ok (.getfield 65, 3) := by decide +kernel
theorem dX12_run_119 : decode cX12_run 119 = .ok (.sipush 20000, 3) := by decide +kernel
theorem dX12_run_122 : decode cX12_run 122 = .ok (.iload 5, 2) := by decide +kernel
theorem dX12_run_124 : decode cX12_run 124 = .ok (.imul, 1) := by decide +kernel
theorem dX12_run_125 : decode cX12_run 125 = .ok (.aload_n 0, 1) := by decide +kernel
theorem dX12_run_126 : decode cX12_run 126 = .ok (.getfield 123, 3) := by decide +kernel
theorem dX12_run_129 : decode cX12_run 129 = .ok (.iadd, 1) := by decide +kernel
theorem dX12_run_130 : decode cX12_run 130 = .ok (.baload, 1) := by decide +kernel
theorem dX12_run_131 : decode cX12_run 131 = .ok (.ifCond .eq 10, 3) := by decide +kernel
theorem dX12_run_134 : decode cX12_run 134 = .ok (.iconst 1, 1) := by decide +kernel
theorem dX12_run_135 : decode cX12_run 135 = .ok (.iload 4, 2) := by decide +kernel
theorem dX12_run_137 : decode cX12_run 137 = .ok (.isub, 1) := by decide +kernel
theorem dX12_run_138 : decode cX12_run 138 = .ok (.goto 5, 3) := by decide +kernel
theorem dX12_run_141 : decode cX12_run 141 = .ok (.iload 4, 2) := by decide +kernel
theorem dX12_run_143 : decode cX12_run 143 = .ok (.invokevirtual 279, 3) := by decide +kernel
theorem dX12_run_146 : decode cX12_run 146 = .ok (.iinc 5 1, 3) := by decide +kernel
theorem dX12_run_149 : decode cX12_run 149 = .ok (.goto (-46), 3) := by decide +kernel
theorem dX12_run_152 : decode cX12_run 152 = .ok (.aload_n 0, 1) := by decide +kernel
theorem dX12_run_153 : decode cX12_run 153 = .ok (.dup, 1) := by decide +kernel
theorem dX12_run_154 : decode cX12_run 154 = .ok (.getfield 123, 3) := by decide +kernel
theorem dX12_run_157 : decode cX12_run 157 = .ok (.iconst 1, 1) := by decide +kernel
theorem dX12_run_158 : decode cX12_run 158 = .ok (.iadd, 1) := by decide +kernel
theorem dX12_run_159 : decode cX12_run 159 = .ok (.putfield 123, 3) := by decide +kernel
theorem dX12_run_162 : decode cX12_run 162 = .ok (.iinc 3 1, 3) := by decide +kernel
theorem dX12_run_165 : decode cX12_run 165 = .ok (.goto (-120), 3) := by decide +kernel
theorem dX12_run_168 : decode cX12_run 168 = .ok (.aload_n 0, 1) := by decide +kernel
theorem dX12_run_169 : decode cX12_run 169 = .ok (.getfield 129, 3) := by decide +kernel
theorem dX12_run_172 : decode cX12_run 172 = .ok (.iload_n 2, 1) := by decide +kernel
theorem dX12_run_173 : decode cX12_run 173 = .ok (.isub, 1) := by decide +kernel
theorem dX12_run_174 : decode cX12_run 174 = .ok (.ireturn, 1) := by decide +kernel
theorem cwX12_run : mw_cwV yX12_run cX12_run 6 ((some .int)) 1 := ⟨⟨wd_15, wd_3645, by decide +kernel⟩, wd_3643, wd_3644⟩
set_option maxHeartbeats 4000000 in
set_option maxRecDepth 100000 in
theorem tX12_run (l : Launch) (G : mwG) (ad : Nat → Nat) (fu : Nat) (a1 : Int32) (M : mwM) (L : mwL) {r0 : Int32} {M0 : mwM} {L0 : mwL} (hD : DX12_run fu a1 M L = some (r0, M0, L0)) : Met l yX12_run (Cond.code yX12_run cX12_run 6 ((some .int)) :: GT) ({ frames := 6, cells := 0, slots := 0, locals := 153 }) (mw_Pre G ad NF TF FF M L [.ref (ad 821), .int a1]) (mw_Qi G ad NF TF FF (mw_eqI r0 M0 L0)) 0 0 (mw_fr G) := by
  refine mw_enter (by decide) (Nat.le_of_ble_eq_true rfl) ?_
  intro p e s m below meth c ls C hr hlocks hnm hw hl
  have hl : lv_has ls 6 [(0, .ref (ad 821)), (1, .int a1)] := hl
  have hh45 : ∀ (f : Nat) (v2 : Int32) (v3 : Int32) (M : mwM) (L : mwL) (H : Heap) (locs : List Loc) (ls : Array Slot), fX12_run_h45 fu a1 f (v2, v3, M, L) = some (r0, M0, L0) → mw_W G ad NF TF FF M L H locs → lv_has ls 6 [(0, .ref (ad 821)), (1, .int a1), (2, .int v2), (3, .int v3)] → W p l e ({ frames := 6, cells := 0, slots := 0, locals := 153 }) s m [.ref (ad 821), .int a1].toArray below meth c H locs 0 0 (MQ below (mw_Qi G ad NF TF FF (mw_eqI r0 M0 L0)) [.ref (ad 821), .int a1].toArray s 0 0 (mw_fr G)) (F0 m 45 ls []) := by
    intro f
    induction f with
    | zero => intro v2 v3 M L H locs ls hD; cases hD
    | succ f45 ih45 =>
      intro v2 v3 M L H locs ls hD hw hl
      replace hD : fX12_run_i45 fu a1 (fX12_run_h45 fu a1 f45) v2 v3 M L = some (r0, M0, L0) := hD
      have hh103 : ∀ (f : Nat) (v2 : Int32) (v3 : Int32) (v4 : Int32) (v5 : Int32) (M : mwM) (L : mwL) (H : Heap) (locs : List Loc) (ls : Array Slot), fX12_run_h103 fu a1 (fX12_run_h45 fu a1 f45) f (v2, v3, v4, v5, M, L) = some (r0, M0, L0) → mw_W G ad NF TF FF M L H locs → lv_has ls 6 [(0, .ref (ad 821)), (1, .int a1), (2, .int v2), (3, .int v3), (4, .int v4), (5, .int v5)] → W p l e ({ frames := 6, cells := 0, slots := 0, locals := 153 }) s m [.ref (ad 821), .int a1].toArray below meth c H locs 0 0 (MQ below (mw_Qi G ad NF TF FF (mw_eqI r0 M0 L0)) [.ref (ad 821), .int a1].toArray s 0 0 (mw_fr G)) (F0 m 103 ls []) := by
        intro f
        induction f with
        | zero => intro v2 v3 v4 v5 M L H locs ls hD; cases hD
        | succ f103 ih103 =>
          intro v2 v3 v4 v5 M L H locs ls hD hw hl
          replace hD : fX12_run_i103 fu a1 (fX12_run_h45 fu a1 f45) (fX12_run_h103 fu a1 (fX12_run_h45 fu a1 f45) f103) v2 v3 v4 v5 M L = some (r0, M0, L0) := hD
          have hb143 : ∀ (v2 : Int32) (v3 : Int32) (v4 : Int32) (v5 : Int32) (s1 : Int32) (s2 : Int32) (M : mwM) (L : mwL) (H : Heap) (locs : List Loc) (ls : Array Slot), fX12_run_b143 fu a1 (fX12_run_h45 fu a1 f45) (fX12_run_h103 fu a1 (fX12_run_h45 fu a1 f45) f103) v2 v3 v4 v5 s1 s2 M L = some (r0, M0, L0) → mw_W G ad NF TF FF M L H locs → lv_has ls 6 [(0, .ref (ad 821)), (1, .int a1), (2, .int v2), (3, .int v3), (4, .int v4), (5, .int v5)] → W p l e ({ frames := 6, cells := 0, slots := 0, locals := 153 }) s m [.ref (ad 821), .int a1].toArray below meth c H locs 0 0 (MQ below (mw_Qi G ad NF TF FF (mw_eqI r0 M0 L0)) [.ref (ad 821), .int a1].toArray s 0 0 (mw_fr G)) (F0 m 143 ls [.int s2, .int s1, .ref (ad 821)]) := by
            intro v2 v3 v4 v5 s1 s2 M L H locs ls hD hw hl
            unfold fX12_run_b143 at hD
            obtain ⟨M18, L19, h1, hD⟩ := g_b2 hD
            refine md_cvV (As := [.int s1, .int s2]) (rest := []) C hw (tX12_sees l G ad fu s1 s2 M L h1) kc_12 (by decide) tf_821 wd_3736 cwX12_sees ⟨Nat.le_of_ble_eq_true rfl, Nat.le_of_ble_eq_true rfl⟩ rfl hl.1 (Nat.le_of_ble_eq_true rfl) dX12_run_143 rfl rfl ⟨Nat.zero_le _, Nat.zero_le _⟩ rfl (fun H locs hw => ?_)
            obtain ⟨x20, ex20, hD⟩ := g_let hD
            refine lv_iinc (v := x20) (lv' := [(5, .int x20), (0, .ref (ad 821)), (1, .int a1), (2, .int v2), (3, .int v3), (4, .int v4)]) C.1.1 C.1.2.1 dX12_run_146 hl (k := 5) rfl (by rw [ex20]; rfl) (by decide) rfl (fun ls hl => ?_)
            refine lv_goto (tgt := 103) C.1.1 C.1.2.1 dX12_run_149 (by decide) ?_
            exact ih103 v2 v3 v4 x20 M18 L19 _ _ ls hD hw (lv_sub hl [1, 2, 3, 4, 5, 0] rfl)
          unfold fX12_run_i103 at hD
          refine lv_iload C.1.1 C.1.2.1 dX12_run_103 (lv_at hl 5 rfl) ?_
          refine lv_aload_n C.1.1 C.1.2.1 dX12_run_105 rfl (lv_at hl 0 rfl) ?_
          refine mr_getI C hw kc_12 1 (by decide) tf_821 wd_2101 dX12_run_106 (by decide) rfl ?_
          refine lv_icmp_ge (tgt := 152) C.1.1 C.1.2.1 dX12_run_109 (by decide) (fun c13 => ?_) (fun c13 => ?_)
          · replace hD := g_pos c13 hD
            refine lv_aload_n C.1.1 C.1.2.1 dX12_run_152 rfl (lv_at hl 0 rfl) ?_
            refine lv_dup C.1.1 C.1.2.1 dX12_run_153 rfl ?_
            refine mr_getI C hw kc_12 2 (by decide) tf_821 wd_2102 dX12_run_154 (by decide) rfl ?_
            refine lv_iconst (v := 1) C.1.1 C.1.2.1 dX12_run_157 (by decide) ?_
            refine lv_iadd C.1.1 C.1.2.1 dX12_run_158 ?_
            obtain ⟨M14, eM14, hD⟩ := g_let hD
            refine mr_putI C hw kc_12 2 (by decide) tf_821 wd_2102 dX12_run_159 (by decide) rfl rfl rfl rfl (fun H locs hw => ?_)
            replace hw : mw_W G ad NF TF FF M14 L H locs := by rw [eM14]; exact hw
            obtain ⟨x15, ex15, hD⟩ := g_let hD
            refine lv_iinc (v := x15) (lv' := [(3, .int x15), (0, .ref (ad 821)), (1, .int a1), (2, .int v2), (4, .int v4), (5, .int v5)]) C.1.1 C.1.2.1 dX12_run_162 hl (k := 3) rfl (by rw [ex15]; rfl) (by decide) rfl (fun ls hl => ?_)
            refine lv_goto (tgt := 45) C.1.1 C.1.2.1 dX12_run_165 (by decide) ?_
            exact ih45 v2 x15 M14 L _ _ ls hD hw (lv_sub hl [1, 2, 3, 0] rfl)
          · replace hD := g_neg c13 hD
            refine lv_aload_n C.1.1 C.1.2.1 dX12_run_112 rfl (lv_at hl 0 rfl) ?_
            refine lv_iload C.1.1 C.1.2.1 dX12_run_113 (lv_at hl 5 rfl) ?_
            refine lv_aload_n C.1.1 C.1.2.1 dX12_run_115 rfl (lv_at hl 0 rfl) ?_
            refine mr_getR C hw kc_12 21 (by decide) tf_821 ff_821_21 wd_2121 dX12_run_116 (by decide) rfl ?_
            refine lv_sipush (v := 20000) C.1.1 C.1.2.1 dX12_run_119 (by decide) ?_
            refine lv_iload C.1.1 C.1.2.1 dX12_run_122 (lv_at hl 5 rfl) ?_
            refine lv_imul C.1.1 C.1.2.1 dX12_run_124 ?_
            refine lv_aload_n C.1.1 C.1.2.1 dX12_run_125 rfl (lv_at hl 0 rfl) ?_
            refine mr_getI C hw kc_12 2 (by decide) tf_821 wd_2102 dX12_run_126 (by decide) rfl ?_
            refine lv_iadd C.1.1 C.1.2.1 dX12_run_129 ?_
            obtain ⟨q16, hD⟩ := g_ck hD
            refine mr_zald C hw (by decide) tf_838 q16 dX12_run_130 ?_
            refine lv_if_eq (tgt := 141) C.1.1 C.1.2.1 dX12_run_131 (by decide) (fun c17 => ?_) (fun c17 => ?_)
            · replace hD := g_pos c17 hD
              refine lv_iload C.1.1 C.1.2.1 dX12_run_141 (lv_at hl 4 rfl) ?_
              exact hb143 v2 v3 v4 v5 v5 v4 M L _ _ ls hD hw (lv_sub hl [0, 1, 2, 3, 4, 5] rfl)
            · replace hD := g_neg c17 hD
              refine lv_iconst (v := 1) C.1.1 C.1.2.1 dX12_run_134 (by decide) ?_
              refine lv_iload C.1.1 C.1.2.1 dX12_run_135 (lv_at hl 4 rfl) ?_
              refine lv_isub C.1.1 C.1.2.1 dX12_run_137 ?_
              refine lv_goto (tgt := 143) C.1.1 C.1.2.1 dX12_run_138 (by decide) ?_
              exact hb143 v2 v3 v4 v5 v5 (1 - v4) M L _ _ ls hD hw (lv_sub hl [0, 1, 2, 3, 4, 5] rfl)
      have hh56 : ∀ (f : Nat) (v2 : Int32) (v3 : Int32) (v4 : Int32) (v5 : Int32) (M : mwM) (L : mwL) (H : Heap) (locs : List Loc) (ls : Array Slot), fX12_run_h56 fu a1 (fX12_run_h45 fu a1 f45) f (v2, v3, v4, v5, M, L) = some (r0, M0, L0) → mw_W G ad NF TF FF M L H locs → lv_has ls 6 [(0, .ref (ad 821)), (1, .int a1), (2, .int v2), (3, .int v3), (4, .int v4), (5, .int v5)] → W p l e ({ frames := 6, cells := 0, slots := 0, locals := 153 }) s m [.ref (ad 821), .int a1].toArray below meth c H locs 0 0 (MQ below (mw_Qi G ad NF TF FF (mw_eqI r0 M0 L0)) [.ref (ad 821), .int a1].toArray s 0 0 (mw_fr G)) (F0 m 56 ls []) := by
        intro f
        induction f with
        | zero => intro v2 v3 v4 v5 M L H locs ls hD; cases hD
        | succ f56 ih56 =>
          intro v2 v3 v4 v5 M L H locs ls hD hw hl
          replace hD : fX12_run_i56 fu a1 (fX12_run_h45 fu a1 f45) (fX12_run_h56 fu a1 (fX12_run_h45 fu a1 f45) f56) v2 v3 v4 v5 M L = some (r0, M0, L0) := hD
          have hb80 : ∀ (v2 : Int32) (v3 : Int32) (v5 : Int32) (s0 : Int32) (M : mwM) (L : mwL) (H : Heap) (locs : List Loc) (ls : Array Slot), fX12_run_b80 fu a1 (fX12_run_h45 fu a1 f45) (fX12_run_h56 fu a1 (fX12_run_h45 fu a1 f45) f56) v2 v3 v5 s0 M L = some (r0, M0, L0) → mw_W G ad NF TF FF M L H locs → lv_has ls 6 [(0, .ref (ad 821)), (1, .int a1), (2, .int v2), (3, .int v3), (5, .int v5)] → W p l e ({ frames := 6, cells := 0, slots := 0, locals := 153 }) s m [.ref (ad 821), .int a1].toArray below meth c H locs 0 0 (MQ below (mw_Qi G ad NF TF FF (mw_eqI r0 M0 L0)) [.ref (ad 821), .int a1].toArray s 0 0 (mw_fr G)) (F0 m 80 ls [.int s0]) := by
            intro v2 v3 v5 s0 M L H locs ls hD hw hl
            unfold fX12_run_b80 at hD
            refine lv_istore (lv' := [(4, .int s0), (0, .ref (ad 821)), (1, .int a1), (2, .int v2), (3, .int v3), (5, .int v5)]) C.1.1 C.1.2.1 dX12_run_80 hl (by decide) rfl (fun ls hl => ?_)
            obtain ⟨x12, ex12, hD⟩ := g_let hD
            refine lv_iinc (v := x12) (lv' := [(5, .int x12), (4, .int s0), (0, .ref (ad 821)), (1, .int a1), (2, .int v2), (3, .int v3)]) C.1.1 C.1.2.1 dX12_run_82 hl (k := 5) rfl (by rw [ex12]; rfl) (by decide) rfl (fun ls hl => ?_)
            refine lv_goto (tgt := 56) C.1.1 C.1.2.1 dX12_run_85 (by decide) ?_
            exact ih56 v2 v3 s0 x12 M L _ _ ls hD hw (lv_sub hl [2, 3, 4, 5, 1, 0] rfl)
          unfold fX12_run_i56 at hD
          refine lv_iload C.1.1 C.1.2.1 dX12_run_56 (lv_at hl 5 rfl) ?_
          refine lv_aload_n C.1.1 C.1.2.1 dX12_run_58 rfl (lv_at hl 0 rfl) ?_
          refine mr_getI C hw kc_12 1 (by decide) tf_821 wd_2101 dX12_run_59 (by decide) rfl ?_
          refine lv_icmp_ge (tgt := 88) C.1.1 C.1.2.1 dX12_run_62 (by decide) (fun c5 => ?_) (fun c5 => ?_)
          · replace hD := g_pos c5 hD
            refine lv_aload_n C.1.1 C.1.2.1 dX12_run_88 rfl (lv_at hl 0 rfl) ?_
            refine mr_getR C hw kc_12 3 (by decide) tf_821 ff_821_3 wd_2103 dX12_run_89 (by decide) rfl ?_
            refine lv_aload_n C.1.1 C.1.2.1 dX12_run_92 rfl (lv_at hl 0 rfl) ?_
            refine mr_getI C hw kc_12 2 (by decide) tf_821 wd_2102 dX12_run_93 (by decide) rfl ?_
            refine lv_iload C.1.1 C.1.2.1 dX12_run_96 (lv_at hl 4 rfl) ?_
            refine lv_i2b C.1.1 C.1.2.1 dX12_run_98 rfl ?_
            obtain ⟨q6, hD⟩ := g_ck hD
            obtain ⟨M7, eM7, hD⟩ := g_let hD
            refine mr_bast C hw (by decide) tf_822 q6 dX12_run_99 (fun H locs hw => ?_)
            replace hw : mw_W G ad NF TF FF M7 L H locs := by rw [eM7]; exact hw
            refine lv_iconst (v := 0) C.1.1 C.1.2.1 dX12_run_100 (by decide) ?_
            refine lv_istore (lv' := [(5, .int 0), (0, .ref (ad 821)), (1, .int a1), (2, .int v2), (3, .int v3), (4, .int v4)]) C.1.1 C.1.2.1 dX12_run_101 hl (by decide) rfl (fun ls hl => ?_)
            exact hh103 fu v2 v3 v4 0 M7 L _ _ ls hD hw (lv_sub hl [1, 2, 3, 4, 5, 0] rfl)
          · replace hD := g_neg c5 hD
            refine lv_aload_n C.1.1 C.1.2.1 dX12_run_65 rfl (lv_at hl 0 rfl) ?_
            refine lv_iload C.1.1 C.1.2.1 dX12_run_66 (lv_at hl 5 rfl) ?_
            obtain ⟨r10, M8, L9, h1, hD⟩ := g_b3 hD
            refine md_cvI (As := [.int v5]) (rest := []) C hw (tX12_puts l G ad fu v5 M L h1) kc_12 (by decide) tf_821 wd_3646 cwX12_puts ⟨Nat.le_of_ble_eq_true rfl, Nat.le_of_ble_eq_true rfl⟩ rfl hl.1 (Nat.le_of_ble_eq_true rfl) dX12_run_68 rfl rfl ⟨Nat.zero_le _, Nat.zero_le _⟩ rfl (fun H locs hw => ?_)
            refine lv_if_ne (tgt := 78) C.1.1 C.1.2.1 dX12_run_71 (by decide) (fun c11 => ?_) (fun c11 => ?_)
            · replace hD := g_neg c11 hD
              refine lv_iload C.1.1 C.1.2.1 dX12_run_78 (lv_at hl 4 rfl) ?_
              exact hb80 v2 v3 v5 v4 M8 L9 _ _ ls hD hw (lv_sub hl [0, 1, 2, 3, 5] rfl)
            · replace hD := g_pos c11 hD
              refine lv_iconst (v := 0) C.1.1 C.1.2.1 dX12_run_74 (by decide) ?_
              refine lv_goto (tgt := 80) C.1.1 C.1.2.1 dX12_run_75 (by decide) ?_
              exact hb80 v2 v3 v5 0 M8 L9 _ _ ls hD hw (lv_sub hl [0, 1, 2, 3, 5] rfl)
      unfold fX12_run_i45 at hD
      refine lv_iload_n C.1.1 C.1.2.1 dX12_run_45 rfl (lv_at hl 3 rfl) ?_
      refine lv_iload_n C.1.1 C.1.2.1 dX12_run_46 rfl (lv_at hl 1 rfl) ?_
      refine lv_icmp_ge (tgt := 168) C.1.1 C.1.2.1 dX12_run_47 (by decide) (fun c4 => ?_) (fun c4 => ?_)
      · replace hD := g_pos c4 hD
        refine lv_aload_n C.1.1 C.1.2.1 dX12_run_168 rfl (lv_at hl 0 rfl) ?_
        refine mr_getI C hw kc_12 11 (by decide) tf_821 wd_2111 dX12_run_169 (by decide) rfl ?_
        refine lv_iload_n C.1.1 C.1.2.1 dX12_run_172 rfl (lv_at hl 2 rfl) ?_
        refine lv_isub C.1.1 C.1.2.1 dX12_run_173 ?_
        exact mr_iret C hr hlocks hw rfl (Option.some.inj hD) dX12_run_174
      · replace hD := g_neg c4 hD
        refine lv_iconst (v := 1) C.1.1 C.1.2.1 dX12_run_50 (by decide) ?_
        refine lv_istore (lv' := [(4, .int 1), (0, .ref (ad 821)), (1, .int a1), (2, .int v2), (3, .int v3)]) C.1.1 C.1.2.1 dX12_run_51 hl (by decide) rfl (fun ls hl => ?_)
        refine lv_iconst (v := 0) C.1.1 C.1.2.1 dX12_run_53 (by decide) ?_
        refine lv_istore (lv' := [(5, .int 0), (4, .int 1), (0, .ref (ad 821)), (1, .int a1), (2, .int v2), (3, .int v3)]) C.1.1 C.1.2.1 dX12_run_54 hl (by decide) rfl (fun ls hl => ?_)
        exact hh56 fu v2 v3 1 0 M L _ _ ls hD hw (lv_sub hl [2, 3, 4, 5, 1, 0] rfl)
  have hb26 : ∀ (s1 : Int32) (M : mwM) (L : mwL) (H : Heap) (locs : List Loc) (ls : Array Slot), fX12_run_b26 fu a1 s1 M L = some (r0, M0, L0) → mw_W G ad NF TF FF M L H locs → lv_has ls 6 [(0, .ref (ad 821)), (1, .int a1)] → W p l e ({ frames := 6, cells := 0, slots := 0, locals := 153 }) s m [.ref (ad 821), .int a1].toArray below meth c H locs 0 0 (MQ below (mw_Qi G ad NF TF FF (mw_eqI r0 M0 L0)) [.ref (ad 821), .int a1].toArray s 0 0 (mw_fr G)) (F0 m 26 ls [.int s1, .ref (ad 821)]) := by
    intro s1 M L H locs ls hD hw hl
    unfold fX12_run_b26 at hD
    obtain ⟨M1, eM1, hD⟩ := g_let hD
    refine mr_putI C hw kc_12 0 (by decide) tf_821 wd_2100 dX12_run_26 (by decide) rfl rfl rfl rfl (fun H locs hw => ?_)
    replace hw : mw_W G ad NF TF FF M1 L H locs := by rw [eM1]; exact hw
    refine lv_aload_n C.1.1 C.1.2.1 dX12_run_29 rfl (lv_at hl 0 rfl) ?_
    refine mr_getI C hw kc_12 0 (by decide) tf_821 wd_2100 dX12_run_30 (by decide) rfl ?_
    refine lv_if_le (tgt := 38) C.1.1 C.1.2.1 dX12_run_33 (by decide) (fun c2 => ?_) (fun c2 => ?_)
    · replace hD := g_pos c2 hD
      refine lv_aload_n C.1.1 C.1.2.1 dX12_run_38 rfl (lv_at hl 0 rfl) ?_
      refine mr_getI C hw kc_12 11 (by decide) tf_821 wd_2111 dX12_run_39 (by decide) rfl ?_
      obtain ⟨x3, ex3, hD⟩ := g_let hD
      refine W.eq (g2 := F0 m 42 ls (.int x3 :: [])) (by rw [ex3]) ?_
      refine lv_istore_n (lv' := [(2, .int x3), (0, .ref (ad 821)), (1, .int a1)]) C.1.1 C.1.2.1 dX12_run_42 rfl hl (by decide) rfl (fun ls hl => ?_)
      refine lv_iconst (v := 0) C.1.1 C.1.2.1 dX12_run_43 (by decide) ?_
      refine lv_istore_n (lv' := [(3, .int 0), (2, .int x3), (0, .ref (ad 821)), (1, .int a1)]) C.1.1 C.1.2.1 dX12_run_44 rfl hl (by decide) rfl (fun ls hl => ?_)
      exact hh45 fu x3 0 M1 L _ _ ls hD hw (lv_sub hl [2, 3, 1, 0] rfl)
    · replace hD := g_neg c2 hD
      refine lv_iconst (v := 0) C.1.1 C.1.2.1 dX12_run_36 (by decide) ?_
      exact mr_iret C hr hlocks hw rfl (Option.some.inj hD) dX12_run_37
  unfold DX12_run at hD
  refine lv_aload_n C.1.1 C.1.2.1 dX12_run_0 rfl (lv_at hl 0 rfl) ?_
  refine lv_iload_n C.1.1 C.1.2.1 dX12_run_1 rfl (lv_at hl 1 rfl) ?_
  refine lv_if_ge (tgt := 9) C.1.1 C.1.2.1 dX12_run_2 (by decide) (fun c21 => ?_) (fun c21 => ?_)
  · replace hD := g_pos c21 hD
    refine lv_iload_n C.1.1 C.1.2.1 dX12_run_9 rfl (lv_at hl 1 rfl) ?_
    refine lv_sipush (v := 20000) C.1.1 C.1.2.1 dX12_run_10 (by decide) ?_
    refine lv_aload_n C.1.1 C.1.2.1 dX12_run_13 rfl (lv_at hl 0 rfl) ?_
    refine mr_getI C hw kc_12 2 (by decide) tf_821 wd_2102 dX12_run_14 (by decide) rfl ?_
    refine lv_isub C.1.1 C.1.2.1 dX12_run_17 ?_
    refine lv_icmp_le (tgt := 25) C.1.1 C.1.2.1 dX12_run_18 (by decide) (fun c22 => ?_) (fun c22 => ?_)
    · replace hD := g_pos c22 hD
      refine lv_iconst (v := 0) C.1.1 C.1.2.1 dX12_run_25 (by decide) ?_
      exact hb26 0 M L _ _ ls hD hw (lv_sub hl [0, 1] rfl)
    · replace hD := g_neg c22 hD
      refine lv_iconst (v := 2) C.1.1 C.1.2.1 dX12_run_21 (by decide) ?_
      refine lv_goto (tgt := 26) C.1.1 C.1.2.1 dX12_run_22 (by decide) ?_
      exact hb26 2 M L _ _ ls hD hw (lv_sub hl [0, 1] rfl)
  · replace hD := g_neg c21 hD
    refine lv_iconst (v := 1) C.1.1 C.1.2.1 dX12_run_5 (by decide) ?_
    refine lv_goto (tgt := 26) C.1.1 C.1.2.1 dX12_run_6 (by decide) ?_
    exact hb26 1 M L _ _ ls hD hw (lv_sub hl [0, 1] rfl)

theorem dX12_bit_0 : decode cX12_bit 0 = .ok (.aload_n 0, 1) := by decide +kernel
theorem dX12_bit_1 : decode cX12_bit 1 = .ok (.iload_n 1, 1) := by decide +kernel
theorem dX12_bit_2 : decode cX12_bit 2 = .ok (.ifCond .lt 11, 3) := by decide +kernel
theorem dX12_bit_5 : decode cX12_bit 5 = .ok (.iload_n 1, 1) := by decide +kernel
theorem dX12_bit_6 : decode cX12_bit 6 = .ok (.aload_n 0, 1) := by decide +kernel
theorem dX12_bit_7 : decode cX12_bit 7 = .ok (.getfield 123, 3) := by decide +kernel
theorem dX12_bit_10 : decode cX12_bit 10 = .ok (.if_icmp .lt 7, 3) := by decide +kernel
theorem dX12_bit_13 : decode cX12_bit 13 = .ok (.iconst 1, 1) := by decide +kernel
theorem dX12_bit_14 : decode cX12_bit 14 = .ok (.goto 4, 3) := by decide +kernel
theorem dX12_bit_17 : decode cX12_bit 17 = .ok (.iconst 0, 1) := by decide +kernel
theorem dX12_bit_18 : decode cX12_bit 18 = .ok (.putfield 120, 3) := by decide +kernel
theorem dX12_bit_21 : decode cX12_bit 21 = .ok (.aload_n 0, 1) := by decide +kernel
theorem dX12_bit_22 : decode cX12_bit 22 = .ok (.getfield 120, 3) := by decide +kernel
theorem dX12_bit_25 : decode cX12_bit 25 = .ok (.ifCond .le 7, 3) := by decide +kernel
theorem dX12_bit_28 : decode cX12_bit 28 = .ok (.iconst 0, 1) := by decide +kernel
theorem dX12_bit_29 : decode cX12_bit 29 = .ok (.goto 9, 3) := by decide +kernel
theorem dX12_bit_32 : decode cX12_bit 32 = .ok (.aload_n 0, 1) := by decide +kernel
theorem dX12_bit_33 : decode cX12_bit 33 = .ok (.getfield 13, 3) := by decide +kernel
theorem dX12_bit_36 : decode cX12_bit 36 = .ok (.iload_n 1, 1) := by decide +kernel
theorem dX12_bit_37 : decode cX12_bit 37 = .ok (.baload, 1) := by decide +kernel
theorem dX12_bit_38 : decode cX12_bit 38 = .ok (.ireturn, 1) := by decide +kernel
theorem cwX12_bit : mw_cwV yX12_bit cX12_bit 2 ((some .int)) 1 := ⟨⟨wd_15, wd_4213, by decide +kernel⟩, wd_4211, wd_4212⟩
set_option maxHeartbeats 4000000 in
set_option maxRecDepth 100000 in
theorem tX12_bit (l : Launch) (G : mwG) (ad : Nat → Nat) (fu : Nat) (a1 : Int32) (M : mwM) (L : mwL) {r0 : Int32} {M0 : mwM} {L0 : mwL} (hD : DX12_bit fu a1 M L = some (r0, M0, L0)) : Met l yX12_bit (Cond.code yX12_bit cX12_bit 2 ((some .int)) :: GT) ({ frames := 0, cells := 0, slots := 0, locals := 0 }) (mw_Pre G ad NF TF FF M L [.ref (ad 821), .int a1]) (mw_Qi G ad NF TF FF (mw_eqI r0 M0 L0)) 0 0 (mw_fr G) := by
  refine mw_enter (by decide) (Nat.le_of_ble_eq_true rfl) ?_
  intro p e s m below meth c ls C hr hlocks hnm hw hl
  have hl : lv_has ls 2 [(0, .ref (ad 821)), (1, .int a1)] := hl
  have hb38 : ∀ (s0 : Int32) (M : mwM) (L : mwL) (H : Heap) (locs : List Loc) (ls : Array Slot), fX12_bit_b38 fu a1 s0 M L = some (r0, M0, L0) → mw_W G ad NF TF FF M L H locs → lv_has ls 2 [] → W p l e ({ frames := 0, cells := 0, slots := 0, locals := 0 }) s m [.ref (ad 821), .int a1].toArray below meth c H locs 0 0 (MQ below (mw_Qi G ad NF TF FF (mw_eqI r0 M0 L0)) [.ref (ad 821), .int a1].toArray s 0 0 (mw_fr G)) (F0 m 38 ls [.int s0]) := by
    intro s0 M L H locs ls hD hw hl
    unfold fX12_bit_b38 at hD
    exact mr_iret C hr hlocks hw rfl (Option.some.inj hD) dX12_bit_38
  have hb18 : ∀ (s1 : Int32) (M : mwM) (L : mwL) (H : Heap) (locs : List Loc) (ls : Array Slot), fX12_bit_b18 fu a1 s1 M L = some (r0, M0, L0) → mw_W G ad NF TF FF M L H locs → lv_has ls 2 [(0, .ref (ad 821)), (1, .int a1)] → W p l e ({ frames := 0, cells := 0, slots := 0, locals := 0 }) s m [.ref (ad 821), .int a1].toArray below meth c H locs 0 0 (MQ below (mw_Qi G ad NF TF FF (mw_eqI r0 M0 L0)) [.ref (ad 821), .int a1].toArray s 0 0 (mw_fr G)) (F0 m 18 ls [.int s1, .ref (ad 821)]) := by
    intro s1 M L H locs ls hD hw hl
    unfold fX12_bit_b18 at hD
    obtain ⟨M1, eM1, hD⟩ := g_let hD
    refine mr_putI C hw kc_12 0 (by decide) tf_821 wd_2100 dX12_bit_18 (by decide) rfl rfl rfl rfl (fun H locs hw => ?_)
    replace hw : mw_W G ad NF TF FF M1 L H locs := by rw [eM1]; exact hw
    refine lv_aload_n C.1.1 C.1.2.1 dX12_bit_21 rfl (lv_at hl 0 rfl) ?_
    refine mr_getI C hw kc_12 0 (by decide) tf_821 wd_2100 dX12_bit_22 (by decide) rfl ?_
    refine lv_if_le (tgt := 32) C.1.1 C.1.2.1 dX12_bit_25 (by decide) (fun c2 => ?_) (fun c2 => ?_)
    · replace hD := g_pos c2 hD
      refine lv_aload_n C.1.1 C.1.2.1 dX12_bit_32 rfl (lv_at hl 0 rfl) ?_
      refine mr_getR C hw kc_12 3 (by decide) tf_821 ff_821_3 wd_2103 dX12_bit_33 (by decide) rfl ?_
      refine lv_iload_n C.1.1 C.1.2.1 dX12_bit_36 rfl (lv_at hl 1 rfl) ?_
      obtain ⟨q3, hD⟩ := g_ck hD
      refine mr_bald C hw (by decide) tf_822 q3 dX12_bit_37 ?_
      exact hb38 (M1 822 a1.toNatClampNeg) M1 L _ _ ls hD hw (lv_sub hl [] rfl)
    · replace hD := g_neg c2 hD
      refine lv_iconst (v := 0) C.1.1 C.1.2.1 dX12_bit_28 (by decide) ?_
      refine lv_goto (tgt := 38) C.1.1 C.1.2.1 dX12_bit_29 (by decide) ?_
      exact hb38 0 M1 L _ _ ls hD hw (lv_sub hl [] rfl)
  have hb13 : ∀ (M : mwM) (L : mwL) (H : Heap) (locs : List Loc) (ls : Array Slot), fX12_bit_b13 fu a1 M L = some (r0, M0, L0) → mw_W G ad NF TF FF M L H locs → lv_has ls 2 [(0, .ref (ad 821)), (1, .int a1)] → W p l e ({ frames := 0, cells := 0, slots := 0, locals := 0 }) s m [.ref (ad 821), .int a1].toArray below meth c H locs 0 0 (MQ below (mw_Qi G ad NF TF FF (mw_eqI r0 M0 L0)) [.ref (ad 821), .int a1].toArray s 0 0 (mw_fr G)) (F0 m 13 ls [.ref (ad 821)]) := by
    intro M L H locs ls hD hw hl
    unfold fX12_bit_b13 at hD
    refine lv_iconst (v := 1) C.1.1 C.1.2.1 dX12_bit_13 (by decide) ?_
    refine lv_goto (tgt := 18) C.1.1 C.1.2.1 dX12_bit_14 (by decide) ?_
    exact hb18 1 M L _ _ ls hD hw (lv_sub hl [0, 1] rfl)
  unfold DX12_bit at hD
  refine lv_aload_n C.1.1 C.1.2.1 dX12_bit_0 rfl (lv_at hl 0 rfl) ?_
  refine lv_iload_n C.1.1 C.1.2.1 dX12_bit_1 rfl (lv_at hl 1 rfl) ?_
  refine lv_if_lt (tgt := 13) C.1.1 C.1.2.1 dX12_bit_2 (by decide) (fun c4 => ?_) (fun c4 => ?_)
  · replace hD := g_pos c4 hD
    exact hb13 M L _ _ ls hD hw (lv_sub hl [0, 1] rfl)
  · replace hD := g_neg c4 hD
    refine lv_iload_n C.1.1 C.1.2.1 dX12_bit_5 rfl (lv_at hl 1 rfl) ?_
    refine lv_aload_n C.1.1 C.1.2.1 dX12_bit_6 rfl (lv_at hl 0 rfl) ?_
    refine mr_getI C hw kc_12 2 (by decide) tf_821 wd_2102 dX12_bit_7 (by decide) rfl ?_
    refine lv_icmp_lt (tgt := 17) C.1.1 C.1.2.1 dX12_bit_10 (by decide) (fun c5 => ?_) (fun c5 => ?_)
    · replace hD := g_pos c5 hD
      refine lv_iconst (v := 0) C.1.1 C.1.2.1 dX12_bit_17 (by decide) ?_
      exact hb18 0 M L _ _ ls hD hw (lv_sub hl [0, 1] rfl)
    · replace hD := g_neg c5 hD
      exact hb13 M L _ _ ls hD hw (lv_sub hl [0, 1] rfl)

theorem dX12_state_0 : decode cX12_state 0 = .ok (.aload_n 0, 1) := by decide +kernel
theorem dX12_state_1 : decode cX12_state 1 = .ok (.aload_n 0, 1) := by decide +kernel
theorem dX12_state_2 : decode cX12_state 2 = .ok (.iload_n 1, 1) := by decide +kernel
theorem dX12_state_3 : decode cX12_state 3 = .ok (.invokevirtual 139, 3) := by decide +kernel
theorem dX12_state_6 : decode cX12_state 6 = .ok (.ifCond .eq 7, 3) := by decide +kernel
theorem dX12_state_9 : decode cX12_state 9 = .ok (.iconst 1, 1) := by decide +kernel
theorem dX12_state_10 : decode cX12_state 10 = .ok (.goto 4, 3) := by decide +kernel
theorem dX12_state_13 : decode cX12_state 13 = .ok (.iconst 0, 1) := by decide +kernel
theorem dX12_state_14 : decode cX12_state 14 = .ok (.putfield 120, 3) := by decide +kernel
theorem dX12_state_17 : decode cX12_state 17 = .ok (.aload_n 0, 1) := by decide +kernel
theorem dX12_state_18 : decode cX12_state 18 = .ok (.getfield 120, 3) := by decide +kernel
theorem dX12_state_21 : decode cX12_state 21 = .ok (.ifCond .le 7, 3) := by decide +kernel
theorem dX12_state_24 : decode cX12_state 24 = .ok (.iconst 0, 1) := by decide +kernel
theorem dX12_state_25 : decode cX12_state 25 = .ok (.goto 9, 3) := by decide +kernel
theorem dX12_state_28 : decode cX12_state 28 = .ok (.aload_n 0, 1) := by decide +kernel
theorem dX12_state_29 : decode cX12_state 29 = .ok (.getfield 43, 3) := by decide +kernel
theorem dX12_state_32 : decode cX12_state 32 = .ok (.iload_n 1, 1) := by decide +kernel
theorem dX12_state_33 : decode cX12_state 33 = .ok (.iaload, 1) := by decide +kernel
theorem dX12_state_34 : decode cX12_state 34 = .ok (.ireturn, 1) := by decide +kernel
theorem cwX12_state : mw_cwV yX12_state cX12_state 2 ((some .int)) 1 := ⟨⟨wd_15, wd_4221, by decide +kernel⟩, wd_4219, wd_4220⟩
set_option maxHeartbeats 4000000 in
set_option maxRecDepth 100000 in
theorem tX12_state (l : Launch) (G : mwG) (ad : Nat → Nat) (fu : Nat) (a1 : Int32) (M : mwM) (L : mwL) {r0 : Int32} {M0 : mwM} {L0 : mwL} (hD : DX12_state fu a1 M L = some (r0, M0, L0)) : Met l yX12_state (Cond.code yX12_state cX12_state 2 ((some .int)) :: GT) ({ frames := 1, cells := 0, slots := 0, locals := 21 }) (mw_Pre G ad NF TF FF M L [.ref (ad 821), .int a1]) (mw_Qi G ad NF TF FF (mw_eqI r0 M0 L0)) 0 0 (mw_fr G) := by
  refine mw_enter (by decide) (Nat.le_of_ble_eq_true rfl) ?_
  intro p e s m below meth c ls C hr hlocks hnm hw hl
  have hl : lv_has ls 2 [(0, .ref (ad 821)), (1, .int a1)] := hl
  have hb34 : ∀ (s0 : Int32) (M : mwM) (L : mwL) (H : Heap) (locs : List Loc) (ls : Array Slot), fX12_state_b34 fu a1 s0 M L = some (r0, M0, L0) → mw_W G ad NF TF FF M L H locs → lv_has ls 2 [] → W p l e ({ frames := 1, cells := 0, slots := 0, locals := 21 }) s m [.ref (ad 821), .int a1].toArray below meth c H locs 0 0 (MQ below (mw_Qi G ad NF TF FF (mw_eqI r0 M0 L0)) [.ref (ad 821), .int a1].toArray s 0 0 (mw_fr G)) (F0 m 34 ls [.int s0]) := by
    intro s0 M L H locs ls hD hw hl
    unfold fX12_state_b34 at hD
    exact mr_iret C hr hlocks hw rfl (Option.some.inj hD) dX12_state_34
  have hb14 : ∀ (s1 : Int32) (M : mwM) (L : mwL) (H : Heap) (locs : List Loc) (ls : Array Slot), fX12_state_b14 fu a1 s1 M L = some (r0, M0, L0) → mw_W G ad NF TF FF M L H locs → lv_has ls 2 [(0, .ref (ad 821)), (1, .int a1)] → W p l e ({ frames := 1, cells := 0, slots := 0, locals := 21 }) s m [.ref (ad 821), .int a1].toArray below meth c H locs 0 0 (MQ below (mw_Qi G ad NF TF FF (mw_eqI r0 M0 L0)) [.ref (ad 821), .int a1].toArray s 0 0 (mw_fr G)) (F0 m 14 ls [.int s1, .ref (ad 821)]) := by
    intro s1 M L H locs ls hD hw hl
    unfold fX12_state_b14 at hD
    obtain ⟨M1, eM1, hD⟩ := g_let hD
    refine mr_putI C hw kc_12 0 (by decide) tf_821 wd_2100 dX12_state_14 (by decide) rfl rfl rfl rfl (fun H locs hw => ?_)
    replace hw : mw_W G ad NF TF FF M1 L H locs := by rw [eM1]; exact hw
    refine lv_aload_n C.1.1 C.1.2.1 dX12_state_17 rfl (lv_at hl 0 rfl) ?_
    refine mr_getI C hw kc_12 0 (by decide) tf_821 wd_2100 dX12_state_18 (by decide) rfl ?_
    refine lv_if_le (tgt := 28) C.1.1 C.1.2.1 dX12_state_21 (by decide) (fun c2 => ?_) (fun c2 => ?_)
    · replace hD := g_pos c2 hD
      refine lv_aload_n C.1.1 C.1.2.1 dX12_state_28 rfl (lv_at hl 0 rfl) ?_
      refine mr_getR C hw kc_12 14 (by decide) tf_821 ff_821_14 wd_2114 dX12_state_29 (by decide) rfl ?_
      refine lv_iload_n C.1.1 C.1.2.1 dX12_state_32 rfl (lv_at hl 1 rfl) ?_
      obtain ⟨q3, hD⟩ := g_ck hD
      refine mr_iald C hw (by decide) tf_831 q3 dX12_state_33 ?_
      exact hb34 (M1 831 a1.toNatClampNeg) M1 L _ _ ls hD hw (lv_sub hl [] rfl)
    · replace hD := g_neg c2 hD
      refine lv_iconst (v := 0) C.1.1 C.1.2.1 dX12_state_24 (by decide) ?_
      refine lv_goto (tgt := 34) C.1.1 C.1.2.1 dX12_state_25 (by decide) ?_
      exact hb34 0 M1 L _ _ ls hD hw (lv_sub hl [] rfl)
  unfold DX12_state at hD
  refine lv_aload_n C.1.1 C.1.2.1 dX12_state_0 rfl (lv_at hl 0 rfl) ?_
  refine lv_aload_n C.1.1 C.1.2.1 dX12_state_1 rfl (lv_at hl 0 rfl) ?_
  refine lv_iload_n C.1.1 C.1.2.1 dX12_state_2 rfl (lv_at hl 1 rfl) ?_
  obtain ⟨r6, M4, L5, h1, hD⟩ := g_b3 hD
  refine md_cvI (As := [.int a1]) (rest := [.ref (ad 821)]) C hw (tX12_noNode l G ad fu a1 M L h1) kc_12 (by decide) tf_821 wd_3623 cwX12_noNode ⟨Nat.le_of_ble_eq_true rfl, Nat.le_of_ble_eq_true rfl⟩ rfl hl.1 (Nat.le_of_ble_eq_true rfl) dX12_state_3 rfl rfl ⟨Nat.zero_le _, Nat.zero_le _⟩ rfl (fun H locs hw => ?_)
  refine lv_if_eq (tgt := 13) C.1.1 C.1.2.1 dX12_state_6 (by decide) (fun c7 => ?_) (fun c7 => ?_)
  · replace hD := g_pos c7 hD
    refine lv_iconst (v := 0) C.1.1 C.1.2.1 dX12_state_13 (by decide) ?_
    exact hb14 0 M4 L5 _ _ ls hD hw (lv_sub hl [0, 1] rfl)
  · replace hD := g_neg c7 hD
    refine lv_iconst (v := 1) C.1.1 C.1.2.1 dX12_state_9 (by decide) ?_
    refine lv_goto (tgt := 14) C.1.1 C.1.2.1 dX12_state_10 (by decide) ?_
    exact hb14 1 M4 L5 _ _ ls hD hw (lv_sub hl [0, 1] rfl)

theorem dX12_done_0 : decode cX12_done 0 = .ok (.aload_n 0, 1) := by decide +kernel
theorem dX12_done_1 : decode cX12_done 1 = .ok (.iconst 0, 1) := by decide +kernel
theorem dX12_done_2 : decode cX12_done 2 = .ok (.putfield 120, 3) := by decide +kernel
theorem dX12_done_5 : decode cX12_done 5 = .ok (.iload_n 1, 1) := by decide +kernel
theorem dX12_done_6 : decode cX12_done 6 = .ok (.iconst (-1), 1) := by decide +kernel
theorem dX12_done_7 : decode cX12_done 7 = .ok (.if_icmp .ne 12, 3) := by decide +kernel
theorem dX12_done_10 : decode cX12_done 10 = .ok (.iload_n 2, 1) := by decide +kernel
theorem dX12_done_11 : decode cX12_done 11 = .ok (.ifCond .ne 8, 3) := by decide +kernel
theorem dX12_done_14 : decode cX12_done 14 = .ok (.aload_n 0, 1) := by decide +kernel
theorem dX12_done_15 : decode cX12_done 15 = .ok (.getfield 129, 3) := by decide +kernel
theorem dX12_done_18 : decode cX12_done 18 = .ok (.ireturn, 1) := by decide +kernel
theorem dX12_done_19 : decode cX12_done 19 = .ok (.aload_n 0, 1) := by decide +kernel
theorem dX12_done_20 : decode cX12_done 20 = .ok (.iload_n 1, 1) := by decide +kernel
theorem dX12_done_21 : decode cX12_done 21 = .ok (.ifCond .lt 11, 3) := by decide +kernel
theorem dX12_done_24 : decode cX12_done 24 = .ok (.iload_n 1, 1) := by decide +kernel
theorem dX12_done_25 : decode cX12_done 25 = .ok (.aload_n 0, 1) := by decide +kernel
theorem dX12_done_26 : decode cX12_done 26 = .ok (.getfield 129, 3) := by decide +kernel
theorem dX12_done_29 : decode cX12_done 29 = .ok (.if_icmp .lt 7, 3) := by decide +kernel
theorem dX12_done_32 : decode cX12_done 32 = .ok (.iconst 1, 1) := by decide +kernel
theorem dX12_done_33 : decode cX12_done 33 = .ok (.goto 17, 3) := by decide +kernel
theorem dX12_done_36 : decode cX12_done 36 = .ok (.iload_n 2, 1) := by decide +kernel
theorem dX12_done_37 : decode cX12_done 37 = .ok (.ifCond .lt 8, 3) := by decide +kernel
theorem dX12_done_40 : decode cX12_done 40 = .ok (.iload_n 2, 1) := by decide +kernel
theorem dX12_done_41 : decode cX12_done 41 = .ok (.iconst 1, 1) := by decide +kernel
theorem dX12_done_42 : decode cX12_done 42 = .ok (.if_icmp .le 7, 3) := by decide +kernel
theorem dX12_done_45 : decode cX12_done 45 = .ok (.iconst 2, 1) := by decide +kernel
theorem dX12_done_46 : decode cX12_done 46 = .ok (.goto 4, 3) := by decide +kernel
theorem dX12_done_49 : decode cX12_done 49 = .ok (.iconst 0, 1) := by decide +kernel
theorem dX12_done_50 : decode cX12_done 50 = .ok (.putfield 120, 3) := by decide +kernel
theorem dX12_done_53 : decode cX12_done 53 = .ok (.aload_n 0, 1) := by decide +kernel
theorem dX12_done_54 : decode cX12_done 54 = .ok (.getfield 120, 3) := by decide +kernel
theorem dX12_done_57 : decode cX12_done 57 = .ok (.ifCond .le 5, 3) := by decide +kernel
theorem dX12_done_60 : decode cX12_done 60 = .ok (.iconst 0, 1) := by decide +kernel
theorem dX12_done_61 : decode cX12_done 61 = .ok (.ireturn, 1) := by decide +kernel
theorem dX12_done_62 : decode cX12_done 62 = .ok (.iload_n 2, 1) := by decide +kernel
theorem dX12_done_63 : decode cX12_done 63 = .ok (.ifCond .ne 12, 3) := by decide +kernel
theorem dX12_done_66 : decode cX12_done 66 = .ok (.aload_n 0, 1) := by decide +kernel
theorem dX12_done_67 : decode cX12_done 67 = .ok (.getfield 37, 3) := by decide +kernel
theorem dX12_done_70 : decode cX12_done 70 = .ok (.iload_n 1, 1) := by decide +kernel
theorem dX12_done_71 : decode cX12_done 71 = .ok (.iaload, 1) := by decide +kernel
theorem dX12_done_72 : decode cX12_done 72 = .ok (.goto 9, 3) := by decide +kernel
theorem dX12_done_75 : decode cX12_done 75 = .ok (.aload_n 0, 1) := by decide +kernel
theorem dX12_done_76 : decode cX12_done 76 = .ok (.getfield 40, 3) := by decide +kernel
theorem dX12_done_79 : decode cX12_done 79 = .ok (.iload_n 1, 1) := by decide +kernel
theorem dX12_done_80 : decode cX12_done 80 = .ok (.iaload, 1) := by decide +kernel
theorem dX12_done_81 : decode cX12_done 81 = .ok (.ireturn, 1) := by decide +kernel
theorem cwX12_done : mw_cwV yX12_done cX12_done 3 ((some .int)) 2 := ⟨⟨wd_15, wd_3541, by decide +kernel⟩, wd_3539, wd_3540⟩
set_option maxHeartbeats 4000000 in
set_option maxRecDepth 100000 in
theorem tX12_done (l : Launch) (G : mwG) (ad : Nat → Nat) (fu : Nat) (a1 : Int32) (a2 : Int32) (M : mwM) (L : mwL) {r0 : Int32} {M0 : mwM} {L0 : mwL} (hD : DX12_done fu a1 a2 M L = some (r0, M0, L0)) : Met l yX12_done (Cond.code yX12_done cX12_done 3 ((some .int)) :: GT) ({ frames := 0, cells := 0, slots := 0, locals := 0 }) (mw_Pre G ad NF TF FF M L [.ref (ad 821), .int a1, .int a2]) (mw_Qi G ad NF TF FF (mw_eqI r0 M0 L0)) 0 0 (mw_fr G) := by
  refine mw_enter (by decide) (Nat.le_of_ble_eq_true rfl) ?_
  intro p e s m below meth c ls C hr hlocks hnm hw hl
  have hl : lv_has ls 3 [(0, .ref (ad 821)), (1, .int a1), (2, .int a2)] := hl
  have hb81 : ∀ (s0 : Int32) (M : mwM) (L : mwL) (H : Heap) (locs : List Loc) (ls : Array Slot), fX12_done_b81 fu a1 a2 s0 M L = some (r0, M0, L0) → mw_W G ad NF TF FF M L H locs → lv_has ls 3 [] → W p l e ({ frames := 0, cells := 0, slots := 0, locals := 0 }) s m [.ref (ad 821), .int a1, .int a2].toArray below meth c H locs 0 0 (MQ below (mw_Qi G ad NF TF FF (mw_eqI r0 M0 L0)) [.ref (ad 821), .int a1, .int a2].toArray s 0 0 (mw_fr G)) (F0 m 81 ls [.int s0]) := by
    intro s0 M L H locs ls hD hw hl
    unfold fX12_done_b81 at hD
    exact mr_iret C hr hlocks hw rfl (Option.some.inj hD) dX12_done_81
  have hb50 : ∀ (s1 : Int32) (M : mwM) (L : mwL) (H : Heap) (locs : List Loc) (ls : Array Slot), fX12_done_b50 fu a1 a2 s1 M L = some (r0, M0, L0) → mw_W G ad NF TF FF M L H locs → lv_has ls 3 [(0, .ref (ad 821)), (1, .int a1), (2, .int a2)] → W p l e ({ frames := 0, cells := 0, slots := 0, locals := 0 }) s m [.ref (ad 821), .int a1, .int a2].toArray below meth c H locs 0 0 (MQ below (mw_Qi G ad NF TF FF (mw_eqI r0 M0 L0)) [.ref (ad 821), .int a1, .int a2].toArray s 0 0 (mw_fr G)) (F0 m 50 ls [.int s1, .ref (ad 821)]) := by
    intro s1 M L H locs ls hD hw hl
    unfold fX12_done_b50 at hD
    obtain ⟨M5, eM5, hD⟩ := g_let hD
    refine mr_putI C hw kc_12 0 (by decide) tf_821 wd_2100 dX12_done_50 (by decide) rfl rfl rfl rfl (fun H locs hw => ?_)
    replace hw : mw_W G ad NF TF FF M5 L H locs := by rw [eM5]; exact hw
    refine lv_aload_n C.1.1 C.1.2.1 dX12_done_53 rfl (lv_at hl 0 rfl) ?_
    refine mr_getI C hw kc_12 0 (by decide) tf_821 wd_2100 dX12_done_54 (by decide) rfl ?_
    refine lv_if_le (tgt := 62) C.1.1 C.1.2.1 dX12_done_57 (by decide) (fun c6 => ?_) (fun c6 => ?_)
    · replace hD := g_pos c6 hD
      refine lv_iload_n C.1.1 C.1.2.1 dX12_done_62 rfl (lv_at hl 2 rfl) ?_
      refine lv_if_ne (tgt := 75) C.1.1 C.1.2.1 dX12_done_63 (by decide) (fun c7 => ?_) (fun c7 => ?_)
      · replace hD := g_neg c7 hD
        refine lv_aload_n C.1.1 C.1.2.1 dX12_done_75 rfl (lv_at hl 0 rfl) ?_
        refine mr_getR C hw kc_12 13 (by decide) tf_821 ff_821_13 wd_2113 dX12_done_76 (by decide) rfl ?_
        refine lv_iload_n C.1.1 C.1.2.1 dX12_done_79 rfl (lv_at hl 1 rfl) ?_
        obtain ⟨q8, hD⟩ := g_ck hD
        refine mr_iald C hw (by decide) tf_830 q8 dX12_done_80 ?_
        exact hb81 (M5 830 a1.toNatClampNeg) M5 L _ _ ls hD hw (lv_sub hl [] rfl)
      · replace hD := g_pos c7 hD
        refine lv_aload_n C.1.1 C.1.2.1 dX12_done_66 rfl (lv_at hl 0 rfl) ?_
        refine mr_getR C hw kc_12 12 (by decide) tf_821 ff_821_12 wd_2112 dX12_done_67 (by decide) rfl ?_
        refine lv_iload_n C.1.1 C.1.2.1 dX12_done_70 rfl (lv_at hl 1 rfl) ?_
        obtain ⟨q9, hD⟩ := g_ck hD
        refine mr_iald C hw (by decide) tf_829 q9 dX12_done_71 ?_
        refine lv_goto (tgt := 81) C.1.1 C.1.2.1 dX12_done_72 (by decide) ?_
        exact hb81 (M5 829 a1.toNatClampNeg) M5 L _ _ ls hD hw (lv_sub hl [] rfl)
    · replace hD := g_neg c6 hD
      refine lv_iconst (v := 0) C.1.1 C.1.2.1 dX12_done_60 (by decide) ?_
      exact mr_iret C hr hlocks hw rfl (Option.some.inj hD) dX12_done_61
  have hb32 : ∀ (M : mwM) (L : mwL) (H : Heap) (locs : List Loc) (ls : Array Slot), fX12_done_b32 fu a1 a2 M L = some (r0, M0, L0) → mw_W G ad NF TF FF M L H locs → lv_has ls 3 [(0, .ref (ad 821)), (1, .int a1), (2, .int a2)] → W p l e ({ frames := 0, cells := 0, slots := 0, locals := 0 }) s m [.ref (ad 821), .int a1, .int a2].toArray below meth c H locs 0 0 (MQ below (mw_Qi G ad NF TF FF (mw_eqI r0 M0 L0)) [.ref (ad 821), .int a1, .int a2].toArray s 0 0 (mw_fr G)) (F0 m 32 ls [.ref (ad 821)]) := by
    intro M L H locs ls hD hw hl
    unfold fX12_done_b32 at hD
    refine lv_iconst (v := 1) C.1.1 C.1.2.1 dX12_done_32 (by decide) ?_
    refine lv_goto (tgt := 50) C.1.1 C.1.2.1 dX12_done_33 (by decide) ?_
    exact hb50 1 M L _ _ ls hD hw (lv_sub hl [0, 1, 2] rfl)
  have hb45 : ∀ (M : mwM) (L : mwL) (H : Heap) (locs : List Loc) (ls : Array Slot), fX12_done_b45 fu a1 a2 M L = some (r0, M0, L0) → mw_W G ad NF TF FF M L H locs → lv_has ls 3 [(0, .ref (ad 821)), (1, .int a1), (2, .int a2)] → W p l e ({ frames := 0, cells := 0, slots := 0, locals := 0 }) s m [.ref (ad 821), .int a1, .int a2].toArray below meth c H locs 0 0 (MQ below (mw_Qi G ad NF TF FF (mw_eqI r0 M0 L0)) [.ref (ad 821), .int a1, .int a2].toArray s 0 0 (mw_fr G)) (F0 m 45 ls [.ref (ad 821)]) := by
    intro M L H locs ls hD hw hl
    unfold fX12_done_b45 at hD
    refine lv_iconst (v := 2) C.1.1 C.1.2.1 dX12_done_45 (by decide) ?_
    refine lv_goto (tgt := 50) C.1.1 C.1.2.1 dX12_done_46 (by decide) ?_
    exact hb50 2 M L _ _ ls hD hw (lv_sub hl [0, 1, 2] rfl)
  have hb19 : ∀ (M : mwM) (L : mwL) (H : Heap) (locs : List Loc) (ls : Array Slot), fX12_done_b19 fu a1 a2 M L = some (r0, M0, L0) → mw_W G ad NF TF FF M L H locs → lv_has ls 3 [(0, .ref (ad 821)), (1, .int a1), (2, .int a2)] → W p l e ({ frames := 0, cells := 0, slots := 0, locals := 0 }) s m [.ref (ad 821), .int a1, .int a2].toArray below meth c H locs 0 0 (MQ below (mw_Qi G ad NF TF FF (mw_eqI r0 M0 L0)) [.ref (ad 821), .int a1, .int a2].toArray s 0 0 (mw_fr G)) (F0 m 19 ls []) := by
    intro M L H locs ls hD hw hl
    unfold fX12_done_b19 at hD
    refine lv_aload_n C.1.1 C.1.2.1 dX12_done_19 rfl (lv_at hl 0 rfl) ?_
    refine lv_iload_n C.1.1 C.1.2.1 dX12_done_20 rfl (lv_at hl 1 rfl) ?_
    refine lv_if_lt (tgt := 32) C.1.1 C.1.2.1 dX12_done_21 (by decide) (fun c1 => ?_) (fun c1 => ?_)
    · replace hD := g_pos c1 hD
      exact hb32 M L _ _ ls hD hw (lv_sub hl [0, 1, 2] rfl)
    · replace hD := g_neg c1 hD
      refine lv_iload_n C.1.1 C.1.2.1 dX12_done_24 rfl (lv_at hl 1 rfl) ?_
      refine lv_aload_n C.1.1 C.1.2.1 dX12_done_25 rfl (lv_at hl 0 rfl) ?_
      refine mr_getI C hw kc_12 11 (by decide) tf_821 wd_2111 dX12_done_26 (by decide) rfl ?_
      refine lv_icmp_lt (tgt := 36) C.1.1 C.1.2.1 dX12_done_29 (by decide) (fun c2 => ?_) (fun c2 => ?_)
      · replace hD := g_pos c2 hD
        refine lv_iload_n C.1.1 C.1.2.1 dX12_done_36 rfl (lv_at hl 2 rfl) ?_
        refine lv_if_lt (tgt := 45) C.1.1 C.1.2.1 dX12_done_37 (by decide) (fun c3 => ?_) (fun c3 => ?_)
        · replace hD := g_pos c3 hD
          exact hb45 M L _ _ ls hD hw (lv_sub hl [0, 1, 2] rfl)
        · replace hD := g_neg c3 hD
          refine lv_iload_n C.1.1 C.1.2.1 dX12_done_40 rfl (lv_at hl 2 rfl) ?_
          refine lv_iconst (v := 1) C.1.1 C.1.2.1 dX12_done_41 (by decide) ?_
          refine lv_icmp_le (tgt := 49) C.1.1 C.1.2.1 dX12_done_42 (by decide) (fun c4 => ?_) (fun c4 => ?_)
          · replace hD := g_pos c4 hD
            refine lv_iconst (v := 0) C.1.1 C.1.2.1 dX12_done_49 (by decide) ?_
            exact hb50 0 M L _ _ ls hD hw (lv_sub hl [0, 1, 2] rfl)
          · replace hD := g_neg c4 hD
            exact hb45 M L _ _ ls hD hw (lv_sub hl [0, 1, 2] rfl)
      · replace hD := g_neg c2 hD
        exact hb32 M L _ _ ls hD hw (lv_sub hl [0, 1, 2] rfl)
  unfold DX12_done at hD
  refine lv_aload_n C.1.1 C.1.2.1 dX12_done_0 rfl (lv_at hl 0 rfl) ?_
  refine lv_iconst (v := 0) C.1.1 C.1.2.1 dX12_done_1 (by decide) ?_
  obtain ⟨M10, eM10, hD⟩ := g_let hD
  refine mr_putI C hw kc_12 0 (by decide) tf_821 wd_2100 dX12_done_2 (by decide) rfl rfl rfl rfl (fun H locs hw => ?_)
  replace hw : mw_W G ad NF TF FF M10 L H locs := by rw [eM10]; exact hw
  refine lv_iload_n C.1.1 C.1.2.1 dX12_done_5 rfl (lv_at hl 1 rfl) ?_
  refine lv_iconst (v := (-1)) C.1.1 C.1.2.1 dX12_done_6 (by decide) ?_
  refine lv_icmp_ne (tgt := 19) C.1.1 C.1.2.1 dX12_done_7 (by decide) (fun c11 => ?_) (fun c11 => ?_)
  · replace hD := g_neg c11 hD
    exact hb19 M10 L _ _ ls hD hw (lv_sub hl [0, 1, 2] rfl)
  · replace hD := g_pos c11 hD
    refine lv_iload_n C.1.1 C.1.2.1 dX12_done_10 rfl (lv_at hl 2 rfl) ?_
    refine lv_if_ne (tgt := 19) C.1.1 C.1.2.1 dX12_done_11 (by decide) (fun c12 => ?_) (fun c12 => ?_)
    · replace hD := g_neg c12 hD
      exact hb19 M10 L _ _ ls hD hw (lv_sub hl [0, 1, 2] rfl)
    · replace hD := g_pos c12 hD
      refine lv_aload_n C.1.1 C.1.2.1 dX12_done_14 rfl (lv_at hl 0 rfl) ?_
      refine mr_getI C hw kc_12 11 (by decide) tf_821 wd_2111 dX12_done_15 (by decide) rfl ?_
      exact mr_iret C hr hlocks hw rfl (Option.some.inj hD) dX12_done_18

theorem dX12_took_0 : decode cX12_took 0 = .ok (.iload_n 2, 1) := by decide +kernel
theorem dX12_took_1 : decode cX12_took 1 = .ok (.istore_n 3, 1) := by decide +kernel
theorem dX12_took_2 : decode cX12_took 2 = .ok (.iconst 0, 1) := by decide +kernel
theorem dX12_took_3 : decode cX12_took 3 = .ok (.istore 4, 2) := by decide +kernel
theorem dX12_took_5 : decode cX12_took 5 = .ok (.iload 4, 2) := by decide +kernel
theorem dX12_took_7 : decode cX12_took 7 = .ok (.aload_n 0, 1) := by decide +kernel
theorem dX12_took_8 : decode cX12_took 8 = .ok (.getfield 132, 3) := by decide +kernel
theorem dX12_took_11 : decode cX12_took 11 = .ok (.if_icmp .ge 34, 3) := by decide +kernel
theorem dX12_took_14 : decode cX12_took 14 = .ok (.iload_n 2, 1) := by decide +kernel
theorem dX12_took_15 : decode cX12_took 15 = .ok (.ifCond .lt 30, 3) := by decide +kernel
theorem dX12_took_18 : decode cX12_took 18 = .ok (.aload_n 0, 1) := by decide +kernel
theorem dX12_took_19 : decode cX12_took 19 = .ok (.getfield 68, 3) := by decide +kernel
theorem dX12_took_22 : decode cX12_took 22 = .ok (.iload 4, 2) := by decide +kernel
theorem dX12_took_24 : decode cX12_took 24 = .ok (.iaload, 1) := by decide +kernel
theorem dX12_took_25 : decode cX12_took 25 = .ok (.iload_n 1, 1) := by decide +kernel
theorem dX12_took_26 : decode cX12_took 26 = .ok (.if_icmp .ne 13, 3) := by decide +kernel
theorem dX12_took_29 : decode cX12_took 29 = .ok (.iload_n 3, 1) := by decide +kernel
theorem dX12_took_30 : decode cX12_took 30 = .ok (.ifCond .ne 6, 3) := by decide +kernel
theorem dX12_took_33 : decode cX12_took 33 = .ok (.iload 4, 2) := by decide +kernel
theorem dX12_took_35 : decode cX12_took 35 = .ok (.ireturn, 1) := by decide +kernel
theorem dX12_took_36 : decode cX12_took 36 = .ok (.iinc 3 (-1), 3) := by decide +kernel
theorem dX12_took_39 : decode cX12_took 39 = .ok (.iinc 4 1, 3) := by decide +kernel
theorem dX12_took_42 : decode cX12_took 42 = .ok (.goto (-37), 3) := by decide +kernel
theorem dX12_took_45 : decode cX12_took 45 = .ok (.iconst (-1), 1) := by decide +kernel
theorem dX12_took_46 : decode cX12_took 46 = .ok (.ireturn, 1) := by decide +kernel
theorem cwX12_took : mw_cwV yX12_took cX12_took 5 ((some .int)) 2 := ⟨⟨wd_15, wd_3865, by decide +kernel⟩, wd_3864, sl_278⟩
set_option maxHeartbeats 4000000 in
set_option maxRecDepth 100000 in
theorem tX12_took (l : Launch) (G : mwG) (ad : Nat → Nat) (fu : Nat) (a1 : Int32) (a2 : Int32) (M : mwM) (L : mwL) {r0 : Int32} {M0 : mwM} {L0 : mwL} (hD : DX12_took fu a1 a2 M L = some (r0, M0, L0)) : Met l yX12_took (Cond.code yX12_took cX12_took 5 ((some .int)) :: GT) ({ frames := 0, cells := 0, slots := 0, locals := 0 }) (mw_Pre G ad NF TF FF M L [.ref (ad 821), .int a1, .int a2]) (mw_Qi G ad NF TF FF (mw_eqI r0 M0 L0)) 0 0 (mw_fr G) := by
  refine mw_enter (by decide) (Nat.le_of_ble_eq_true rfl) ?_
  intro p e s m below meth c ls C hr hlocks hnm hw hl
  have hl : lv_has ls 5 [(0, .ref (ad 821)), (1, .int a1), (2, .int a2)] := hl
  have hb45 : ∀ (M : mwM) (L : mwL) (H : Heap) (locs : List Loc) (ls : Array Slot), fX12_took_b45 fu a1 a2 M L = some (r0, M0, L0) → mw_W G ad NF TF FF M L H locs → lv_has ls 5 [] → W p l e ({ frames := 0, cells := 0, slots := 0, locals := 0 }) s m [.ref (ad 821), .int a1, .int a2].toArray below meth c H locs 0 0 (MQ below (mw_Qi G ad NF TF FF (mw_eqI r0 M0 L0)) [.ref (ad 821), .int a1, .int a2].toArray s 0 0 (mw_fr G)) (F0 m 45 ls []) := by
    intro M L H locs ls hD hw hl
    unfold fX12_took_b45 at hD
    refine lv_iconst (v := (-1)) C.1.1 C.1.2.1 dX12_took_45 (by decide) ?_
    exact mr_iret C hr hlocks hw rfl (Option.some.inj hD) dX12_took_46
  have hh5 : ∀ (f : Nat) (v3 : Int32) (v4 : Int32) (M : mwM) (L : mwL) (H : Heap) (locs : List Loc) (ls : Array Slot), fX12_took_h5 fu a1 a2 f (v3, v4, M, L) = some (r0, M0, L0) → mw_W G ad NF TF FF M L H locs → lv_has ls 5 [(0, .ref (ad 821)), (1, .int a1), (2, .int a2), (3, .int v3), (4, .int v4)] → W p l e ({ frames := 0, cells := 0, slots := 0, locals := 0 }) s m [.ref (ad 821), .int a1, .int a2].toArray below meth c H locs 0 0 (MQ below (mw_Qi G ad NF TF FF (mw_eqI r0 M0 L0)) [.ref (ad 821), .int a1, .int a2].toArray s 0 0 (mw_fr G)) (F0 m 5 ls []) := by
    intro f
    induction f with
    | zero => intro v3 v4 M L H locs ls hD; cases hD
    | succ f5 ih5 =>
      intro v3 v4 M L H locs ls hD hw hl
      replace hD : fX12_took_i5 fu a1 a2 (fX12_took_h5 fu a1 a2 f5) v3 v4 M L = some (r0, M0, L0) := hD
      have hb39 : ∀ (v3 : Int32) (v4 : Int32) (M : mwM) (L : mwL) (H : Heap) (locs : List Loc) (ls : Array Slot), fX12_took_b39 fu a1 a2 (fX12_took_h5 fu a1 a2 f5) v3 v4 M L = some (r0, M0, L0) → mw_W G ad NF TF FF M L H locs → lv_has ls 5 [(0, .ref (ad 821)), (1, .int a1), (2, .int a2), (3, .int v3), (4, .int v4)] → W p l e ({ frames := 0, cells := 0, slots := 0, locals := 0 }) s m [.ref (ad 821), .int a1, .int a2].toArray below meth c H locs 0 0 (MQ below (mw_Qi G ad NF TF FF (mw_eqI r0 M0 L0)) [.ref (ad 821), .int a1, .int a2].toArray s 0 0 (mw_fr G)) (F0 m 39 ls []) := by
        intro v3 v4 M L H locs ls hD hw hl
        unfold fX12_took_b39 at hD
        obtain ⟨x7, ex7, hD⟩ := g_let hD
        refine lv_iinc (v := x7) (lv' := [(4, .int x7), (0, .ref (ad 821)), (1, .int a1), (2, .int a2), (3, .int v3)]) C.1.1 C.1.2.1 dX12_took_39 hl (k := 4) rfl (by rw [ex7]; rfl) (by decide) rfl (fun ls hl => ?_)
        refine lv_goto (tgt := 5) C.1.1 C.1.2.1 dX12_took_42 (by decide) ?_
        exact ih5 v3 x7 M L _ _ ls hD hw (lv_sub hl [1, 2, 3, 4, 0] rfl)
      unfold fX12_took_i5 at hD
      refine lv_iload C.1.1 C.1.2.1 dX12_took_5 (lv_at hl 4 rfl) ?_
      refine lv_aload_n C.1.1 C.1.2.1 dX12_took_7 rfl (lv_at hl 0 rfl) ?_
      refine mr_getI C hw kc_12 22 (by decide) tf_821 wd_2122 dX12_took_8 (by decide) rfl ?_
      refine lv_icmp_ge (tgt := 45) C.1.1 C.1.2.1 dX12_took_11 (by decide) (fun c1 => ?_) (fun c1 => ?_)
      · replace hD := g_pos c1 hD
        exact hb45 M L _ _ ls hD hw (lv_sub hl [] rfl)
      · replace hD := g_neg c1 hD
        refine lv_iload_n C.1.1 C.1.2.1 dX12_took_14 rfl (lv_at hl 2 rfl) ?_
        refine lv_if_lt (tgt := 45) C.1.1 C.1.2.1 dX12_took_15 (by decide) (fun c2 => ?_) (fun c2 => ?_)
        · replace hD := g_pos c2 hD
          exact hb45 M L _ _ ls hD hw (lv_sub hl [] rfl)
        · replace hD := g_neg c2 hD
          refine lv_aload_n C.1.1 C.1.2.1 dX12_took_18 rfl (lv_at hl 0 rfl) ?_
          refine mr_getR C hw kc_12 23 (by decide) tf_821 ff_821_23 wd_2123 dX12_took_19 (by decide) rfl ?_
          refine lv_iload C.1.1 C.1.2.1 dX12_took_22 (lv_at hl 4 rfl) ?_
          obtain ⟨q3, hD⟩ := g_ck hD
          refine mr_iald C hw (by decide) tf_839 q3 dX12_took_24 ?_
          refine lv_iload_n C.1.1 C.1.2.1 dX12_took_25 rfl (lv_at hl 1 rfl) ?_
          refine lv_icmp_ne (tgt := 39) C.1.1 C.1.2.1 dX12_took_26 (by decide) (fun c4 => ?_) (fun c4 => ?_)
          · replace hD := g_neg c4 hD
            exact hb39 v3 v4 M L _ _ ls hD hw (lv_sub hl [0, 1, 2, 3, 4] rfl)
          · replace hD := g_pos c4 hD
            refine lv_iload_n C.1.1 C.1.2.1 dX12_took_29 rfl (lv_at hl 3 rfl) ?_
            refine lv_if_ne (tgt := 36) C.1.1 C.1.2.1 dX12_took_30 (by decide) (fun c5 => ?_) (fun c5 => ?_)
            · replace hD := g_neg c5 hD
              obtain ⟨x6, ex6, hD⟩ := g_let hD
              refine lv_iinc (v := x6) (lv' := [(3, .int x6), (0, .ref (ad 821)), (1, .int a1), (2, .int a2), (4, .int v4)]) C.1.1 C.1.2.1 dX12_took_36 hl (k := 3) rfl (by rw [ex6]; rfl) (by decide) rfl (fun ls hl => ?_)
              exact hb39 x6 v4 M L _ _ ls hD hw (lv_sub hl [1, 2, 3, 0, 4] rfl)
            · replace hD := g_pos c5 hD
              refine lv_iload C.1.1 C.1.2.1 dX12_took_33 (lv_at hl 4 rfl) ?_
              exact mr_iret C hr hlocks hw rfl (Option.some.inj hD) dX12_took_35
  unfold DX12_took at hD
  refine lv_iload_n C.1.1 C.1.2.1 dX12_took_0 rfl (lv_at hl 2 rfl) ?_
  refine lv_istore_n (lv' := [(3, .int a2), (0, .ref (ad 821)), (1, .int a1), (2, .int a2)]) C.1.1 C.1.2.1 dX12_took_1 rfl hl (by decide) rfl (fun ls hl => ?_)
  refine lv_iconst (v := 0) C.1.1 C.1.2.1 dX12_took_2 (by decide) ?_
  refine lv_istore (lv' := [(4, .int 0), (3, .int a2), (0, .ref (ad 821)), (1, .int a1), (2, .int a2)]) C.1.1 C.1.2.1 dX12_took_3 hl (by decide) rfl (fun ls hl => ?_)
  exact hh5 fu a2 0 M L _ _ ls hD hw (lv_sub hl [2, 3, 4, 1, 0] rfl)

theorem dX12_taken_0 : decode cX12_taken 0 = .ok (.aload_n 0, 1) := by decide +kernel
theorem dX12_taken_1 : decode cX12_taken 1 = .ok (.aload_n 0, 1) := by decide +kernel
theorem dX12_taken_2 : decode cX12_taken 2 = .ok (.iload_n 1, 1) := by decide +kernel
theorem dX12_taken_3 : decode cX12_taken 3 = .ok (.invokevirtual 139, 3) := by decide +kernel
theorem dX12_taken_6 : decode cX12_taken 6 = .ok (.ifCond .eq 7, 3) := by decide +kernel
theorem dX12_taken_9 : decode cX12_taken 9 = .ok (.iconst 1, 1) := by decide +kernel
theorem dX12_taken_10 : decode cX12_taken 10 = .ok (.goto 4, 3) := by decide +kernel
theorem dX12_taken_13 : decode cX12_taken 13 = .ok (.iconst 0, 1) := by decide +kernel
theorem dX12_taken_14 : decode cX12_taken 14 = .ok (.putfield 120, 3) := by decide +kernel
theorem dX12_taken_17 : decode cX12_taken 17 = .ok (.aload_n 0, 1) := by decide +kernel
theorem dX12_taken_18 : decode cX12_taken 18 = .ok (.getfield 120, 3) := by decide +kernel
theorem dX12_taken_21 : decode cX12_taken 21 = .ok (.ifCond .le 5, 3) := by decide +kernel
theorem dX12_taken_24 : decode cX12_taken 24 = .ok (.iconst 0, 1) := by decide +kernel
theorem dX12_taken_25 : decode cX12_taken 25 = .ok (.ireturn, 1) := by decide +kernel
theorem dX12_taken_26 : decode cX12_taken 26 = .ok (.iload_n 2, 1) := by decide +kernel
theorem dX12_taken_27 : decode cX12_taken 27 = .ok (.iconst (-1), 1) := by decide +kernel
theorem dX12_taken_28 : decode cX12_taken 28 = .ok (.if_icmp .ne 53, 3) := by decide +kernel
theorem dX12_taken_31 : decode cX12_taken 31 = .ok (.iload_n 3, 1) := by decide +kernel
theorem dX12_taken_32 : decode cX12_taken 32 = .ok (.ifCond .ne 49, 3) := by decide +kernel
theorem dX12_taken_35 : decode cX12_taken 35 = .ok (.iconst 0, 1) := by decide +kernel
theorem dX12_taken_36 : decode cX12_taken 36 = .ok (.istore 4, 2) := by decide +kernel
theorem dX12_taken_38 : decode cX12_taken 38 = .ok (.iconst 0, 1) := by decide +kernel
theorem dX12_taken_39 : decode cX12_taken 39 = .ok (.istore 5, 2) := by decide +kernel
theorem dX12_taken_41 : decode cX12_taken 41 = .ok (.iload 5, 2) := by decide +kernel
theorem dX12_taken_43 : decode cX12_taken 43 = .ok (.aload_n 0, 1) := by decide +kernel
theorem dX12_taken_44 : decode cX12_taken 44 = .ok (.getfield 132, 3) := by decide +kernel
theorem dX12_taken_47 : decode cX12_taken 47 = .ok (.if_icmp .ge 31, 3) := by decide +kernel
theorem dX12_taken_50 : decode cX12_taken 50 = .ok (.aload_n 0, 1) := by decide +kernel
theorem dX12_taken_51 : decode cX12_taken 51 = .ok (.getfield 68, 3) := by decide +kernel
theorem dX12_taken_54 : decode cX12_taken 54 = .ok (.iload 5, 2) := by decide +kernel
theorem dX12_taken_56 : decode cX12_taken 56 = .ok (.iaload, 1) := by decide +kernel
theorem dX12_taken_57 : decode cX12_taken 57 = .ok (.iload_n 1, 1) := by decide +kernel
theorem dX12_taken_58 : decode cX12_taken 58 = .ok (.if_icmp .ne 10, 3) := by decide +kernel
theorem dX12_taken_61 : decode cX12_taken 61 = .ok (.iload 4, 2) := by decide +kernel
theorem dX12_taken_63 : decode cX12_taken 63 = .ok (.iconst 1, 1) := by decide +kernel
theorem dX12_taken_64 : decode cX12_taken 64 = .ok (.iadd, 1) := by decide +kernel
theorem dX12_taken_65 : decode cX12_taken 65 = .ok (.goto 5, 3) := by decide +kernel
theorem dX12_taken_68 : decode cX12_taken 68 = .ok (.iload 4, 2) := by decide +kernel
theorem dX12_taken_70 : decode cX12_taken 70 = .ok (.istore 4, 2) := by decide +kernel
theorem dX12_taken_72 : decode cX12_taken 72 = .ok (.iinc 5 1, 3) := by decide +kernel
theorem dX12_taken_75 : decode cX12_taken 75 = .ok (.goto (-34), 3) := by decide +kernel
theorem dX12_taken_78 : decode cX12_taken 78 = .ok (.iload 4, 2) := by decide +kernel
theorem dX12_taken_80 : decode cX12_taken 80 = .ok (.ireturn, 1) := by decide +kernel
theorem dX12_taken_81 : decode cX12_taken 81 = .ok (.aload_n 0, 1) := by decide +kernel
theorem dX12_taken_82 : decode cX12_taken 82 = .ok (.iload_n 1, 1) := by decide +kernel
theorem dX12_taken_83 : decode cX12_taken 83 = .ok (.iload_n 2, 1) := by decide +kernel
theorem dX12_taken_84 : decode cX12_taken 84 = .ok (.invokevirtual 282, 3) := by decide +kernel
theorem dX12_taken_87 : decode cX12_taken 87 = .ok (.istore 4, 2) := by decide +kernel
theorem dX12_taken_89 : decode cX12_taken 89 = .ok (.aload_n 0, 1) := by decide +kernel
theorem dX12_taken_90 : decode cX12_taken 90 = .ok (.iload 4, 2) := by decide +kernel
theorem dX12_taken_92 : decode cX12_taken 92 = .ok (.iconst (-1), 1) := by decide +kernel
theorem dX12_taken_93 : decode cX12_taken 93 = .ok (.if_icmp .ne 7, 3) := by decide +kernel
theorem dX12_taken_96 : decode cX12_taken 96 = .ok (.iconst 1, 1) := by decide +kernel
theorem dX12_taken_97 : decode cX12_taken 97 = .ok (.goto 17, 3) := by decide +kernel
theorem dX12_taken_100 : decode cX12_taken 100 = .ok (.iload_n 3, 1) := by decide +kernel
theorem dX12_taken_101 : decode cX12_taken 101 = .ok (.ifCond .lt 8, 3) := by decide +kernel
theorem dX12_taken_104 : decode cX12_taken 104 = .ok (.iload_n 3, 1) := by decide +kernel
theorem dX12_taken_105 : decode cX12_taken 105 = .ok (.iconst 4, 1) := by decide +kernel
theorem dX12_taken_106 : decode cX12_taken 106 = .ok (.if_icmp .le 7, 3) := by decide +kernel
theorem dX12_taken_109 : decode cX12_taken 109 = .ok (.iconst 2, 1) := by decide +kernel
theorem dX12_taken_110 : decode cX12_taken 110 = .ok (.goto 4, 3) := by decide +kernel
theorem dX12_taken_113 : decode cX12_taken 113 = .ok (.iconst 0, 1) := by decide +kernel
theorem dX12_taken_114 : decode cX12_taken 114 = .ok (.putfield 120, 3) := by decide +kernel
theorem dX12_taken_117 : decode cX12_taken 117 = .ok (.aload_n 0, 1) := by decide +kernel
theorem dX12_taken_118 : decode cX12_taken 118 = .ok (.getfield 120, 3) := by decide +kernel
theorem dX12_taken_121 : decode cX12_taken 121 = .ok (.ifCond .le 5, 3) := by decide +kernel
theorem dX12_taken_124 : decode cX12_taken 124 = .ok (.iconst 0, 1) := by decide +kernel
theorem dX12_taken_125 : decode cX12_taken 125 = .ok (.ireturn, 1) := by decide +kernel
theorem dX12_taken_126 : decode cX12_taken 126 = .ok (.iload_n 3, 1) := by decide +kernel
theorem dX12_taken_127 : decode cX12_taken 127 = .ok (.ifCond .ne 11, 3) := by decide +kernel
theorem dX12_taken_130 : decode cX12_taken 130 = .ok (.aload_n 0, 1) := by decide +kernel
theorem dX12_taken_131 : decode cX12_taken 131 = .ok (.getfield 71, 3) := by decide +kernel
theorem dX12_taken_134 : decode cX12_taken 134 = .ok (.iload 4, 2) := by decide +kernel
theorem dX12_taken_136 : decode cX12_taken 136 = .ok (.iaload, 1) := by decide +kernel
theorem dX12_taken_137 : decode cX12_taken 137 = .ok (.ireturn, 1) := by decide +kernel
theorem dX12_taken_138 : decode cX12_taken 138 = .ok (.iload_n 3, 1) := by decide +kernel
theorem dX12_taken_139 : decode cX12_taken 139 = .ok (.iconst 1, 1) := by decide +kernel
theorem dX12_taken_140 : decode cX12_taken 140 = .ok (.if_icmp .ne 13, 3) := by decide +kernel
theorem dX12_taken_143 : decode cX12_taken 143 = .ok (.aload_n 0, 1) := by decide +kernel
theorem dX12_taken_144 : decode cX12_taken 144 = .ok (.getfield 74, 3) := by decide +kernel
theorem dX12_taken_147 : decode cX12_taken 147 = .ok (.iload 4, 2) := by decide +kernel
theorem dX12_taken_149 : decode cX12_taken 149 = .ok (.baload, 1) := by decide +kernel
theorem dX12_taken_150 : decode cX12_taken 150 = .ok (.goto 50, 3) := by decide +kernel
theorem dX12_taken_153 : decode cX12_taken 153 = .ok (.iload_n 3, 1) := by decide +kernel
theorem dX12_taken_154 : decode cX12_taken 154 = .ok (.iconst 2, 1) := by decide +kernel
theorem dX12_taken_155 : decode cX12_taken 155 = .ok (.if_icmp .ne 13, 3) := by decide +kernel
theorem dX12_taken_158 : decode cX12_taken 158 = .ok (.aload_n 0, 1) := by decide +kernel
theorem dX12_taken_159 : decode cX12_taken 159 = .ok (.getfield 77, 3) := by decide +kernel
theorem dX12_taken_162 : decode cX12_taken 162 = .ok (.iload 4, 2) := by decide +kernel
theorem dX12_taken_164 : decode cX12_taken 164 = .ok (.baload, 1) := by decide +kernel
theorem dX12_taken_165 : decode cX12_taken 165 = .ok (.goto 35, 3) := by decide +kernel
theorem dX12_taken_168 : decode cX12_taken 168 = .ok (.iload_n 3, 1) := by decide +kernel
theorem dX12_taken_169 : decode cX12_taken 169 = .ok (.iconst 3, 1) := by decide +kernel
theorem dX12_taken_170 : decode cX12_taken 170 = .ok (.if_icmp .ne 23, 3) := by decide +kernel
theorem dX12_taken_173 : decode cX12_taken 173 = .ok (.aload_n 0, 1) := by decide +kernel
theorem dX12_taken_174 : decode cX12_taken 174 = .ok (.getfield 74, 3) := by decide +kernel
theorem dX12_taken_177 : decode cX12_taken 177 = .ok (.iload 4, 2) := by decide +kernel
theorem dX12_taken_179 : decode cX12_taken 179 = .ok (.baload, 1) := by decide +kernel
theorem dX12_taken_180 : decode cX12_taken 180 = .ok (.aload_n 0, 1) := by decide +kernel
theorem dX12_taken_181 : decode cX12_taken 181 = .ok (.getfield 77, 3) := by decide +kernel
theorem dX12_taken_184 : decode cX12_taken 184 = .ok (.iload 4, 2) := by decide +kernel
theorem dX12_taken_186 : decode cX12_taken 186 = .ok (.baload, 1) := by decide +kernel
theorem dX12_taken_187 : decode cX12_taken 187 = .ok (.invokestatic 146, 3) := by decide +kernel
theorem dX12_taken_190 : decode cX12_taken 190 = .ok (.goto 10, 3) := by decide +kernel
theorem dX12_taken_193 : decode cX12_taken 193 = .ok (.aload_n 0, 1) := by decide +kernel
theorem dX12_taken_194 : decode cX12_taken 194 = .ok (.getfield 80, 3) := by decide +kernel
theorem dX12_taken_197 : decode cX12_taken 197 = .ok (.iload 4, 2) := by decide +kernel
theorem dX12_taken_199 : decode cX12_taken 199 = .ok (.iaload, 1) := by decide +kernel
theorem dX12_taken_200 : decode cX12_taken 200 = .ok (.ireturn, 1) := by decide +kernel
theorem cwX12_taken : mw_cwV yX12_taken cX12_taken 6 ((some .int)) 3 := ⟨⟨wd_15, wd_3861, by decide +kernel⟩, wd_3859, wd_3860⟩
set_option maxHeartbeats 4000000 in
set_option maxRecDepth 100000 in
theorem tX12_taken (l : Launch) (G : mwG) (ad : Nat → Nat) (fu : Nat) (a1 : Int32) (a2 : Int32) (a3 : Int32) (M : mwM) (L : mwL) {r0 : Int32} {M0 : mwM} {L0 : mwL} (hD : DX12_taken fu a1 a2 a3 M L = some (r0, M0, L0)) : Met l yX12_taken (Cond.code yX12_taken cX12_taken 6 ((some .int)) :: GT) ({ frames := 1, cells := 0, slots := 0, locals := 24 }) (mw_Pre G ad NF TF FF M L [.ref (ad 821), .int a1, .int a2, .int a3]) (mw_Qi G ad NF TF FF (mw_eqI r0 M0 L0)) 0 0 (mw_fr G) := by
  refine mw_enter (by decide) (Nat.le_of_ble_eq_true rfl) ?_
  intro p e s m below meth c ls C hr hlocks hnm hw hl
  have hl : lv_has ls 6 [(0, .ref (ad 821)), (1, .int a1), (2, .int a2), (3, .int a3)] := hl
  have hh41 : ∀ (f : Nat) (v4 : Int32) (v5 : Int32) (M : mwM) (L : mwL) (H : Heap) (locs : List Loc) (ls : Array Slot), fX12_taken_h41 fu a1 a2 a3 f (v4, v5, M, L) = some (r0, M0, L0) → mw_W G ad NF TF FF M L H locs → lv_has ls 6 [(0, .ref (ad 821)), (1, .int a1), (4, .int v4), (5, .int v5)] → W p l e ({ frames := 1, cells := 0, slots := 0, locals := 24 }) s m [.ref (ad 821), .int a1, .int a2, .int a3].toArray below meth c H locs 0 0 (MQ below (mw_Qi G ad NF TF FF (mw_eqI r0 M0 L0)) [.ref (ad 821), .int a1, .int a2, .int a3].toArray s 0 0 (mw_fr G)) (F0 m 41 ls []) := by
    intro f
    induction f with
    | zero => intro v4 v5 M L H locs ls hD; cases hD
    | succ f41 ih41 =>
      intro v4 v5 M L H locs ls hD hw hl
      replace hD : fX12_taken_i41 fu a1 a2 a3 (fX12_taken_h41 fu a1 a2 a3 f41) v4 v5 M L = some (r0, M0, L0) := hD
      have hb70 : ∀ (v5 : Int32) (s0 : Int32) (M : mwM) (L : mwL) (H : Heap) (locs : List Loc) (ls : Array Slot), fX12_taken_b70 fu a1 a2 a3 (fX12_taken_h41 fu a1 a2 a3 f41) v5 s0 M L = some (r0, M0, L0) → mw_W G ad NF TF FF M L H locs → lv_has ls 6 [(0, .ref (ad 821)), (1, .int a1), (5, .int v5)] → W p l e ({ frames := 1, cells := 0, slots := 0, locals := 24 }) s m [.ref (ad 821), .int a1, .int a2, .int a3].toArray below meth c H locs 0 0 (MQ below (mw_Qi G ad NF TF FF (mw_eqI r0 M0 L0)) [.ref (ad 821), .int a1, .int a2, .int a3].toArray s 0 0 (mw_fr G)) (F0 m 70 ls [.int s0]) := by
        intro v5 s0 M L H locs ls hD hw hl
        unfold fX12_taken_b70 at hD
        refine lv_istore (lv' := [(4, .int s0), (0, .ref (ad 821)), (1, .int a1), (5, .int v5)]) C.1.1 C.1.2.1 dX12_taken_70 hl (by decide) rfl (fun ls hl => ?_)
        obtain ⟨x8, ex8, hD⟩ := g_let hD
        refine lv_iinc (v := x8) (lv' := [(5, .int x8), (4, .int s0), (0, .ref (ad 821)), (1, .int a1)]) C.1.1 C.1.2.1 dX12_taken_72 hl (k := 3) rfl (by rw [ex8]; rfl) (by decide) rfl (fun ls hl => ?_)
        refine lv_goto (tgt := 41) C.1.1 C.1.2.1 dX12_taken_75 (by decide) ?_
        exact ih41 s0 x8 M L _ _ ls hD hw (lv_sub hl [2, 3, 1, 0] rfl)
      unfold fX12_taken_i41 at hD
      refine lv_iload C.1.1 C.1.2.1 dX12_taken_41 (lv_at hl 3 rfl) ?_
      refine lv_aload_n C.1.1 C.1.2.1 dX12_taken_43 rfl (lv_at hl 0 rfl) ?_
      refine mr_getI C hw kc_12 22 (by decide) tf_821 wd_2122 dX12_taken_44 (by decide) rfl ?_
      refine lv_icmp_ge (tgt := 78) C.1.1 C.1.2.1 dX12_taken_47 (by decide) (fun c5 => ?_) (fun c5 => ?_)
      · replace hD := g_pos c5 hD
        refine lv_iload C.1.1 C.1.2.1 dX12_taken_78 (lv_at hl 2 rfl) ?_
        exact mr_iret C hr hlocks hw rfl (Option.some.inj hD) dX12_taken_80
      · replace hD := g_neg c5 hD
        refine lv_aload_n C.1.1 C.1.2.1 dX12_taken_50 rfl (lv_at hl 0 rfl) ?_
        refine mr_getR C hw kc_12 23 (by decide) tf_821 ff_821_23 wd_2123 dX12_taken_51 (by decide) rfl ?_
        refine lv_iload C.1.1 C.1.2.1 dX12_taken_54 (lv_at hl 3 rfl) ?_
        obtain ⟨q6, hD⟩ := g_ck hD
        refine mr_iald C hw (by decide) tf_839 q6 dX12_taken_56 ?_
        refine lv_iload_n C.1.1 C.1.2.1 dX12_taken_57 rfl (lv_at hl 1 rfl) ?_
        refine lv_icmp_ne (tgt := 68) C.1.1 C.1.2.1 dX12_taken_58 (by decide) (fun c7 => ?_) (fun c7 => ?_)
        · replace hD := g_neg c7 hD
          refine lv_iload C.1.1 C.1.2.1 dX12_taken_68 (lv_at hl 2 rfl) ?_
          exact hb70 v5 v4 M L _ _ ls hD hw (lv_sub hl [0, 1, 3] rfl)
        · replace hD := g_pos c7 hD
          refine lv_iload C.1.1 C.1.2.1 dX12_taken_61 (lv_at hl 2 rfl) ?_
          refine lv_iconst (v := 1) C.1.1 C.1.2.1 dX12_taken_63 (by decide) ?_
          refine lv_iadd C.1.1 C.1.2.1 dX12_taken_64 ?_
          refine lv_goto (tgt := 70) C.1.1 C.1.2.1 dX12_taken_65 (by decide) ?_
          exact hb70 v5 (v4 + 1) M L _ _ ls hD hw (lv_sub hl [0, 1, 3] rfl)
  have hb200 : ∀ (s0 : Int32) (M : mwM) (L : mwL) (H : Heap) (locs : List Loc) (ls : Array Slot), fX12_taken_b200 fu a1 a2 a3 s0 M L = some (r0, M0, L0) → mw_W G ad NF TF FF M L H locs → lv_has ls 6 [] → W p l e ({ frames := 1, cells := 0, slots := 0, locals := 24 }) s m [.ref (ad 821), .int a1, .int a2, .int a3].toArray below meth c H locs 0 0 (MQ below (mw_Qi G ad NF TF FF (mw_eqI r0 M0 L0)) [.ref (ad 821), .int a1, .int a2, .int a3].toArray s 0 0 (mw_fr G)) (F0 m 200 ls [.int s0]) := by
    intro s0 M L H locs ls hD hw hl
    unfold fX12_taken_b200 at hD
    exact mr_iret C hr hlocks hw rfl (Option.some.inj hD) dX12_taken_200
  have hb114 : ∀ (v4 : Int32) (s1 : Int32) (M : mwM) (L : mwL) (H : Heap) (locs : List Loc) (ls : Array Slot), fX12_taken_b114 fu a1 a2 a3 v4 s1 M L = some (r0, M0, L0) → mw_W G ad NF TF FF M L H locs → lv_has ls 6 [(0, .ref (ad 821)), (3, .int a3), (4, .int v4)] → W p l e ({ frames := 1, cells := 0, slots := 0, locals := 24 }) s m [.ref (ad 821), .int a1, .int a2, .int a3].toArray below meth c H locs 0 0 (MQ below (mw_Qi G ad NF TF FF (mw_eqI r0 M0 L0)) [.ref (ad 821), .int a1, .int a2, .int a3].toArray s 0 0 (mw_fr G)) (F0 m 114 ls [.int s1, .ref (ad 821)]) := by
    intro v4 s1 M L H locs ls hD hw hl
    unfold fX12_taken_b114 at hD
    obtain ⟨M15, eM15, hD⟩ := g_let hD
    refine mr_putI C hw kc_12 0 (by decide) tf_821 wd_2100 dX12_taken_114 (by decide) rfl rfl rfl rfl (fun H locs hw => ?_)
    replace hw : mw_W G ad NF TF FF M15 L H locs := by rw [eM15]; exact hw
    refine lv_aload_n C.1.1 C.1.2.1 dX12_taken_117 rfl (lv_at hl 0 rfl) ?_
    refine mr_getI C hw kc_12 0 (by decide) tf_821 wd_2100 dX12_taken_118 (by decide) rfl ?_
    refine lv_if_le (tgt := 126) C.1.1 C.1.2.1 dX12_taken_121 (by decide) (fun c16 => ?_) (fun c16 => ?_)
    · replace hD := g_pos c16 hD
      refine lv_iload_n C.1.1 C.1.2.1 dX12_taken_126 rfl (lv_at hl 1 rfl) ?_
      refine lv_if_ne (tgt := 138) C.1.1 C.1.2.1 dX12_taken_127 (by decide) (fun c17 => ?_) (fun c17 => ?_)
      · replace hD := g_neg c17 hD
        refine lv_iload_n C.1.1 C.1.2.1 dX12_taken_138 rfl (lv_at hl 1 rfl) ?_
        refine lv_iconst (v := 1) C.1.1 C.1.2.1 dX12_taken_139 (by decide) ?_
        refine lv_icmp_ne (tgt := 153) C.1.1 C.1.2.1 dX12_taken_140 (by decide) (fun c18 => ?_) (fun c18 => ?_)
        · replace hD := g_neg c18 hD
          refine lv_iload_n C.1.1 C.1.2.1 dX12_taken_153 rfl (lv_at hl 1 rfl) ?_
          refine lv_iconst (v := 2) C.1.1 C.1.2.1 dX12_taken_154 (by decide) ?_
          refine lv_icmp_ne (tgt := 168) C.1.1 C.1.2.1 dX12_taken_155 (by decide) (fun c19 => ?_) (fun c19 => ?_)
          · replace hD := g_neg c19 hD
            refine lv_iload_n C.1.1 C.1.2.1 dX12_taken_168 rfl (lv_at hl 1 rfl) ?_
            refine lv_iconst (v := 3) C.1.1 C.1.2.1 dX12_taken_169 (by decide) ?_
            refine lv_icmp_ne (tgt := 193) C.1.1 C.1.2.1 dX12_taken_170 (by decide) (fun c20 => ?_) (fun c20 => ?_)
            · replace hD := g_neg c20 hD
              refine lv_aload_n C.1.1 C.1.2.1 dX12_taken_193 rfl (lv_at hl 0 rfl) ?_
              refine mr_getR C hw kc_12 27 (by decide) tf_821 ff_821_27 wd_2127 dX12_taken_194 (by decide) rfl ?_
              refine lv_iload C.1.1 C.1.2.1 dX12_taken_197 (lv_at hl 2 rfl) ?_
              obtain ⟨q21, hD⟩ := g_ck hD
              refine mr_iald C hw (by decide) tf_843 q21 dX12_taken_199 ?_
              exact hb200 (M15 843 v4.toNatClampNeg) M15 L _ _ ls hD hw (lv_sub hl [] rfl)
            · replace hD := g_pos c20 hD
              refine lv_aload_n C.1.1 C.1.2.1 dX12_taken_173 rfl (lv_at hl 0 rfl) ?_
              refine mr_getR C hw kc_12 25 (by decide) tf_821 ff_821_25 wd_2125 dX12_taken_174 (by decide) rfl ?_
              refine lv_iload C.1.1 C.1.2.1 dX12_taken_177 (lv_at hl 2 rfl) ?_
              obtain ⟨q22, hD⟩ := g_ck hD
              refine mr_bald C hw (by decide) tf_841 q22 dX12_taken_179 ?_
              refine lv_aload_n C.1.1 C.1.2.1 dX12_taken_180 rfl (lv_at hl 0 rfl) ?_
              refine mr_getR C hw kc_12 26 (by decide) tf_821 ff_821_26 wd_2126 dX12_taken_181 (by decide) rfl ?_
              refine lv_iload C.1.1 C.1.2.1 dX12_taken_184 (lv_at hl 2 rfl) ?_
              obtain ⟨q23, hD⟩ := g_ck hD
              refine mr_bald C hw (by decide) tf_842 q23 dX12_taken_186 ?_
              obtain ⟨r26, M24, L25, h1, hD⟩ := g_b3 hD
              refine md_csI (As := [.int (M15 841 v4.toNatClampNeg), .int (M15 842 v4.toNatClampNeg)]) (rest := []) C hw (tX12_octetsOf l G ad fu (M15 841 v4.toNatClampNeg) (M15 842 v4.toNatClampNeg) M15 L h1) wd_3639 cwX12_octetsOf ⟨Nat.le_of_ble_eq_true rfl, Nat.le_of_ble_eq_true rfl⟩ rfl hl.1 (Nat.le_of_ble_eq_true rfl) dX12_taken_187 rfl rfl ⟨Nat.zero_le _, Nat.zero_le _⟩ rfl (fun H locs hw => ?_)
              refine lv_goto (tgt := 200) C.1.1 C.1.2.1 dX12_taken_190 (by decide) ?_
              exact hb200 r26 M24 L25 _ _ ls hD hw (lv_sub hl [] rfl)
          · replace hD := g_pos c19 hD
            refine lv_aload_n C.1.1 C.1.2.1 dX12_taken_158 rfl (lv_at hl 0 rfl) ?_
            refine mr_getR C hw kc_12 26 (by decide) tf_821 ff_821_26 wd_2126 dX12_taken_159 (by decide) rfl ?_
            refine lv_iload C.1.1 C.1.2.1 dX12_taken_162 (lv_at hl 2 rfl) ?_
            obtain ⟨q27, hD⟩ := g_ck hD
            refine mr_bald C hw (by decide) tf_842 q27 dX12_taken_164 ?_
            refine lv_goto (tgt := 200) C.1.1 C.1.2.1 dX12_taken_165 (by decide) ?_
            exact hb200 (M15 842 v4.toNatClampNeg) M15 L _ _ ls hD hw (lv_sub hl [] rfl)
        · replace hD := g_pos c18 hD
          refine lv_aload_n C.1.1 C.1.2.1 dX12_taken_143 rfl (lv_at hl 0 rfl) ?_
          refine mr_getR C hw kc_12 25 (by decide) tf_821 ff_821_25 wd_2125 dX12_taken_144 (by decide) rfl ?_
          refine lv_iload C.1.1 C.1.2.1 dX12_taken_147 (lv_at hl 2 rfl) ?_
          obtain ⟨q28, hD⟩ := g_ck hD
          refine mr_bald C hw (by decide) tf_841 q28 dX12_taken_149 ?_
          refine lv_goto (tgt := 200) C.1.1 C.1.2.1 dX12_taken_150 (by decide) ?_
          exact hb200 (M15 841 v4.toNatClampNeg) M15 L _ _ ls hD hw (lv_sub hl [] rfl)
      · replace hD := g_pos c17 hD
        refine lv_aload_n C.1.1 C.1.2.1 dX12_taken_130 rfl (lv_at hl 0 rfl) ?_
        refine mr_getR C hw kc_12 24 (by decide) tf_821 ff_821_24 wd_2124 dX12_taken_131 (by decide) rfl ?_
        refine lv_iload C.1.1 C.1.2.1 dX12_taken_134 (lv_at hl 2 rfl) ?_
        obtain ⟨q29, hD⟩ := g_ck hD
        refine mr_iald C hw (by decide) tf_840 q29 dX12_taken_136 ?_
        exact mr_iret C hr hlocks hw rfl (Option.some.inj hD) dX12_taken_137
    · replace hD := g_neg c16 hD
      refine lv_iconst (v := 0) C.1.1 C.1.2.1 dX12_taken_124 (by decide) ?_
      exact mr_iret C hr hlocks hw rfl (Option.some.inj hD) dX12_taken_125
  have hb109 : ∀ (v4 : Int32) (M : mwM) (L : mwL) (H : Heap) (locs : List Loc) (ls : Array Slot), fX12_taken_b109 fu a1 a2 a3 v4 M L = some (r0, M0, L0) → mw_W G ad NF TF FF M L H locs → lv_has ls 6 [(0, .ref (ad 821)), (3, .int a3), (4, .int v4)] → W p l e ({ frames := 1, cells := 0, slots := 0, locals := 24 }) s m [.ref (ad 821), .int a1, .int a2, .int a3].toArray below meth c H locs 0 0 (MQ below (mw_Qi G ad NF TF FF (mw_eqI r0 M0 L0)) [.ref (ad 821), .int a1, .int a2, .int a3].toArray s 0 0 (mw_fr G)) (F0 m 109 ls [.ref (ad 821)]) := by
    intro v4 M L H locs ls hD hw hl
    unfold fX12_taken_b109 at hD
    refine lv_iconst (v := 2) C.1.1 C.1.2.1 dX12_taken_109 (by decide) ?_
    refine lv_goto (tgt := 114) C.1.1 C.1.2.1 dX12_taken_110 (by decide) ?_
    exact hb114 v4 2 M L _ _ ls hD hw (lv_sub hl [0, 1, 2] rfl)
  have hb81 : ∀ (M : mwM) (L : mwL) (H : Heap) (locs : List Loc) (ls : Array Slot), fX12_taken_b81 fu a1 a2 a3 M L = some (r0, M0, L0) → mw_W G ad NF TF FF M L H locs → lv_has ls 6 [(0, .ref (ad 821)), (1, .int a1), (2, .int a2), (3, .int a3)] → W p l e ({ frames := 1, cells := 0, slots := 0, locals := 24 }) s m [.ref (ad 821), .int a1, .int a2, .int a3].toArray below meth c H locs 0 0 (MQ below (mw_Qi G ad NF TF FF (mw_eqI r0 M0 L0)) [.ref (ad 821), .int a1, .int a2, .int a3].toArray s 0 0 (mw_fr G)) (F0 m 81 ls []) := by
    intro M L H locs ls hD hw hl
    unfold fX12_taken_b81 at hD
    refine lv_aload_n C.1.1 C.1.2.1 dX12_taken_81 rfl (lv_at hl 0 rfl) ?_
    refine lv_iload_n C.1.1 C.1.2.1 dX12_taken_82 rfl (lv_at hl 1 rfl) ?_
    refine lv_iload_n C.1.1 C.1.2.1 dX12_taken_83 rfl (lv_at hl 2 rfl) ?_
    obtain ⟨r11, M9, L10, h1, hD⟩ := g_b3 hD
    refine md_cvI (As := [.int a1, .int a2]) (rest := []) C hw (tX12_took l G ad fu a1 a2 M L h1) kc_12 (by decide) tf_821 wd_3862 cwX12_took ⟨Nat.le_of_ble_eq_true rfl, Nat.le_of_ble_eq_true rfl⟩ rfl hl.1 (Nat.le_of_ble_eq_true rfl) dX12_taken_84 rfl rfl ⟨Nat.zero_le _, Nat.zero_le _⟩ rfl (fun H locs hw => ?_)
    refine lv_istore (lv' := [(4, .int r11), (0, .ref (ad 821)), (1, .int a1), (2, .int a2), (3, .int a3)]) C.1.1 C.1.2.1 dX12_taken_87 hl (by decide) rfl (fun ls hl => ?_)
    refine lv_aload_n C.1.1 C.1.2.1 dX12_taken_89 rfl (lv_at hl 1 rfl) ?_
    refine lv_iload C.1.1 C.1.2.1 dX12_taken_90 (lv_at hl 0 rfl) ?_
    refine lv_iconst (v := (-1)) C.1.1 C.1.2.1 dX12_taken_92 (by decide) ?_
    refine lv_icmp_ne (tgt := 100) C.1.1 C.1.2.1 dX12_taken_93 (by decide) (fun c12 => ?_) (fun c12 => ?_)
    · replace hD := g_neg c12 hD
      refine lv_iload_n C.1.1 C.1.2.1 dX12_taken_100 rfl (lv_at hl 4 rfl) ?_
      refine lv_if_lt (tgt := 109) C.1.1 C.1.2.1 dX12_taken_101 (by decide) (fun c13 => ?_) (fun c13 => ?_)
      · replace hD := g_pos c13 hD
        exact hb109 r11 M9 L10 _ _ ls hD hw (lv_sub hl [1, 4, 0] rfl)
      · replace hD := g_neg c13 hD
        refine lv_iload_n C.1.1 C.1.2.1 dX12_taken_104 rfl (lv_at hl 4 rfl) ?_
        refine lv_iconst (v := 4) C.1.1 C.1.2.1 dX12_taken_105 (by decide) ?_
        refine lv_icmp_le (tgt := 113) C.1.1 C.1.2.1 dX12_taken_106 (by decide) (fun c14 => ?_) (fun c14 => ?_)
        · replace hD := g_pos c14 hD
          refine lv_iconst (v := 0) C.1.1 C.1.2.1 dX12_taken_113 (by decide) ?_
          exact hb114 r11 0 M9 L10 _ _ ls hD hw (lv_sub hl [1, 4, 0] rfl)
        · replace hD := g_neg c14 hD
          exact hb109 r11 M9 L10 _ _ ls hD hw (lv_sub hl [1, 4, 0] rfl)
    · replace hD := g_pos c12 hD
      refine lv_iconst (v := 1) C.1.1 C.1.2.1 dX12_taken_96 (by decide) ?_
      refine lv_goto (tgt := 114) C.1.1 C.1.2.1 dX12_taken_97 (by decide) ?_
      exact hb114 r11 1 M9 L10 _ _ ls hD hw (lv_sub hl [1, 4, 0] rfl)
  have hb14 : ∀ (s1 : Int32) (M : mwM) (L : mwL) (H : Heap) (locs : List Loc) (ls : Array Slot), fX12_taken_b14 fu a1 a2 a3 s1 M L = some (r0, M0, L0) → mw_W G ad NF TF FF M L H locs → lv_has ls 6 [(0, .ref (ad 821)), (1, .int a1), (2, .int a2), (3, .int a3)] → W p l e ({ frames := 1, cells := 0, slots := 0, locals := 24 }) s m [.ref (ad 821), .int a1, .int a2, .int a3].toArray below meth c H locs 0 0 (MQ below (mw_Qi G ad NF TF FF (mw_eqI r0 M0 L0)) [.ref (ad 821), .int a1, .int a2, .int a3].toArray s 0 0 (mw_fr G)) (F0 m 14 ls [.int s1, .ref (ad 821)]) := by
    intro s1 M L H locs ls hD hw hl
    unfold fX12_taken_b14 at hD
    obtain ⟨M1, eM1, hD⟩ := g_let hD
    refine mr_putI C hw kc_12 0 (by decide) tf_821 wd_2100 dX12_taken_14 (by decide) rfl rfl rfl rfl (fun H locs hw => ?_)
    replace hw : mw_W G ad NF TF FF M1 L H locs := by rw [eM1]; exact hw
    refine lv_aload_n C.1.1 C.1.2.1 dX12_taken_17 rfl (lv_at hl 0 rfl) ?_
    refine mr_getI C hw kc_12 0 (by decide) tf_821 wd_2100 dX12_taken_18 (by decide) rfl ?_
    refine lv_if_le (tgt := 26) C.1.1 C.1.2.1 dX12_taken_21 (by decide) (fun c2 => ?_) (fun c2 => ?_)
    · replace hD := g_pos c2 hD
      refine lv_iload_n C.1.1 C.1.2.1 dX12_taken_26 rfl (lv_at hl 2 rfl) ?_
      refine lv_iconst (v := (-1)) C.1.1 C.1.2.1 dX12_taken_27 (by decide) ?_
      refine lv_icmp_ne (tgt := 81) C.1.1 C.1.2.1 dX12_taken_28 (by decide) (fun c3 => ?_) (fun c3 => ?_)
      · replace hD := g_neg c3 hD
        exact hb81 M1 L _ _ ls hD hw (lv_sub hl [0, 1, 2, 3] rfl)
      · replace hD := g_pos c3 hD
        refine lv_iload_n C.1.1 C.1.2.1 dX12_taken_31 rfl (lv_at hl 3 rfl) ?_
        refine lv_if_ne (tgt := 81) C.1.1 C.1.2.1 dX12_taken_32 (by decide) (fun c4 => ?_) (fun c4 => ?_)
        · replace hD := g_neg c4 hD
          exact hb81 M1 L _ _ ls hD hw (lv_sub hl [0, 1, 2, 3] rfl)
        · replace hD := g_pos c4 hD
          refine lv_iconst (v := 0) C.1.1 C.1.2.1 dX12_taken_35 (by decide) ?_
          refine lv_istore (lv' := [(4, .int 0), (0, .ref (ad 821)), (1, .int a1), (2, .int a2), (3, .int a3)]) C.1.1 C.1.2.1 dX12_taken_36 hl (by decide) rfl (fun ls hl => ?_)
          refine lv_iconst (v := 0) C.1.1 C.1.2.1 dX12_taken_38 (by decide) ?_
          refine lv_istore (lv' := [(5, .int 0), (4, .int 0), (0, .ref (ad 821)), (1, .int a1), (2, .int a2), (3, .int a3)]) C.1.1 C.1.2.1 dX12_taken_39 hl (by decide) rfl (fun ls hl => ?_)
          exact hh41 fu 0 0 M1 L _ _ ls hD hw (lv_sub hl [2, 3, 1, 0] rfl)
    · replace hD := g_neg c2 hD
      refine lv_iconst (v := 0) C.1.1 C.1.2.1 dX12_taken_24 (by decide) ?_
      exact mr_iret C hr hlocks hw rfl (Option.some.inj hD) dX12_taken_25
  unfold DX12_taken at hD
  refine lv_aload_n C.1.1 C.1.2.1 dX12_taken_0 rfl (lv_at hl 0 rfl) ?_
  refine lv_aload_n C.1.1 C.1.2.1 dX12_taken_1 rfl (lv_at hl 0 rfl) ?_
  refine lv_iload_n C.1.1 C.1.2.1 dX12_taken_2 rfl (lv_at hl 1 rfl) ?_
  obtain ⟨r32, M30, L31, h1, hD⟩ := g_b3 hD
  refine md_cvI (As := [.int a1]) (rest := [.ref (ad 821)]) C hw (tX12_noNode l G ad fu a1 M L h1) kc_12 (by decide) tf_821 wd_3623 cwX12_noNode ⟨Nat.le_of_ble_eq_true rfl, Nat.le_of_ble_eq_true rfl⟩ rfl hl.1 (Nat.le_of_ble_eq_true rfl) dX12_taken_3 rfl rfl ⟨Nat.zero_le _, Nat.zero_le _⟩ rfl (fun H locs hw => ?_)
  refine lv_if_eq (tgt := 13) C.1.1 C.1.2.1 dX12_taken_6 (by decide) (fun c33 => ?_) (fun c33 => ?_)
  · replace hD := g_pos c33 hD
    refine lv_iconst (v := 0) C.1.1 C.1.2.1 dX12_taken_13 (by decide) ?_
    exact hb14 0 M30 L31 _ _ ls hD hw (lv_sub hl [0, 1, 2, 3] rfl)
  · replace hD := g_neg c33 hD
    refine lv_iconst (v := 1) C.1.1 C.1.2.1 dX12_taken_9 (by decide) ?_
    refine lv_goto (tgt := 14) C.1.1 C.1.2.1 dX12_taken_10 (by decide) ?_
    exact hb14 1 M30 L31 _ _ ls hD hw (lv_sub hl [0, 1, 2, 3] rfl)

theorem dX12_takenOctet_0 : decode cX12_takenOctet 0 = .ok (.aload_n 0, 1) := by decide +kernel
theorem dX12_takenOctet_1 : decode cX12_takenOctet 1 = .ok (.iload_n 1, 1) := by decide +kernel
theorem dX12_takenOctet_2 : decode cX12_takenOctet 2 = .ok (.invokevirtual 139, 3) := by decide +kernel
theorem dX12_takenOctet_5 : decode cX12_takenOctet 5 = .ok (.ifCond .eq 7, 3) := by decide +kernel
theorem dX12_takenOctet_8 : decode cX12_takenOctet 8 = .ok (.iconst (-1), 1) := by decide +kernel
theorem dX12_takenOctet_9 : decode cX12_takenOctet 9 = .ok (.goto 9, 3) := by decide +kernel
theorem dX12_takenOctet_12 : decode cX12_takenOctet 12 = .ok (.aload_n 0, 1) := by decide +kernel
theorem dX12_takenOctet_13 : decode cX12_takenOctet 13 = .ok (.iload_n 1, 1) := by decide +kernel
theorem dX12_takenOctet_14 : decode cX12_takenOctet 14 = .ok (.iload_n 2, 1) := by decide +kernel
theorem dX12_takenOctet_15 : decode cX12_takenOctet 15 = .ok (.invokevirtual 282, 3) := by decide +kernel
theorem dX12_takenOctet_18 : decode cX12_takenOctet 18 = .ok (.istore 4, 2) := by decide +kernel
theorem dX12_takenOctet_20 : decode cX12_takenOctet 20 = .ok (.aload_n 0, 1) := by decide +kernel
theorem dX12_takenOctet_21 : decode cX12_takenOctet 21 = .ok (.iload 4, 2) := by decide +kernel
theorem dX12_takenOctet_23 : decode cX12_takenOctet 23 = .ok (.iconst (-1), 1) := by decide +kernel
theorem dX12_takenOctet_24 : decode cX12_takenOctet 24 = .ok (.if_icmp .eq 7, 3) := by decide +kernel
theorem dX12_takenOctet_27 : decode cX12_takenOctet 27 = .ok (.iload_n 3, 1) := by decide +kernel
theorem dX12_takenOctet_28 : decode cX12_takenOctet 28 = .ok (.ifCond .ge 7, 3) := by decide +kernel
theorem dX12_takenOctet_31 : decode cX12_takenOctet 31 = .ok (.iconst 1, 1) := by decide +kernel
theorem dX12_takenOctet_32 : decode cX12_takenOctet 32 = .ok (.goto 29, 3) := by decide +kernel
theorem dX12_takenOctet_35 : decode cX12_takenOctet 35 = .ok (.iload_n 3, 1) := by decide +kernel
theorem dX12_takenOctet_36 : decode cX12_takenOctet 36 = .ok (.aload_n 0, 1) := by decide +kernel
theorem dX12_takenOctet_37 : decode cX12_takenOctet 37 = .ok (.getfield 74, 3) := by decide +kernel
theorem dX12_takenOctet_40 : decode cX12_takenOctet 40 = .ok (.iload 4, 2) := by decide +kernel
theorem dX12_takenOctet_42 : decode cX12_takenOctet 42 = .ok (.baload, 1) := by decide +kernel
theorem dX12_takenOctet_43 : decode cX12_takenOctet 43 = .ok (.aload_n 0, 1) := by decide +kernel
theorem dX12_takenOctet_44 : decode cX12_takenOctet 44 = .ok (.getfield 77, 3) := by decide +kernel
theorem dX12_takenOctet_47 : decode cX12_takenOctet 47 = .ok (.iload 4, 2) := by decide +kernel
theorem dX12_takenOctet_49 : decode cX12_takenOctet 49 = .ok (.baload, 1) := by decide +kernel
theorem dX12_takenOctet_50 : decode cX12_takenOctet 50 = .ok (.invokestatic 146, 3) := by decide +kernel
theorem dX12_takenOctet_53 : decode cX12_takenOctet 53 = .ok (.if_icmp .lt 7, 3) := by decide +kernel
theorem dX12_takenOctet_56 : decode cX12_takenOctet 56 = .ok (.iconst 1, 1) := by decide +kernel
theorem dX12_takenOctet_57 : decode cX12_takenOctet 57 = .ok (.goto 4, 3) := by decide +kernel
theorem dX12_takenOctet_60 : decode cX12_takenOctet 60 = .ok (.iconst 0, 1) := by decide +kernel
theorem dX12_takenOctet_61 : decode cX12_takenOctet 61 = .ok (.putfield 120, 3) := by decide +kernel
theorem dX12_takenOctet_64 : decode cX12_takenOctet 64 = .ok (.aload_n 0, 1) := by decide +kernel
theorem dX12_takenOctet_65 : decode cX12_takenOctet 65 = .ok (.getfield 120, 3) := by decide +kernel
theorem dX12_takenOctet_68 : decode cX12_takenOctet 68 = .ok (.ifCond .le 7, 3) := by decide +kernel
theorem dX12_takenOctet_71 : decode cX12_takenOctet 71 = .ok (.iconst 0, 1) := by decide +kernel
theorem dX12_takenOctet_72 : decode cX12_takenOctet 72 = .ok (.goto 19, 3) := by decide +kernel
theorem dX12_takenOctet_75 : decode cX12_takenOctet 75 = .ok (.aload_n 0, 1) := by decide +kernel
theorem dX12_takenOctet_76 : decode cX12_takenOctet 76 = .ok (.getfield 84, 3) := by decide +kernel
theorem dX12_takenOctet_79 : decode cX12_takenOctet 79 = .ok (.bipush 64, 2) := by decide +kernel
theorem dX12_takenOctet_81 : decode cX12_takenOctet 81 = .ok (.iload 4, 2) := by decide +kernel
theorem dX12_takenOctet_83 : decode cX12_takenOctet 83 = .ok (.imul, 1) := by decide +kernel
theorem dX12_takenOctet_84 : decode cX12_takenOctet 84 = .ok (.iload_n 3, 1) := by decide +kernel
theorem dX12_takenOctet_85 : decode cX12_takenOctet 85 = .ok (.iadd, 1) := by decide +kernel
theorem dX12_takenOctet_86 : decode cX12_takenOctet 86 = .ok (.baload, 1) := by decide +kernel
theorem dX12_takenOctet_87 : decode cX12_takenOctet 87 = .ok (.sipush 255, 3) := by decide +kernel
theorem dX12_takenOctet_90 : decode cX12_takenOctet 90 = .ok (.iand, 1) := by decide +kernel
theorem dX12_takenOctet_91 : decode cX12_takenOctet 91 = .ok (.ireturn, 1) := by decide +kernel
theorem cwX12_takenOctet : mw_cwV yX12_takenOctet cX12_takenOctet 5 ((some .int)) 3 := ⟨⟨wd_15, wd_3869, by decide +kernel⟩, wd_3867, wd_3868⟩
set_option maxHeartbeats 4000000 in
set_option maxRecDepth 100000 in
theorem tX12_takenOctet (l : Launch) (G : mwG) (ad : Nat → Nat) (fu : Nat) (a1 : Int32) (a2 : Int32) (a3 : Int32) (M : mwM) (L : mwL) {r0 : Int32} {M0 : mwM} {L0 : mwL} (hD : DX12_takenOctet fu a1 a2 a3 M L = some (r0, M0, L0)) : Met l yX12_takenOctet (Cond.code yX12_takenOctet cX12_takenOctet 5 ((some .int)) :: GT) ({ frames := 1, cells := 0, slots := 0, locals := 24 }) (mw_Pre G ad NF TF FF M L [.ref (ad 821), .int a1, .int a2, .int a3]) (mw_Qi G ad NF TF FF (mw_eqI r0 M0 L0)) 0 0 (mw_fr G) := by
  refine mw_enter (by decide) (Nat.le_of_ble_eq_true rfl) ?_
  intro p e s m below meth c ls C hr hlocks hnm hw hl
  have hl : lv_has ls 5 [(0, .ref (ad 821)), (1, .int a1), (2, .int a2), (3, .int a3)] := hl
  have hb91 : ∀ (s0 : Int32) (M : mwM) (L : mwL) (H : Heap) (locs : List Loc) (ls : Array Slot), fX12_takenOctet_b91 fu a1 a2 a3 s0 M L = some (r0, M0, L0) → mw_W G ad NF TF FF M L H locs → lv_has ls 5 [] → W p l e ({ frames := 1, cells := 0, slots := 0, locals := 24 }) s m [.ref (ad 821), .int a1, .int a2, .int a3].toArray below meth c H locs 0 0 (MQ below (mw_Qi G ad NF TF FF (mw_eqI r0 M0 L0)) [.ref (ad 821), .int a1, .int a2, .int a3].toArray s 0 0 (mw_fr G)) (F0 m 91 ls [.int s0]) := by
    intro s0 M L H locs ls hD hw hl
    unfold fX12_takenOctet_b91 at hD
    exact mr_iret C hr hlocks hw rfl (Option.some.inj hD) dX12_takenOctet_91
  have hb61 : ∀ (v4 : Int32) (s1 : Int32) (M : mwM) (L : mwL) (H : Heap) (locs : List Loc) (ls : Array Slot), fX12_takenOctet_b61 fu a1 a2 a3 v4 s1 M L = some (r0, M0, L0) → mw_W G ad NF TF FF M L H locs → lv_has ls 5 [(0, .ref (ad 821)), (3, .int a3), (4, .int v4)] → W p l e ({ frames := 1, cells := 0, slots := 0, locals := 24 }) s m [.ref (ad 821), .int a1, .int a2, .int a3].toArray below meth c H locs 0 0 (MQ below (mw_Qi G ad NF TF FF (mw_eqI r0 M0 L0)) [.ref (ad 821), .int a1, .int a2, .int a3].toArray s 0 0 (mw_fr G)) (F0 m 61 ls [.int s1, .ref (ad 821)]) := by
    intro v4 s1 M L H locs ls hD hw hl
    unfold fX12_takenOctet_b61 at hD
    obtain ⟨M9, eM9, hD⟩ := g_let hD
    refine mr_putI C hw kc_12 0 (by decide) tf_821 wd_2100 dX12_takenOctet_61 (by decide) rfl rfl rfl rfl (fun H locs hw => ?_)
    replace hw : mw_W G ad NF TF FF M9 L H locs := by rw [eM9]; exact hw
    refine lv_aload_n C.1.1 C.1.2.1 dX12_takenOctet_64 rfl (lv_at hl 0 rfl) ?_
    refine mr_getI C hw kc_12 0 (by decide) tf_821 wd_2100 dX12_takenOctet_65 (by decide) rfl ?_
    refine lv_if_le (tgt := 75) C.1.1 C.1.2.1 dX12_takenOctet_68 (by decide) (fun c10 => ?_) (fun c10 => ?_)
    · replace hD := g_pos c10 hD
      refine lv_aload_n C.1.1 C.1.2.1 dX12_takenOctet_75 rfl (lv_at hl 0 rfl) ?_
      refine mr_getR C hw kc_12 28 (by decide) tf_821 ff_821_28 wd_2128 dX12_takenOctet_76 (by decide) rfl ?_
      refine lv_bipush (v := 64) C.1.1 C.1.2.1 dX12_takenOctet_79 (by decide) ?_
      refine lv_iload C.1.1 C.1.2.1 dX12_takenOctet_81 (lv_at hl 2 rfl) ?_
      refine lv_imul C.1.1 C.1.2.1 dX12_takenOctet_83 ?_
      refine lv_iload_n C.1.1 C.1.2.1 dX12_takenOctet_84 rfl (lv_at hl 1 rfl) ?_
      refine lv_iadd C.1.1 C.1.2.1 dX12_takenOctet_85 ?_
      obtain ⟨q11, hD⟩ := g_ck hD
      refine mr_bald C hw (by decide) tf_844 q11 dX12_takenOctet_86 ?_
      refine lv_sipush (v := 255) C.1.1 C.1.2.1 dX12_takenOctet_87 (by decide) ?_
      refine lv_iand C.1.1 C.1.2.1 dX12_takenOctet_90 ?_
      exact hb91 ((M9 844 ((64 * v4) + a3).toNatClampNeg) &&& 255) M9 L _ _ ls hD hw (lv_sub hl [] rfl)
    · replace hD := g_neg c10 hD
      refine lv_iconst (v := 0) C.1.1 C.1.2.1 dX12_takenOctet_71 (by decide) ?_
      refine lv_goto (tgt := 91) C.1.1 C.1.2.1 dX12_takenOctet_72 (by decide) ?_
      exact hb91 0 M9 L _ _ ls hD hw (lv_sub hl [] rfl)
  have hb31 : ∀ (v4 : Int32) (M : mwM) (L : mwL) (H : Heap) (locs : List Loc) (ls : Array Slot), fX12_takenOctet_b31 fu a1 a2 a3 v4 M L = some (r0, M0, L0) → mw_W G ad NF TF FF M L H locs → lv_has ls 5 [(0, .ref (ad 821)), (3, .int a3), (4, .int v4)] → W p l e ({ frames := 1, cells := 0, slots := 0, locals := 24 }) s m [.ref (ad 821), .int a1, .int a2, .int a3].toArray below meth c H locs 0 0 (MQ below (mw_Qi G ad NF TF FF (mw_eqI r0 M0 L0)) [.ref (ad 821), .int a1, .int a2, .int a3].toArray s 0 0 (mw_fr G)) (F0 m 31 ls [.ref (ad 821)]) := by
    intro v4 M L H locs ls hD hw hl
    unfold fX12_takenOctet_b31 at hD
    refine lv_iconst (v := 1) C.1.1 C.1.2.1 dX12_takenOctet_31 (by decide) ?_
    refine lv_goto (tgt := 61) C.1.1 C.1.2.1 dX12_takenOctet_32 (by decide) ?_
    exact hb61 v4 1 M L _ _ ls hD hw (lv_sub hl [0, 1, 2] rfl)
  have hb18 : ∀ (s0 : Int32) (M : mwM) (L : mwL) (H : Heap) (locs : List Loc) (ls : Array Slot), fX12_takenOctet_b18 fu a1 a2 a3 s0 M L = some (r0, M0, L0) → mw_W G ad NF TF FF M L H locs → lv_has ls 5 [(0, .ref (ad 821)), (3, .int a3)] → W p l e ({ frames := 1, cells := 0, slots := 0, locals := 24 }) s m [.ref (ad 821), .int a1, .int a2, .int a3].toArray below meth c H locs 0 0 (MQ below (mw_Qi G ad NF TF FF (mw_eqI r0 M0 L0)) [.ref (ad 821), .int a1, .int a2, .int a3].toArray s 0 0 (mw_fr G)) (F0 m 18 ls [.int s0]) := by
    intro s0 M L H locs ls hD hw hl
    unfold fX12_takenOctet_b18 at hD
    refine lv_istore (lv' := [(4, .int s0), (0, .ref (ad 821)), (3, .int a3)]) C.1.1 C.1.2.1 dX12_takenOctet_18 hl (by decide) rfl (fun ls hl => ?_)
    refine lv_aload_n C.1.1 C.1.2.1 dX12_takenOctet_20 rfl (lv_at hl 1 rfl) ?_
    refine lv_iload C.1.1 C.1.2.1 dX12_takenOctet_21 (lv_at hl 0 rfl) ?_
    refine lv_iconst (v := (-1)) C.1.1 C.1.2.1 dX12_takenOctet_23 (by decide) ?_
    refine lv_icmp_eq (tgt := 31) C.1.1 C.1.2.1 dX12_takenOctet_24 (by decide) (fun c1 => ?_) (fun c1 => ?_)
    · replace hD := g_pos c1 hD
      exact hb31 s0 M L _ _ ls hD hw (lv_sub hl [1, 2, 0] rfl)
    · replace hD := g_neg c1 hD
      refine lv_iload_n C.1.1 C.1.2.1 dX12_takenOctet_27 rfl (lv_at hl 2 rfl) ?_
      refine lv_if_ge (tgt := 35) C.1.1 C.1.2.1 dX12_takenOctet_28 (by decide) (fun c2 => ?_) (fun c2 => ?_)
      · replace hD := g_pos c2 hD
        refine lv_iload_n C.1.1 C.1.2.1 dX12_takenOctet_35 rfl (lv_at hl 2 rfl) ?_
        refine lv_aload_n C.1.1 C.1.2.1 dX12_takenOctet_36 rfl (lv_at hl 1 rfl) ?_
        refine mr_getR C hw kc_12 25 (by decide) tf_821 ff_821_25 wd_2125 dX12_takenOctet_37 (by decide) rfl ?_
        refine lv_iload C.1.1 C.1.2.1 dX12_takenOctet_40 (lv_at hl 0 rfl) ?_
        obtain ⟨q3, hD⟩ := g_ck hD
        refine mr_bald C hw (by decide) tf_841 q3 dX12_takenOctet_42 ?_
        refine lv_aload_n C.1.1 C.1.2.1 dX12_takenOctet_43 rfl (lv_at hl 1 rfl) ?_
        refine mr_getR C hw kc_12 26 (by decide) tf_821 ff_821_26 wd_2126 dX12_takenOctet_44 (by decide) rfl ?_
        refine lv_iload C.1.1 C.1.2.1 dX12_takenOctet_47 (lv_at hl 0 rfl) ?_
        obtain ⟨q4, hD⟩ := g_ck hD
        refine mr_bald C hw (by decide) tf_842 q4 dX12_takenOctet_49 ?_
        obtain ⟨r7, M5, L6, h1, hD⟩ := g_b3 hD
        refine md_csI (As := [.int (M 841 s0.toNatClampNeg), .int (M 842 s0.toNatClampNeg)]) (rest := [.int a3, .ref (ad 821)]) C hw (tX12_octetsOf l G ad fu (M 841 s0.toNatClampNeg) (M 842 s0.toNatClampNeg) M L h1) wd_3639 cwX12_octetsOf ⟨Nat.le_of_ble_eq_true rfl, Nat.le_of_ble_eq_true rfl⟩ rfl hl.1 (Nat.le_of_ble_eq_true rfl) dX12_takenOctet_50 rfl rfl ⟨Nat.zero_le _, Nat.zero_le _⟩ rfl (fun H locs hw => ?_)
        refine lv_icmp_lt (tgt := 60) C.1.1 C.1.2.1 dX12_takenOctet_53 (by decide) (fun c8 => ?_) (fun c8 => ?_)
        · replace hD := g_pos c8 hD
          refine lv_iconst (v := 0) C.1.1 C.1.2.1 dX12_takenOctet_60 (by decide) ?_
          exact hb61 s0 0 M5 L6 _ _ ls hD hw (lv_sub hl [1, 2, 0] rfl)
        · replace hD := g_neg c8 hD
          refine lv_iconst (v := 1) C.1.1 C.1.2.1 dX12_takenOctet_56 (by decide) ?_
          refine lv_goto (tgt := 61) C.1.1 C.1.2.1 dX12_takenOctet_57 (by decide) ?_
          exact hb61 s0 1 M5 L6 _ _ ls hD hw (lv_sub hl [1, 2, 0] rfl)
      · replace hD := g_neg c2 hD
        exact hb31 s0 M L _ _ ls hD hw (lv_sub hl [1, 2, 0] rfl)
  unfold DX12_takenOctet at hD
  refine lv_aload_n C.1.1 C.1.2.1 dX12_takenOctet_0 rfl (lv_at hl 0 rfl) ?_
  refine lv_iload_n C.1.1 C.1.2.1 dX12_takenOctet_1 rfl (lv_at hl 1 rfl) ?_
  obtain ⟨r14, M12, L13, h1, hD⟩ := g_b3 hD
  refine md_cvI (As := [.int a1]) (rest := []) C hw (tX12_noNode l G ad fu a1 M L h1) kc_12 (by decide) tf_821 wd_3623 cwX12_noNode ⟨Nat.le_of_ble_eq_true rfl, Nat.le_of_ble_eq_true rfl⟩ rfl hl.1 (Nat.le_of_ble_eq_true rfl) dX12_takenOctet_2 rfl rfl ⟨Nat.zero_le _, Nat.zero_le _⟩ rfl (fun H locs hw => ?_)
  refine lv_if_eq (tgt := 12) C.1.1 C.1.2.1 dX12_takenOctet_5 (by decide) (fun c15 => ?_) (fun c15 => ?_)
  · replace hD := g_pos c15 hD
    refine lv_aload_n C.1.1 C.1.2.1 dX12_takenOctet_12 rfl (lv_at hl 0 rfl) ?_
    refine lv_iload_n C.1.1 C.1.2.1 dX12_takenOctet_13 rfl (lv_at hl 1 rfl) ?_
    refine lv_iload_n C.1.1 C.1.2.1 dX12_takenOctet_14 rfl (lv_at hl 2 rfl) ?_
    obtain ⟨r18, M16, L17, h1, hD⟩ := g_b3 hD
    refine md_cvI (As := [.int a1, .int a2]) (rest := []) C hw (tX12_took l G ad fu a1 a2 M12 L13 h1) kc_12 (by decide) tf_821 wd_3862 cwX12_took ⟨Nat.le_of_ble_eq_true rfl, Nat.le_of_ble_eq_true rfl⟩ rfl hl.1 (Nat.le_of_ble_eq_true rfl) dX12_takenOctet_15 rfl rfl ⟨Nat.zero_le _, Nat.zero_le _⟩ rfl (fun H locs hw => ?_)
    exact hb18 r18 M16 L17 _ _ ls hD hw (lv_sub hl [0, 3] rfl)
  · replace hD := g_neg c15 hD
    refine lv_iconst (v := (-1)) C.1.1 C.1.2.1 dX12_takenOctet_8 (by decide) ?_
    refine lv_goto (tgt := 18) C.1.1 C.1.2.1 dX12_takenOctet_9 (by decide) ?_
    exact hb18 ((-1)) M12 L13 _ _ ls hD hw (lv_sub hl [0, 3] rfl)

theorem dX12_error_0 : decode cX12_error 0 = .ok (.aload_n 0, 1) := by decide +kernel
theorem dX12_error_1 : decode cX12_error 1 = .ok (.iconst 0, 1) := by decide +kernel
theorem dX12_error_2 : decode cX12_error 2 = .ok (.putfield 120, 3) := by decide +kernel
theorem dX12_error_5 : decode cX12_error 5 = .ok (.iload_n 1, 1) := by decide +kernel
theorem dX12_error_6 : decode cX12_error 6 = .ok (.iconst (-1), 1) := by decide +kernel
theorem dX12_error_7 : decode cX12_error 7 = .ok (.if_icmp .ne 12, 3) := by decide +kernel
theorem dX12_error_10 : decode cX12_error 10 = .ok (.iload_n 2, 1) := by decide +kernel
theorem dX12_error_11 : decode cX12_error 11 = .ok (.ifCond .ne 8, 3) := by decide +kernel
theorem dX12_error_14 : decode cX12_error 14 = .ok (.aload_n 0, 1) := by decide +kernel
theorem dX12_error_15 : decode cX12_error 15 = .ok (.getfield 135, 3) := by decide +kernel
theorem dX12_error_18 : decode cX12_error 18 = .ok (.ireturn, 1) := by decide +kernel
theorem dX12_error_19 : decode cX12_error 19 = .ok (.aload_n 0, 1) := by decide +kernel
theorem dX12_error_20 : decode cX12_error 20 = .ok (.iload_n 1, 1) := by decide +kernel
theorem dX12_error_21 : decode cX12_error 21 = .ok (.ifCond .lt 11, 3) := by decide +kernel
theorem dX12_error_24 : decode cX12_error 24 = .ok (.iload_n 1, 1) := by decide +kernel
theorem dX12_error_25 : decode cX12_error 25 = .ok (.aload_n 0, 1) := by decide +kernel
theorem dX12_error_26 : decode cX12_error 26 = .ok (.getfield 135, 3) := by decide +kernel
theorem dX12_error_29 : decode cX12_error 29 = .ok (.if_icmp .lt 7, 3) := by decide +kernel
theorem dX12_error_32 : decode cX12_error 32 = .ok (.iconst 1, 1) := by decide +kernel
theorem dX12_error_33 : decode cX12_error 33 = .ok (.goto 17, 3) := by decide +kernel
theorem dX12_error_36 : decode cX12_error 36 = .ok (.iload_n 2, 1) := by decide +kernel
theorem dX12_error_37 : decode cX12_error 37 = .ok (.ifCond .lt 8, 3) := by decide +kernel
theorem dX12_error_40 : decode cX12_error 40 = .ok (.iload_n 2, 1) := by decide +kernel
theorem dX12_error_41 : decode cX12_error 41 = .ok (.iconst 2, 1) := by decide +kernel
theorem dX12_error_42 : decode cX12_error 42 = .ok (.if_icmp .le 7, 3) := by decide +kernel
theorem dX12_error_45 : decode cX12_error 45 = .ok (.iconst 2, 1) := by decide +kernel
theorem dX12_error_46 : decode cX12_error 46 = .ok (.goto 4, 3) := by decide +kernel
theorem dX12_error_49 : decode cX12_error 49 = .ok (.iconst 0, 1) := by decide +kernel
theorem dX12_error_50 : decode cX12_error 50 = .ok (.putfield 120, 3) := by decide +kernel
theorem dX12_error_53 : decode cX12_error 53 = .ok (.aload_n 0, 1) := by decide +kernel
theorem dX12_error_54 : decode cX12_error 54 = .ok (.getfield 120, 3) := by decide +kernel
theorem dX12_error_57 : decode cX12_error 57 = .ok (.ifCond .le 5, 3) := by decide +kernel
theorem dX12_error_60 : decode cX12_error 60 = .ok (.iconst 0, 1) := by decide +kernel
theorem dX12_error_61 : decode cX12_error 61 = .ok (.ireturn, 1) := by decide +kernel
theorem dX12_error_62 : decode cX12_error 62 = .ok (.iload_n 2, 1) := by decide +kernel
theorem dX12_error_63 : decode cX12_error 63 = .ok (.ifCond .ne 12, 3) := by decide +kernel
theorem dX12_error_66 : decode cX12_error 66 = .ok (.aload_n 0, 1) := by decide +kernel
theorem dX12_error_67 : decode cX12_error 67 = .ok (.getfield 87, 3) := by decide +kernel
theorem dX12_error_70 : decode cX12_error 70 = .ok (.iload_n 1, 1) := by decide +kernel
theorem dX12_error_71 : decode cX12_error 71 = .ok (.baload, 1) := by decide +kernel
theorem dX12_error_72 : decode cX12_error 72 = .ok (.goto 23, 3) := by decide +kernel
theorem dX12_error_75 : decode cX12_error 75 = .ok (.iload_n 2, 1) := by decide +kernel
theorem dX12_error_76 : decode cX12_error 76 = .ok (.iconst 1, 1) := by decide +kernel
theorem dX12_error_77 : decode cX12_error 77 = .ok (.if_icmp .ne 12, 3) := by decide +kernel
theorem dX12_error_80 : decode cX12_error 80 = .ok (.aload_n 0, 1) := by decide +kernel
theorem dX12_error_81 : decode cX12_error 81 = .ok (.getfield 90, 3) := by decide +kernel
theorem dX12_error_84 : decode cX12_error 84 = .ok (.iload_n 1, 1) := by decide +kernel
theorem dX12_error_85 : decode cX12_error 85 = .ok (.baload, 1) := by decide +kernel
theorem dX12_error_86 : decode cX12_error 86 = .ok (.goto 9, 3) := by decide +kernel
theorem dX12_error_89 : decode cX12_error 89 = .ok (.aload_n 0, 1) := by decide +kernel
theorem dX12_error_90 : decode cX12_error 90 = .ok (.getfield 93, 3) := by decide +kernel
theorem dX12_error_93 : decode cX12_error 93 = .ok (.iload_n 1, 1) := by decide +kernel
theorem dX12_error_94 : decode cX12_error 94 = .ok (.iaload, 1) := by decide +kernel
theorem dX12_error_95 : decode cX12_error 95 = .ok (.ireturn, 1) := by decide +kernel
theorem cwX12_error : mw_cwV yX12_error cX12_error 3 ((some .int)) 2 := ⟨⟨wd_15, wd_4233, by decide +kernel⟩, wd_4231, wd_4232⟩
set_option maxHeartbeats 4000000 in
set_option maxRecDepth 100000 in
theorem tX12_error (l : Launch) (G : mwG) (ad : Nat → Nat) (fu : Nat) (a1 : Int32) (a2 : Int32) (M : mwM) (L : mwL) {r0 : Int32} {M0 : mwM} {L0 : mwL} (hD : DX12_error fu a1 a2 M L = some (r0, M0, L0)) : Met l yX12_error (Cond.code yX12_error cX12_error 3 ((some .int)) :: GT) ({ frames := 0, cells := 0, slots := 0, locals := 0 }) (mw_Pre G ad NF TF FF M L [.ref (ad 821), .int a1, .int a2]) (mw_Qi G ad NF TF FF (mw_eqI r0 M0 L0)) 0 0 (mw_fr G) := by
  refine mw_enter (by decide) (Nat.le_of_ble_eq_true rfl) ?_
  intro p e s m below meth c ls C hr hlocks hnm hw hl
  have hl : lv_has ls 3 [(0, .ref (ad 821)), (1, .int a1), (2, .int a2)] := hl
  have hb95 : ∀ (s0 : Int32) (M : mwM) (L : mwL) (H : Heap) (locs : List Loc) (ls : Array Slot), fX12_error_b95 fu a1 a2 s0 M L = some (r0, M0, L0) → mw_W G ad NF TF FF M L H locs → lv_has ls 3 [] → W p l e ({ frames := 0, cells := 0, slots := 0, locals := 0 }) s m [.ref (ad 821), .int a1, .int a2].toArray below meth c H locs 0 0 (MQ below (mw_Qi G ad NF TF FF (mw_eqI r0 M0 L0)) [.ref (ad 821), .int a1, .int a2].toArray s 0 0 (mw_fr G)) (F0 m 95 ls [.int s0]) := by
    intro s0 M L H locs ls hD hw hl
    unfold fX12_error_b95 at hD
    exact mr_iret C hr hlocks hw rfl (Option.some.inj hD) dX12_error_95
  have hb50 : ∀ (s1 : Int32) (M : mwM) (L : mwL) (H : Heap) (locs : List Loc) (ls : Array Slot), fX12_error_b50 fu a1 a2 s1 M L = some (r0, M0, L0) → mw_W G ad NF TF FF M L H locs → lv_has ls 3 [(0, .ref (ad 821)), (1, .int a1), (2, .int a2)] → W p l e ({ frames := 0, cells := 0, slots := 0, locals := 0 }) s m [.ref (ad 821), .int a1, .int a2].toArray below meth c H locs 0 0 (MQ below (mw_Qi G ad NF TF FF (mw_eqI r0 M0 L0)) [.ref (ad 821), .int a1, .int a2].toArray s 0 0 (mw_fr G)) (F0 m 50 ls [.int s1, .ref (ad 821)]) := by
    intro s1 M L H locs ls hD hw hl
    unfold fX12_error_b50 at hD
    obtain ⟨M5, eM5, hD⟩ := g_let hD
    refine mr_putI C hw kc_12 0 (by decide) tf_821 wd_2100 dX12_error_50 (by decide) rfl rfl rfl rfl (fun H locs hw => ?_)
    replace hw : mw_W G ad NF TF FF M5 L H locs := by rw [eM5]; exact hw
    refine lv_aload_n C.1.1 C.1.2.1 dX12_error_53 rfl (lv_at hl 0 rfl) ?_
    refine mr_getI C hw kc_12 0 (by decide) tf_821 wd_2100 dX12_error_54 (by decide) rfl ?_
    refine lv_if_le (tgt := 62) C.1.1 C.1.2.1 dX12_error_57 (by decide) (fun c6 => ?_) (fun c6 => ?_)
    · replace hD := g_pos c6 hD
      refine lv_iload_n C.1.1 C.1.2.1 dX12_error_62 rfl (lv_at hl 2 rfl) ?_
      refine lv_if_ne (tgt := 75) C.1.1 C.1.2.1 dX12_error_63 (by decide) (fun c7 => ?_) (fun c7 => ?_)
      · replace hD := g_neg c7 hD
        refine lv_iload_n C.1.1 C.1.2.1 dX12_error_75 rfl (lv_at hl 2 rfl) ?_
        refine lv_iconst (v := 1) C.1.1 C.1.2.1 dX12_error_76 (by decide) ?_
        refine lv_icmp_ne (tgt := 89) C.1.1 C.1.2.1 dX12_error_77 (by decide) (fun c8 => ?_) (fun c8 => ?_)
        · replace hD := g_neg c8 hD
          refine lv_aload_n C.1.1 C.1.2.1 dX12_error_89 rfl (lv_at hl 0 rfl) ?_
          refine mr_getR C hw kc_12 32 (by decide) tf_821 ff_821_32 wd_2132 dX12_error_90 (by decide) rfl ?_
          refine lv_iload_n C.1.1 C.1.2.1 dX12_error_93 rfl (lv_at hl 1 rfl) ?_
          obtain ⟨q9, hD⟩ := g_ck hD
          refine mr_iald C hw (by decide) tf_847 q9 dX12_error_94 ?_
          exact hb95 (M5 847 a1.toNatClampNeg) M5 L _ _ ls hD hw (lv_sub hl [] rfl)
        · replace hD := g_pos c8 hD
          refine lv_aload_n C.1.1 C.1.2.1 dX12_error_80 rfl (lv_at hl 0 rfl) ?_
          refine mr_getR C hw kc_12 31 (by decide) tf_821 ff_821_31 wd_2131 dX12_error_81 (by decide) rfl ?_
          refine lv_iload_n C.1.1 C.1.2.1 dX12_error_84 rfl (lv_at hl 1 rfl) ?_
          obtain ⟨q10, hD⟩ := g_ck hD
          refine mr_bald C hw (by decide) tf_846 q10 dX12_error_85 ?_
          refine lv_goto (tgt := 95) C.1.1 C.1.2.1 dX12_error_86 (by decide) ?_
          exact hb95 (M5 846 a1.toNatClampNeg) M5 L _ _ ls hD hw (lv_sub hl [] rfl)
      · replace hD := g_pos c7 hD
        refine lv_aload_n C.1.1 C.1.2.1 dX12_error_66 rfl (lv_at hl 0 rfl) ?_
        refine mr_getR C hw kc_12 30 (by decide) tf_821 ff_821_30 wd_2130 dX12_error_67 (by decide) rfl ?_
        refine lv_iload_n C.1.1 C.1.2.1 dX12_error_70 rfl (lv_at hl 1 rfl) ?_
        obtain ⟨q11, hD⟩ := g_ck hD
        refine mr_bald C hw (by decide) tf_845 q11 dX12_error_71 ?_
        refine lv_goto (tgt := 95) C.1.1 C.1.2.1 dX12_error_72 (by decide) ?_
        exact hb95 (M5 845 a1.toNatClampNeg) M5 L _ _ ls hD hw (lv_sub hl [] rfl)
    · replace hD := g_neg c6 hD
      refine lv_iconst (v := 0) C.1.1 C.1.2.1 dX12_error_60 (by decide) ?_
      exact mr_iret C hr hlocks hw rfl (Option.some.inj hD) dX12_error_61
  have hb32 : ∀ (M : mwM) (L : mwL) (H : Heap) (locs : List Loc) (ls : Array Slot), fX12_error_b32 fu a1 a2 M L = some (r0, M0, L0) → mw_W G ad NF TF FF M L H locs → lv_has ls 3 [(0, .ref (ad 821)), (1, .int a1), (2, .int a2)] → W p l e ({ frames := 0, cells := 0, slots := 0, locals := 0 }) s m [.ref (ad 821), .int a1, .int a2].toArray below meth c H locs 0 0 (MQ below (mw_Qi G ad NF TF FF (mw_eqI r0 M0 L0)) [.ref (ad 821), .int a1, .int a2].toArray s 0 0 (mw_fr G)) (F0 m 32 ls [.ref (ad 821)]) := by
    intro M L H locs ls hD hw hl
    unfold fX12_error_b32 at hD
    refine lv_iconst (v := 1) C.1.1 C.1.2.1 dX12_error_32 (by decide) ?_
    refine lv_goto (tgt := 50) C.1.1 C.1.2.1 dX12_error_33 (by decide) ?_
    exact hb50 1 M L _ _ ls hD hw (lv_sub hl [0, 1, 2] rfl)
  have hb45 : ∀ (M : mwM) (L : mwL) (H : Heap) (locs : List Loc) (ls : Array Slot), fX12_error_b45 fu a1 a2 M L = some (r0, M0, L0) → mw_W G ad NF TF FF M L H locs → lv_has ls 3 [(0, .ref (ad 821)), (1, .int a1), (2, .int a2)] → W p l e ({ frames := 0, cells := 0, slots := 0, locals := 0 }) s m [.ref (ad 821), .int a1, .int a2].toArray below meth c H locs 0 0 (MQ below (mw_Qi G ad NF TF FF (mw_eqI r0 M0 L0)) [.ref (ad 821), .int a1, .int a2].toArray s 0 0 (mw_fr G)) (F0 m 45 ls [.ref (ad 821)]) := by
    intro M L H locs ls hD hw hl
    unfold fX12_error_b45 at hD
    refine lv_iconst (v := 2) C.1.1 C.1.2.1 dX12_error_45 (by decide) ?_
    refine lv_goto (tgt := 50) C.1.1 C.1.2.1 dX12_error_46 (by decide) ?_
    exact hb50 2 M L _ _ ls hD hw (lv_sub hl [0, 1, 2] rfl)
  have hb19 : ∀ (M : mwM) (L : mwL) (H : Heap) (locs : List Loc) (ls : Array Slot), fX12_error_b19 fu a1 a2 M L = some (r0, M0, L0) → mw_W G ad NF TF FF M L H locs → lv_has ls 3 [(0, .ref (ad 821)), (1, .int a1), (2, .int a2)] → W p l e ({ frames := 0, cells := 0, slots := 0, locals := 0 }) s m [.ref (ad 821), .int a1, .int a2].toArray below meth c H locs 0 0 (MQ below (mw_Qi G ad NF TF FF (mw_eqI r0 M0 L0)) [.ref (ad 821), .int a1, .int a2].toArray s 0 0 (mw_fr G)) (F0 m 19 ls []) := by
    intro M L H locs ls hD hw hl
    unfold fX12_error_b19 at hD
    refine lv_aload_n C.1.1 C.1.2.1 dX12_error_19 rfl (lv_at hl 0 rfl) ?_
    refine lv_iload_n C.1.1 C.1.2.1 dX12_error_20 rfl (lv_at hl 1 rfl) ?_
    refine lv_if_lt (tgt := 32) C.1.1 C.1.2.1 dX12_error_21 (by decide) (fun c1 => ?_) (fun c1 => ?_)
    · replace hD := g_pos c1 hD
      exact hb32 M L _ _ ls hD hw (lv_sub hl [0, 1, 2] rfl)
    · replace hD := g_neg c1 hD
      refine lv_iload_n C.1.1 C.1.2.1 dX12_error_24 rfl (lv_at hl 1 rfl) ?_
      refine lv_aload_n C.1.1 C.1.2.1 dX12_error_25 rfl (lv_at hl 0 rfl) ?_
      refine mr_getI C hw kc_12 29 (by decide) tf_821 wd_2129 dX12_error_26 (by decide) rfl ?_
      refine lv_icmp_lt (tgt := 36) C.1.1 C.1.2.1 dX12_error_29 (by decide) (fun c2 => ?_) (fun c2 => ?_)
      · replace hD := g_pos c2 hD
        refine lv_iload_n C.1.1 C.1.2.1 dX12_error_36 rfl (lv_at hl 2 rfl) ?_
        refine lv_if_lt (tgt := 45) C.1.1 C.1.2.1 dX12_error_37 (by decide) (fun c3 => ?_) (fun c3 => ?_)
        · replace hD := g_pos c3 hD
          exact hb45 M L _ _ ls hD hw (lv_sub hl [0, 1, 2] rfl)
        · replace hD := g_neg c3 hD
          refine lv_iload_n C.1.1 C.1.2.1 dX12_error_40 rfl (lv_at hl 2 rfl) ?_
          refine lv_iconst (v := 2) C.1.1 C.1.2.1 dX12_error_41 (by decide) ?_
          refine lv_icmp_le (tgt := 49) C.1.1 C.1.2.1 dX12_error_42 (by decide) (fun c4 => ?_) (fun c4 => ?_)
          · replace hD := g_pos c4 hD
            refine lv_iconst (v := 0) C.1.1 C.1.2.1 dX12_error_49 (by decide) ?_
            exact hb50 0 M L _ _ ls hD hw (lv_sub hl [0, 1, 2] rfl)
          · replace hD := g_neg c4 hD
            exact hb45 M L _ _ ls hD hw (lv_sub hl [0, 1, 2] rfl)
      · replace hD := g_neg c2 hD
        exact hb32 M L _ _ ls hD hw (lv_sub hl [0, 1, 2] rfl)
  unfold DX12_error at hD
  refine lv_aload_n C.1.1 C.1.2.1 dX12_error_0 rfl (lv_at hl 0 rfl) ?_
  refine lv_iconst (v := 0) C.1.1 C.1.2.1 dX12_error_1 (by decide) ?_
  obtain ⟨M12, eM12, hD⟩ := g_let hD
  refine mr_putI C hw kc_12 0 (by decide) tf_821 wd_2100 dX12_error_2 (by decide) rfl rfl rfl rfl (fun H locs hw => ?_)
  replace hw : mw_W G ad NF TF FF M12 L H locs := by rw [eM12]; exact hw
  refine lv_iload_n C.1.1 C.1.2.1 dX12_error_5 rfl (lv_at hl 1 rfl) ?_
  refine lv_iconst (v := (-1)) C.1.1 C.1.2.1 dX12_error_6 (by decide) ?_
  refine lv_icmp_ne (tgt := 19) C.1.1 C.1.2.1 dX12_error_7 (by decide) (fun c13 => ?_) (fun c13 => ?_)
  · replace hD := g_neg c13 hD
    exact hb19 M12 L _ _ ls hD hw (lv_sub hl [0, 1, 2] rfl)
  · replace hD := g_pos c13 hD
    refine lv_iload_n C.1.1 C.1.2.1 dX12_error_10 rfl (lv_at hl 2 rfl) ?_
    refine lv_if_ne (tgt := 19) C.1.1 C.1.2.1 dX12_error_11 (by decide) (fun c14 => ?_) (fun c14 => ?_)
    · replace hD := g_neg c14 hD
      exact hb19 M12 L _ _ ls hD hw (lv_sub hl [0, 1, 2] rfl)
    · replace hD := g_pos c14 hD
      refine lv_aload_n C.1.1 C.1.2.1 dX12_error_14 rfl (lv_at hl 0 rfl) ?_
      refine mr_getI C hw kc_12 29 (by decide) tf_821 wd_2129 dX12_error_15 (by decide) rfl ?_
      exact mr_iret C hr hlocks hw rfl (Option.some.inj hD) dX12_error_18
