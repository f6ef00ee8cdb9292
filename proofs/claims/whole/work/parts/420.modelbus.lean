theorem dX12_writeAnew_0 : decode cX12_writeAnew 0 = .ok (.aload_n 0, 1) := by decide +kernel
theorem dX12_writeAnew_1 : decode cX12_writeAnew 1 = .ok (.iload_n 1, 1) := by decide +kernel
theorem dX12_writeAnew_2 : decode cX12_writeAnew 2 = .ok (.invokevirtual 174, 3) := by decide +kernel
theorem dX12_writeAnew_5 : decode cX12_writeAnew 5 = .ok (.aload_n 0, 1) := by decide +kernel
theorem dX12_writeAnew_6 : decode cX12_writeAnew 6 = .ok (.getfield 24, 3) := by decide +kernel
theorem dX12_writeAnew_9 : decode cX12_writeAnew 9 = .ok (.iload_n 1, 1) := by decide +kernel
theorem dX12_writeAnew_10 : decode cX12_writeAnew 10 = .ok (.iaload, 1) := by decide +kernel
theorem dX12_writeAnew_11 : decode cX12_writeAnew 11 = .ok (.iconst 2, 1) := by decide +kernel
theorem dX12_writeAnew_12 : decode cX12_writeAnew 12 = .ok (.if_icmp .eq 13, 3) := by decide +kernel
theorem dX12_writeAnew_15 : decode cX12_writeAnew 15 = .ok (.aload_n 0, 1) := by decide +kernel
theorem dX12_writeAnew_16 : decode cX12_writeAnew 16 = .ok (.getfield 24, 3) := by decide +kernel
theorem dX12_writeAnew_19 : decode cX12_writeAnew 19 = .ok (.iload_n 1, 1) := by decide +kernel
theorem dX12_writeAnew_20 : decode cX12_writeAnew 20 = .ok (.iaload, 1) := by decide +kernel
theorem dX12_writeAnew_21 : decode cX12_writeAnew 21 = .ok (.iconst 3, 1) := by decide +kernel
theorem dX12_writeAnew_22 : decode cX12_writeAnew 22 = .ok (.if_icmp .ne 7, 3) := by decide +kernel
theorem dX12_writeAnew_25 : decode cX12_writeAnew 25 = .ok (.iconst 1, 1) := by decide +kernel
theorem dX12_writeAnew_26 : decode cX12_writeAnew 26 = .ok (.goto 4, 3) := by decide +kernel
theorem dX12_writeAnew_29 : decode cX12_writeAnew 29 = .ok (.iconst 0, 1) := by decide +kernel
theorem dX12_writeAnew_30 : decode cX12_writeAnew 30 = .ok (.istore_n 2, 1) := by decide +kernel
theorem dX12_writeAnew_31 : decode cX12_writeAnew 31 = .ok (.aload_n 0, 1) := by decide +kernel
theorem dX12_writeAnew_32 : decode cX12_writeAnew 32 = .ok (.getfield 24, 3) := by decide +kernel
theorem dX12_writeAnew_35 : decode cX12_writeAnew 35 = .ok (.iload_n 1, 1) := by decide +kernel
theorem dX12_writeAnew_36 : decode cX12_writeAnew 36 = .ok (.iaload, 1) := by decide +kernel
theorem dX12_writeAnew_37 : decode cX12_writeAnew 37 = .ok (.iconst 2, 1) := by decide +kernel
theorem dX12_writeAnew_38 : decode cX12_writeAnew 38 = .ok (.irem, 1) := by decide +kernel
theorem dX12_writeAnew_39 : decode cX12_writeAnew 39 = .ok (.iconst 1, 1) := by decide +kernel
theorem dX12_writeAnew_40 : decode cX12_writeAnew 40 = .ok (.if_icmp .ne 8, 3) := by decide +kernel
theorem dX12_writeAnew_43 : decode cX12_writeAnew 43 = .ok (.bipush 32, 2) := by decide +kernel
theorem dX12_writeAnew_45 : decode cX12_writeAnew 45 = .ok (.goto 5, 3) := by decide +kernel
theorem dX12_writeAnew_48 : decode cX12_writeAnew 48 = .ok (.bipush 13, 2) := by decide +kernel
theorem dX12_writeAnew_50 : decode cX12_writeAnew 50 = .ok (.istore_n 3, 1) := by decide +kernel
theorem dX12_writeAnew_51 : decode cX12_writeAnew 51 = .ok (.iload_n 2, 1) := by decide +kernel
theorem dX12_writeAnew_52 : decode cX12_writeAnew 52 = .ok (.ifCond .ne 8, 3) := by decide +kernel
theorem dX12_writeAnew_55 : decode cX12_writeAnew 55 = .ok (.bipush 15, 2) := by decide +kernel
theorem dX12_writeAnew_57 : decode cX12_writeAnew 57 = .ok (.goto 30, 3) := by decide +kernel
theorem dX12_writeAnew_60 : decode cX12_writeAnew 60 = .ok (.aload_n 0, 1) := by decide +kernel
theorem dX12_writeAnew_61 : decode cX12_writeAnew 61 = .ok (.getfield 24, 3) := by decide +kernel
theorem dX12_writeAnew_64 : decode cX12_writeAnew 64 = .ok (.iload_n 1, 1) := by decide +kernel
theorem dX12_writeAnew_65 : decode cX12_writeAnew 65 = .ok (.iaload, 1) := by decide +kernel
theorem dX12_writeAnew_66 : decode cX12_writeAnew 66 = .ok (.aload_n 0, 1) := by decide +kernel
theorem dX12_writeAnew_67 : decode cX12_writeAnew 67 = .ok (.getfield 27, 3) := by decide +kernel
theorem dX12_writeAnew_70 : decode cX12_writeAnew 70 = .ok (.iload_n 1, 1) := by decide +kernel
theorem dX12_writeAnew_71 : decode cX12_writeAnew 71 = .ok (.iaload, 1) := by decide +kernel
theorem dX12_writeAnew_72 : decode cX12_writeAnew 72 = .ok (.invokestatic 146, 3) := by decide +kernel
theorem dX12_writeAnew_75 : decode cX12_writeAnew 75 = .ok (.bipush 16, 2) := by decide +kernel
theorem dX12_writeAnew_77 : decode cX12_writeAnew 77 = .ok (.if_icmp .le 8, 3) := by decide +kernel
theorem dX12_writeAnew_80 : decode cX12_writeAnew 80 = .ok (.bipush 21, 2) := by decide +kernel
theorem dX12_writeAnew_82 : decode cX12_writeAnew 82 = .ok (.goto 5, 3) := by decide +kernel
theorem dX12_writeAnew_85 : decode cX12_writeAnew 85 = .ok (.bipush 17, 2) := by decide +kernel
theorem dX12_writeAnew_87 : decode cX12_writeAnew 87 = .ok (.istore 4, 2) := by decide +kernel
theorem dX12_writeAnew_89 : decode cX12_writeAnew 89 = .ok (.iconst 0, 1) := by decide +kernel
theorem dX12_writeAnew_90 : decode cX12_writeAnew 90 = .ok (.istore 5, 2) := by decide +kernel
theorem dX12_writeAnew_92 : decode cX12_writeAnew 92 = .ok (.aload_n 0, 1) := by decide +kernel
theorem dX12_writeAnew_93 : decode cX12_writeAnew 93 = .ok (.iconst 0, 1) := by decide +kernel
theorem dX12_writeAnew_94 : decode cX12_writeAnew 94 = .ok (.putfield 163, 3) := by decide +kernel
theorem dX12_writeAnew_97 : decode cX12_writeAnew 97 = .ok (.aload_n 0, 1) := by decide +kernel
theorem dX12_writeAnew_98 : decode cX12_writeAnew 98 = .ok (.iconst 0, 1) := by decide +kernel
theorem dX12_writeAnew_99 : decode cX12_writeAnew 99 = .ok (.putfield 160, 3) := by decide +kernel
theorem dX12_writeAnew_102 : decode cX12_writeAnew 102 = .ok (.iconst 0, 1) := by decide +kernel
theorem dX12_writeAnew_103 : decode cX12_writeAnew 103 = .ok (.istore 6, 2) := by decide +kernel
theorem dX12_writeAnew_105 : decode cX12_writeAnew 105 = .ok (.iload 6, 2) := by decide +kernel
theorem dX12_writeAnew_107 : decode cX12_writeAnew 107 = .ok (.aload_n 0, 1) := by decide +kernel
theorem dX12_writeAnew_108 : decode cX12_writeAnew 108 = .ok (.getfield 150, 3) := by decide +kernel
theorem dX12_writeAnew_111 : decode cX12_writeAnew 111 = .ok (.if_icmp .ge 20, 3) := by decide +kernel
theorem dX12_writeAnew_114 : decode cX12_writeAnew 114 = .ok (.aload_n 0, 1) := by decide +kernel
theorem dX12_writeAnew_115 : decode cX12_writeAnew 115 = .ok (.aload_n 0, 1) := by decide +kernel
theorem dX12_writeAnew_116 : decode cX12_writeAnew 116 = .ok (.getfield 96, 3) := by decide +kernel
theorem dX12_writeAnew_119 : decode cX12_writeAnew 119 = .ok (.iload 6, 2) := by decide +kernel
theorem dX12_writeAnew_121 : decode cX12_writeAnew 121 = .ok (.baload, 1) := by decide +kernel
theorem dX12_writeAnew_122 : decode cX12_writeAnew 122 = .ok (.invokevirtual 177, 3) := by decide +kernel
theorem dX12_writeAnew_125 : decode cX12_writeAnew 125 = .ok (.iinc 6 1, 3) := by decide +kernel
theorem dX12_writeAnew_128 : decode cX12_writeAnew 128 = .ok (.goto (-23), 3) := by decide +kernel
theorem dX12_writeAnew_131 : decode cX12_writeAnew 131 = .ok (.aload_n 0, 1) := by decide +kernel
theorem dX12_writeAnew_132 : decode cX12_writeAnew 132 = .ok (.bipush 15, 2) := by decide +kernel
theorem dX12_writeAnew_134 : decode cX12_writeAnew 134 = .ok (.invokevirtual 180, 3) := by decide +kernel
theorem dX12_writeAnew_137 : decode cX12_writeAnew 137 = .ok (.istore 6, 2) := by decide +kernel
theorem dX12_writeAnew_139 : decode cX12_writeAnew 139 = .ok (.aload_n 0, 1) := by decide +kernel
theorem dX12_writeAnew_140 : decode cX12_writeAnew 140 = .ok (.iconst 0, 1) := by decide +kernel
theorem dX12_writeAnew_141 : decode cX12_writeAnew 141 = .ok (.putfield 160, 3) := by decide +kernel
theorem dX12_writeAnew_144 : decode cX12_writeAnew 144 = .ok (.aload_n 0, 1) := by decide +kernel
theorem dX12_writeAnew_145 : decode cX12_writeAnew 145 = .ok (.getfield 150, 3) := by decide +kernel
theorem dX12_writeAnew_148 : decode cX12_writeAnew 148 = .ok (.istore 7, 2) := by decide +kernel
theorem dX12_writeAnew_150 : decode cX12_writeAnew 150 = .ok (.iload_n 2, 1) := by decide +kernel
theorem dX12_writeAnew_151 : decode cX12_writeAnew 151 = .ok (.ifCond .ne 11, 3) := by decide +kernel
theorem dX12_writeAnew_154 : decode cX12_writeAnew 154 = .ok (.aload_n 0, 1) := by decide +kernel
theorem dX12_writeAnew_155 : decode cX12_writeAnew 155 = .ok (.iload 6, 2) := by decide +kernel
theorem dX12_writeAnew_157 : decode cX12_writeAnew 157 = .ok (.bipush 15, 2) := by decide +kernel
theorem dX12_writeAnew_159 : decode cX12_writeAnew 159 = .ok (.invokevirtual 153, 3) := by decide +kernel
theorem dX12_writeAnew_162 : decode cX12_writeAnew 162 = .ok (.iconst 0, 1) := by decide +kernel
theorem dX12_writeAnew_163 : decode cX12_writeAnew 163 = .ok (.istore 8, 2) := by decide +kernel
theorem dX12_writeAnew_165 : decode cX12_writeAnew 165 = .ok (.iload 8, 2) := by decide +kernel
theorem dX12_writeAnew_167 : decode cX12_writeAnew 167 = .ok (.aload_n 0, 1) := by decide +kernel
theorem dX12_writeAnew_168 : decode cX12_writeAnew 168 = .ok (.getfield 150, 3) := by decide +kernel
theorem dX12_writeAnew_171 : decode cX12_writeAnew 171 = .ok (.if_icmp .ge 103, 3) := by decide +kernel
theorem dX12_writeAnew_174 : decode cX12_writeAnew 174 = .ok (.aload_n 0, 1) := by decide +kernel
theorem dX12_writeAnew_175 : decode cX12_writeAnew 175 = .ok (.aload_n 0, 1) := by decide +kernel
theorem dX12_writeAnew_176 : decode cX12_writeAnew 176 = .ok (.getfield 96, 3) := by decide +kernel
theorem dX12_writeAnew_179 : decode cX12_writeAnew 179 = .ok (.iload 8, 2) := by decide +kernel
theorem dX12_writeAnew_181 : decode cX12_writeAnew 181 = .ok (.baload, 1) := by decide +kernel
theorem dX12_writeAnew_182 : decode cX12_writeAnew 182 = .ok (.iconst 0, 1) := by decide +kernel
theorem dX12_writeAnew_183 : decode cX12_writeAnew 183 = .ok (.invokevirtual 183, 3) := by decide +kernel
theorem dX12_writeAnew_186 : decode cX12_writeAnew 186 = .ok (.aload_n 0, 1) := by decide +kernel
theorem dX12_writeAnew_187 : decode cX12_writeAnew 187 = .ok (.aload_n 0, 1) := by decide +kernel
theorem dX12_writeAnew_188 : decode cX12_writeAnew 188 = .ok (.getfield 96, 3) := by decide +kernel
theorem dX12_writeAnew_191 : decode cX12_writeAnew 191 = .ok (.iload 8, 2) := by decide +kernel
theorem dX12_writeAnew_193 : decode cX12_writeAnew 193 = .ok (.baload, 1) := by decide +kernel
theorem dX12_writeAnew_194 : decode cX12_writeAnew 194 = .ok (.invokevirtual 177, 3) := by decide +kernel
theorem dX12_writeAnew_197 : decode cX12_writeAnew 197 = .ok (.aload_n 0, 1) := by decide +kernel
theorem dX12_writeAnew_198 : decode cX12_writeAnew 198 = .ok (.iload 8, 2) := by decide +kernel
theorem dX12_writeAnew_200 : decode cX12_writeAnew 200 = .ok (.iload_n 3, 1) := by decide +kernel
theorem dX12_writeAnew_201 : decode cX12_writeAnew 201 = .ok (.if_icmp .ne 10, 3) := by decide +kernel
theorem dX12_writeAnew_204 : decode cX12_writeAnew 204 = .ok (.aload_n 0, 1) := by decide +kernel
theorem dX12_writeAnew_205 : decode cX12_writeAnew 205 = .ok (.getfield 163, 3) := by decide +kernel
theorem dX12_writeAnew_208 : decode cX12_writeAnew 208 = .ok (.goto 7, 3) := by decide +kernel
theorem dX12_writeAnew_211 : decode cX12_writeAnew 211 = .ok (.aload_n 0, 1) := by decide +kernel
theorem dX12_writeAnew_212 : decode cX12_writeAnew 212 = .ok (.getfield 187, 3) := by decide +kernel
theorem dX12_writeAnew_215 : decode cX12_writeAnew 215 = .ok (.putfield 187, 3) := by decide +kernel
theorem dX12_writeAnew_218 : decode cX12_writeAnew 218 = .ok (.aload_n 0, 1) := by decide +kernel
theorem dX12_writeAnew_219 : decode cX12_writeAnew 219 = .ok (.invokevirtual 190, 3) := by decide +kernel
theorem dX12_writeAnew_222 : decode cX12_writeAnew 222 = .ok (.ifCond .eq 46, 3) := by decide +kernel
theorem dX12_writeAnew_225 : decode cX12_writeAnew 225 = .ok (.iload_n 2, 1) := by decide +kernel
theorem dX12_writeAnew_226 : decode cX12_writeAnew 226 = .ok (.ifCond .eq 12, 3) := by decide +kernel
theorem dX12_writeAnew_229 : decode cX12_writeAnew 229 = .ok (.iload 8, 2) := by decide +kernel
theorem dX12_writeAnew_231 : decode cX12_writeAnew 231 = .ok (.iload 7, 2) := by decide +kernel
theorem dX12_writeAnew_233 : decode cX12_writeAnew 233 = .ok (.iconst 1, 1) := by decide +kernel
theorem dX12_writeAnew_234 : decode cX12_writeAnew 234 = .ok (.isub, 1) := by decide +kernel
theorem dX12_writeAnew_235 : decode cX12_writeAnew 235 = .ok (.if_icmp .ge 33, 3) := by decide +kernel
theorem dX12_writeAnew_238 : decode cX12_writeAnew 238 = .ok (.aload_n 0, 1) := by decide +kernel
theorem dX12_writeAnew_239 : decode cX12_writeAnew 239 = .ok (.iconst 1, 1) := by decide +kernel
theorem dX12_writeAnew_240 : decode cX12_writeAnew 240 = .ok (.aload_n 0, 1) := by decide +kernel
theorem dX12_writeAnew_241 : decode cX12_writeAnew 241 = .ok (.getfield 96, 3) := by decide +kernel
theorem dX12_writeAnew_244 : decode cX12_writeAnew 244 = .ok (.iload 8, 2) := by decide +kernel
theorem dX12_writeAnew_246 : decode cX12_writeAnew 246 = .ok (.baload, 1) := by decide +kernel
theorem dX12_writeAnew_247 : decode cX12_writeAnew 247 = .ok (.isub, 1) := by decide +kernel
theorem dX12_writeAnew_248 : decode cX12_writeAnew 248 = .ok (.iconst 1, 1) := by decide +kernel
theorem dX12_writeAnew_249 : decode cX12_writeAnew 249 = .ok (.invokevirtual 183, 3) := by decide +kernel
theorem dX12_writeAnew_252 : decode cX12_writeAnew 252 = .ok (.aload_n 0, 1) := by decide +kernel
theorem dX12_writeAnew_253 : decode cX12_writeAnew 253 = .ok (.iconst 1, 1) := by decide +kernel
theorem dX12_writeAnew_254 : decode cX12_writeAnew 254 = .ok (.aload_n 0, 1) := by decide +kernel
theorem dX12_writeAnew_255 : decode cX12_writeAnew 255 = .ok (.getfield 96, 3) := by decide +kernel
theorem dX12_writeAnew_258 : decode cX12_writeAnew 258 = .ok (.iload 8, 2) := by decide +kernel
theorem dX12_writeAnew_260 : decode cX12_writeAnew 260 = .ok (.baload, 1) := by decide +kernel
theorem dX12_writeAnew_261 : decode cX12_writeAnew 261 = .ok (.isub, 1) := by decide +kernel
theorem dX12_writeAnew_262 : decode cX12_writeAnew 262 = .ok (.invokevirtual 177, 3) := by decide +kernel
theorem dX12_writeAnew_265 : decode cX12_writeAnew 265 = .ok (.iinc 5 1, 3) := by decide +kernel
theorem dX12_writeAnew_268 : decode cX12_writeAnew 268 = .ok (.iinc 8 1, 3) := by decide +kernel
theorem dX12_writeAnew_271 : decode cX12_writeAnew 271 = .ok (.goto (-106), 3) := by decide +kernel
theorem dX12_writeAnew_274 : decode cX12_writeAnew 274 = .ok (.iload_n 2, 1) := by decide +kernel
theorem dX12_writeAnew_275 : decode cX12_writeAnew 275 = .ok (.ifCond .eq 14, 3) := by decide +kernel
theorem dX12_writeAnew_278 : decode cX12_writeAnew 278 = .ok (.aload_n 0, 1) := by decide +kernel
theorem dX12_writeAnew_279 : decode cX12_writeAnew 279 = .ok (.iload 5, 2) := by decide +kernel
theorem dX12_writeAnew_281 : decode cX12_writeAnew 281 = .ok (.invokestatic 194, 3) := by decide +kernel
theorem dX12_writeAnew_284 : decode cX12_writeAnew 284 = .ok (.iload 4, 2) := by decide +kernel
theorem dX12_writeAnew_286 : decode cX12_writeAnew 286 = .ok (.invokevirtual 197, 3) := by decide +kernel
theorem dX12_writeAnew_289 : decode cX12_writeAnew 289 = .ok (.iconst 0, 1) := by decide +kernel
theorem dX12_writeAnew_290 : decode cX12_writeAnew 290 = .ok (.istore 8, 2) := by decide +kernel
theorem dX12_writeAnew_292 : decode cX12_writeAnew 292 = .ok (.iload 8, 2) := by decide +kernel
theorem dX12_writeAnew_294 : decode cX12_writeAnew 294 = .ok (.bipush 10, 2) := by decide +kernel
theorem dX12_writeAnew_296 : decode cX12_writeAnew 296 = .ok (.if_icmp .ge 15, 3) := by decide +kernel
theorem dX12_writeAnew_299 : decode cX12_writeAnew 299 = .ok (.aload_n 0, 1) := by decide +kernel
theorem dX12_writeAnew_300 : decode cX12_writeAnew 300 = .ok (.iconst 1, 1) := by decide +kernel
theorem dX12_writeAnew_301 : decode cX12_writeAnew 301 = .ok (.iconst 0, 1) := by decide +kernel
theorem dX12_writeAnew_302 : decode cX12_writeAnew 302 = .ok (.invokevirtual 183, 3) := by decide +kernel
theorem dX12_writeAnew_305 : decode cX12_writeAnew 305 = .ok (.iinc 8 1, 3) := by decide +kernel
theorem dX12_writeAnew_308 : decode cX12_writeAnew 308 = .ok (.goto (-16), 3) := by decide +kernel
theorem dX12_writeAnew_311 : decode cX12_writeAnew 311 = .ok (.return_, 1) := by decide +kernel
theorem cwX12_writeAnew : mw_cwV yX12_writeAnew cX12_writeAnew 9 (none) 1 := ⟨⟨wd_15, wd_3670, by decide +kernel⟩, wd_3669, sl_235⟩
set_option maxHeartbeats 4000000 in
set_option maxRecDepth 100000 in
theorem tX12_writeAnew (l : Launch) (G : mwG) (ad : Nat → Nat) (fu : Nat) (a1 : Int32) (M : mwM) (L : mwL) {M0 : mwM} {L0 : mwL} (hD : DX12_writeAnew fu a1 M L = some (M0, L0)) : Met l yX12_writeAnew (Cond.code yX12_writeAnew cX12_writeAnew 9 (none) :: GT) ({ frames := 2, cells := 0, slots := 0, locals := 50 }) (mw_Pre G ad NF TF FF M L [.ref (ad 821), .int a1]) (mw_Qv G ad NF TF FF (mw_eqV M0 L0)) 0 0 (mw_fr G) := by
  refine mw_enter (by decide) (Nat.le_of_ble_eq_true rfl) ?_
  intro p e s m below meth c ls C hr hlocks hnm hw hl
  have hl : lv_has ls 9 [(0, .ref (ad 821)), (1, .int a1)] := hl
  have hh292 : ∀ (f : Nat) (v8 : Int32) (M : mwM) (L : mwL) (H : Heap) (locs : List Loc) (ls : Array Slot), fX12_writeAnew_h292 fu a1 f (v8, M, L) = some (M0, L0) → mw_W G ad NF TF FF M L H locs → lv_has ls 9 [(0, .ref (ad 821)), (8, .int v8)] → W p l e ({ frames := 2, cells := 0, slots := 0, locals := 50 }) s m [.ref (ad 821), .int a1].toArray below meth c H locs 0 0 (MQ below (mw_Qv G ad NF TF FF (mw_eqV M0 L0)) [.ref (ad 821), .int a1].toArray s 0 0 (mw_fr G)) (F0 m 292 ls []) := by
    intro f
    induction f with
    | zero => intro v8 M L H locs ls hD; cases hD
    | succ f292 ih292 =>
      intro v8 M L H locs ls hD hw hl
      replace hD : fX12_writeAnew_i292 fu a1 (fX12_writeAnew_h292 fu a1 f292) v8 M L = some (M0, L0) := hD
      unfold fX12_writeAnew_i292 at hD
      refine lv_iload C.1.1 C.1.2.1 dX12_writeAnew_292 (lv_at hl 1 rfl) ?_
      refine lv_bipush (v := 10) C.1.1 C.1.2.1 dX12_writeAnew_294 (by decide) ?_
      refine lv_icmp_ge (tgt := 311) C.1.1 C.1.2.1 dX12_writeAnew_296 (by decide) (fun c55 => ?_) (fun c55 => ?_)
      · replace hD := g_pos c55 hD
        exact mr_vret C hr hlocks hw (Option.some.inj hD) dX12_writeAnew_311
      · replace hD := g_neg c55 hD
        refine lv_aload_n C.1.1 C.1.2.1 dX12_writeAnew_299 rfl (lv_at hl 0 rfl) ?_
        refine lv_iconst (v := 1) C.1.1 C.1.2.1 dX12_writeAnew_300 (by decide) ?_
        refine lv_iconst (v := 0) C.1.1 C.1.2.1 dX12_writeAnew_301 (by decide) ?_
        obtain ⟨M56, L57, h1, hD⟩ := g_b2 hD
        refine md_cvV (As := [.int 1, .int 0]) (rest := []) C hw (tX12_put l G ad fu 1 0 M L h1) kc_12 (by decide) tf_821 wd_3681 cwX12_put ⟨Nat.le_of_ble_eq_true rfl, Nat.le_of_ble_eq_true rfl⟩ rfl hl.1 (Nat.le_of_ble_eq_true rfl) dX12_writeAnew_302 rfl rfl ⟨Nat.zero_le _, Nat.zero_le _⟩ rfl (fun H locs hw => ?_)
        obtain ⟨x58, ex58, hD⟩ := g_let hD
        refine lv_iinc (v := x58) (lv' := [(8, .int x58), (0, .ref (ad 821))]) C.1.1 C.1.2.1 dX12_writeAnew_305 hl (k := 1) rfl (by rw [ex58]; rfl) (by decide) rfl (fun ls hl => ?_)
        refine lv_goto (tgt := 292) C.1.1 C.1.2.1 dX12_writeAnew_308 (by decide) ?_
        exact ih292 x58 M56 L57 _ _ ls hD hw (lv_sub hl [1, 0] rfl)
  have hb289 : ∀ (M : mwM) (L : mwL) (H : Heap) (locs : List Loc) (ls : Array Slot), fX12_writeAnew_b289 fu a1 M L = some (M0, L0) → mw_W G ad NF TF FF M L H locs → lv_has ls 9 [(0, .ref (ad 821))] → W p l e ({ frames := 2, cells := 0, slots := 0, locals := 50 }) s m [.ref (ad 821), .int a1].toArray below meth c H locs 0 0 (MQ below (mw_Qv G ad NF TF FF (mw_eqV M0 L0)) [.ref (ad 821), .int a1].toArray s 0 0 (mw_fr G)) (F0 m 289 ls []) := by
    intro M L H locs ls hD hw hl
    unfold fX12_writeAnew_b289 at hD
    refine lv_iconst (v := 0) C.1.1 C.1.2.1 dX12_writeAnew_289 (by decide) ?_
    refine lv_istore (lv' := [(8, .int 0), (0, .ref (ad 821))]) C.1.1 C.1.2.1 dX12_writeAnew_290 hl (by decide) rfl (fun ls hl => ?_)
    exact hh292 fu 0 M L _ _ ls hD hw (lv_sub hl [1, 0] rfl)
  have hh165 : ∀ (f : Nat) (v2 : Int32) (v3 : Int32) (v4 : Int32) (v5 : Int32) (v7 : Int32) (v8 : Int32) (M : mwM) (L : mwL) (H : Heap) (locs : List Loc) (ls : Array Slot), fX12_writeAnew_h165 fu a1 f (v2, v3, v4, v5, v7, v8, M, L) = some (M0, L0) → mw_W G ad NF TF FF M L H locs → lv_has ls 9 [(0, .ref (ad 821)), (2, .int v2), (3, .int v3), (4, .int v4), (5, .int v5), (7, .int v7), (8, .int v8)] → W p l e ({ frames := 2, cells := 0, slots := 0, locals := 50 }) s m [.ref (ad 821), .int a1].toArray below meth c H locs 0 0 (MQ below (mw_Qv G ad NF TF FF (mw_eqV M0 L0)) [.ref (ad 821), .int a1].toArray s 0 0 (mw_fr G)) (F0 m 165 ls []) := by
    intro f
    induction f with
    | zero => intro v2 v3 v4 v5 v7 v8 M L H locs ls hD; cases hD
    | succ f165 ih165 =>
      intro v2 v3 v4 v5 v7 v8 M L H locs ls hD hw hl
      replace hD : fX12_writeAnew_i165 fu a1 (fX12_writeAnew_h165 fu a1 f165) v2 v3 v4 v5 v7 v8 M L = some (M0, L0) := hD
      have hb268 : ∀ (v2 : Int32) (v3 : Int32) (v4 : Int32) (v5 : Int32) (v7 : Int32) (v8 : Int32) (M : mwM) (L : mwL) (H : Heap) (locs : List Loc) (ls : Array Slot), fX12_writeAnew_b268 fu a1 (fX12_writeAnew_h165 fu a1 f165) v2 v3 v4 v5 v7 v8 M L = some (M0, L0) → mw_W G ad NF TF FF M L H locs → lv_has ls 9 [(0, .ref (ad 821)), (2, .int v2), (3, .int v3), (4, .int v4), (5, .int v5), (7, .int v7), (8, .int v8)] → W p l e ({ frames := 2, cells := 0, slots := 0, locals := 50 }) s m [.ref (ad 821), .int a1].toArray below meth c H locs 0 0 (MQ below (mw_Qv G ad NF TF FF (mw_eqV M0 L0)) [.ref (ad 821), .int a1].toArray s 0 0 (mw_fr G)) (F0 m 268 ls []) := by
        intro v2 v3 v4 v5 v7 v8 M L H locs ls hD hw hl
        unfold fX12_writeAnew_b268 at hD
        obtain ⟨x54, ex54, hD⟩ := g_let hD
        refine lv_iinc (v := x54) (lv' := [(8, .int x54), (0, .ref (ad 821)), (2, .int v2), (3, .int v3), (4, .int v4), (5, .int v5), (7, .int v7)]) C.1.1 C.1.2.1 dX12_writeAnew_268 hl (k := 6) rfl (by rw [ex54]; rfl) (by decide) rfl (fun ls hl => ?_)
        refine lv_goto (tgt := 165) C.1.1 C.1.2.1 dX12_writeAnew_271 (by decide) ?_
        exact ih165 v2 v3 v4 v5 v7 x54 M L _ _ ls hD hw (lv_sub hl [1, 2, 3, 4, 5, 6, 0] rfl)
      have hb238 : ∀ (v2 : Int32) (v3 : Int32) (v4 : Int32) (v5 : Int32) (v7 : Int32) (v8 : Int32) (M : mwM) (L : mwL) (H : Heap) (locs : List Loc) (ls : Array Slot), fX12_writeAnew_b238 fu a1 (fX12_writeAnew_h165 fu a1 f165) v2 v3 v4 v5 v7 v8 M L = some (M0, L0) → mw_W G ad NF TF FF M L H locs → lv_has ls 9 [(0, .ref (ad 821)), (2, .int v2), (3, .int v3), (4, .int v4), (5, .int v5), (7, .int v7), (8, .int v8)] → W p l e ({ frames := 2, cells := 0, slots := 0, locals := 50 }) s m [.ref (ad 821), .int a1].toArray below meth c H locs 0 0 (MQ below (mw_Qv G ad NF TF FF (mw_eqV M0 L0)) [.ref (ad 821), .int a1].toArray s 0 0 (mw_fr G)) (F0 m 238 ls []) := by
        intro v2 v3 v4 v5 v7 v8 M L H locs ls hD hw hl
        unfold fX12_writeAnew_b238 at hD
        refine lv_aload_n C.1.1 C.1.2.1 dX12_writeAnew_238 rfl (lv_at hl 0 rfl) ?_
        refine lv_iconst (v := 1) C.1.1 C.1.2.1 dX12_writeAnew_239 (by decide) ?_
        refine lv_aload_n C.1.1 C.1.2.1 dX12_writeAnew_240 rfl (lv_at hl 0 rfl) ?_
        refine mr_getR C hw kc_12 33 (by decide) tf_821 ff_821_33 wd_2133 dX12_writeAnew_241 (by decide) rfl ?_
        refine lv_iload C.1.1 C.1.2.1 dX12_writeAnew_244 (lv_at hl 6 rfl) ?_
        obtain ⟨q47, hD⟩ := g_ck hD
        refine mr_bald C hw (by decide) tf_848 q47 dX12_writeAnew_246 ?_
        refine lv_isub C.1.1 C.1.2.1 dX12_writeAnew_247 ?_
        refine lv_iconst (v := 1) C.1.1 C.1.2.1 dX12_writeAnew_248 (by decide) ?_
        obtain ⟨M48, L49, h1, hD⟩ := g_b2 hD
        refine md_cvV (As := [.int (1 - (M 848 v8.toNatClampNeg)), .int 1]) (rest := []) C hw (tX12_put l G ad fu (1 - (M 848 v8.toNatClampNeg)) 1 M L h1) kc_12 (by decide) tf_821 wd_3681 cwX12_put ⟨Nat.le_of_ble_eq_true rfl, Nat.le_of_ble_eq_true rfl⟩ rfl hl.1 (Nat.le_of_ble_eq_true rfl) dX12_writeAnew_249 rfl rfl ⟨Nat.zero_le _, Nat.zero_le _⟩ rfl (fun H locs hw => ?_)
        refine lv_aload_n C.1.1 C.1.2.1 dX12_writeAnew_252 rfl (lv_at hl 0 rfl) ?_
        refine lv_iconst (v := 1) C.1.1 C.1.2.1 dX12_writeAnew_253 (by decide) ?_
        refine lv_aload_n C.1.1 C.1.2.1 dX12_writeAnew_254 rfl (lv_at hl 0 rfl) ?_
        refine mr_getR C hw kc_12 33 (by decide) tf_821 ff_821_33 wd_2133 dX12_writeAnew_255 (by decide) rfl ?_
        refine lv_iload C.1.1 C.1.2.1 dX12_writeAnew_258 (lv_at hl 6 rfl) ?_
        obtain ⟨q50, hD⟩ := g_ck hD
        refine mr_bald C hw (by decide) tf_848 q50 dX12_writeAnew_260 ?_
        refine lv_isub C.1.1 C.1.2.1 dX12_writeAnew_261 ?_
        obtain ⟨M51, L52, h1, hD⟩ := g_b2 hD
        refine md_cvV (As := [.int (1 - (M48 848 v8.toNatClampNeg))]) (rest := []) C hw (tX12_check l G ad fu (1 - (M48 848 v8.toNatClampNeg)) M48 L49 h1) kc_12 (by decide) tf_821 wd_3671 cwX12_check ⟨Nat.le_of_ble_eq_true rfl, Nat.le_of_ble_eq_true rfl⟩ rfl hl.1 (Nat.le_of_ble_eq_true rfl) dX12_writeAnew_262 rfl rfl ⟨Nat.zero_le _, Nat.zero_le _⟩ rfl (fun H locs hw => ?_)
        obtain ⟨x53, ex53, hD⟩ := g_let hD
        refine lv_iinc (v := x53) (lv' := [(5, .int x53), (0, .ref (ad 821)), (2, .int v2), (3, .int v3), (4, .int v4), (7, .int v7), (8, .int v8)]) C.1.1 C.1.2.1 dX12_writeAnew_265 hl (k := 4) rfl (by rw [ex53]; rfl) (by decide) rfl (fun ls hl => ?_)
        exact hb268 v2 v3 v4 x53 v7 v8 M51 L52 _ _ ls hD hw (lv_sub hl [1, 2, 3, 4, 0, 5, 6] rfl)
      have hb215 : ∀ (v2 : Int32) (v3 : Int32) (v4 : Int32) (v5 : Int32) (v7 : Int32) (v8 : Int32) (s1 : Int32) (M : mwM) (L : mwL) (H : Heap) (locs : List Loc) (ls : Array Slot), fX12_writeAnew_b215 fu a1 (fX12_writeAnew_h165 fu a1 f165) v2 v3 v4 v5 v7 v8 s1 M L = some (M0, L0) → mw_W G ad NF TF FF M L H locs → lv_has ls 9 [(0, .ref (ad 821)), (2, .int v2), (3, .int v3), (4, .int v4), (5, .int v5), (7, .int v7), (8, .int v8)] → W p l e ({ frames := 2, cells := 0, slots := 0, locals := 50 }) s m [.ref (ad 821), .int a1].toArray below meth c H locs 0 0 (MQ below (mw_Qv G ad NF TF FF (mw_eqV M0 L0)) [.ref (ad 821), .int a1].toArray s 0 0 (mw_fr G)) (F0 m 215 ls [.int s1, .ref (ad 821)]) := by
        intro v2 v3 v4 v5 v7 v8 s1 M L H locs ls hD hw hl
        unfold fX12_writeAnew_b215 at hD
        obtain ⟨M40, eM40, hD⟩ := g_let hD
        refine mr_putI C hw kc_12 38 (by decide) tf_821 wd_2138 dX12_writeAnew_215 (by decide) rfl rfl rfl rfl (fun H locs hw => ?_)
        replace hw : mw_W G ad NF TF FF M40 L H locs := by rw [eM40]; exact hw
        refine lv_aload_n C.1.1 C.1.2.1 dX12_writeAnew_218 rfl (lv_at hl 0 rfl) ?_
        obtain ⟨r43, M41, L42, h1, hD⟩ := g_b3 hD
        refine md_cvI (As := []) (rest := []) C hw (tX12_five l G ad fu M40 L h1) kc_12 (by decide) tf_821 wd_3685 cwX12_five ⟨Nat.le_of_ble_eq_true rfl, Nat.le_of_ble_eq_true rfl⟩ rfl hl.1 (Nat.le_of_ble_eq_true rfl) dX12_writeAnew_219 rfl rfl ⟨Nat.zero_le _, Nat.zero_le _⟩ rfl (fun H locs hw => ?_)
        refine lv_if_eq (tgt := 268) C.1.1 C.1.2.1 dX12_writeAnew_222 (by decide) (fun c44 => ?_) (fun c44 => ?_)
        · replace hD := g_pos c44 hD
          exact hb268 v2 v3 v4 v5 v7 v8 M41 L42 _ _ ls hD hw (lv_sub hl [0, 1, 2, 3, 4, 5, 6] rfl)
        · replace hD := g_neg c44 hD
          refine lv_iload_n C.1.1 C.1.2.1 dX12_writeAnew_225 rfl (lv_at hl 1 rfl) ?_
          refine lv_if_eq (tgt := 238) C.1.1 C.1.2.1 dX12_writeAnew_226 (by decide) (fun c45 => ?_) (fun c45 => ?_)
          · replace hD := g_pos c45 hD
            exact hb238 v2 v3 v4 v5 v7 v8 M41 L42 _ _ ls hD hw (lv_sub hl [0, 1, 2, 3, 4, 5, 6] rfl)
          · replace hD := g_neg c45 hD
            refine lv_iload C.1.1 C.1.2.1 dX12_writeAnew_229 (lv_at hl 6 rfl) ?_
            refine lv_iload C.1.1 C.1.2.1 dX12_writeAnew_231 (lv_at hl 5 rfl) ?_
            refine lv_iconst (v := 1) C.1.1 C.1.2.1 dX12_writeAnew_233 (by decide) ?_
            refine lv_isub C.1.1 C.1.2.1 dX12_writeAnew_234 ?_
            refine lv_icmp_ge (tgt := 268) C.1.1 C.1.2.1 dX12_writeAnew_235 (by decide) (fun c46 => ?_) (fun c46 => ?_)
            · replace hD := g_pos c46 hD
              exact hb268 v2 v3 v4 v5 v7 v8 M41 L42 _ _ ls hD hw (lv_sub hl [0, 1, 2, 3, 4, 5, 6] rfl)
            · replace hD := g_neg c46 hD
              exact hb238 v2 v3 v4 v5 v7 v8 M41 L42 _ _ ls hD hw (lv_sub hl [0, 1, 2, 3, 4, 5, 6] rfl)
      unfold fX12_writeAnew_i165 at hD
      refine lv_iload C.1.1 C.1.2.1 dX12_writeAnew_165 (lv_at hl 6 rfl) ?_
      refine lv_aload_n C.1.1 C.1.2.1 dX12_writeAnew_167 rfl (lv_at hl 0 rfl) ?_
      refine mr_getI C hw kc_12 34 (by decide) tf_821 wd_2134 dX12_writeAnew_168 (by decide) rfl ?_
      refine lv_icmp_ge (tgt := 274) C.1.1 C.1.2.1 dX12_writeAnew_171 (by decide) (fun c26 => ?_) (fun c26 => ?_)
      · replace hD := g_pos c26 hD
        refine lv_iload_n C.1.1 C.1.2.1 dX12_writeAnew_274 rfl (lv_at hl 1 rfl) ?_
        refine lv_if_eq (tgt := 289) C.1.1 C.1.2.1 dX12_writeAnew_275 (by decide) (fun c27 => ?_) (fun c27 => ?_)
        · replace hD := g_pos c27 hD
          exact hb289 M L _ _ ls hD hw (lv_sub hl [0] rfl)
        · replace hD := g_neg c27 hD
          refine lv_aload_n C.1.1 C.1.2.1 dX12_writeAnew_278 rfl (lv_at hl 0 rfl) ?_
          refine lv_iload C.1.1 C.1.2.1 dX12_writeAnew_279 (lv_at hl 4 rfl) ?_
          obtain ⟨r30, M28, L29, h1, hD⟩ := g_b3 hD
          refine md_csI (As := [.int v5]) (rest := [.ref (ad 821)]) C hw (tX12_countOf l G ad fu v5 M L h1) wd_3689 cwX12_countOf ⟨Nat.le_of_ble_eq_true rfl, Nat.le_of_ble_eq_true rfl⟩ rfl hl.1 (Nat.le_of_ble_eq_true rfl) dX12_writeAnew_281 rfl rfl ⟨Nat.zero_le _, Nat.zero_le _⟩ rfl (fun H locs hw => ?_)
          refine lv_iload C.1.1 C.1.2.1 dX12_writeAnew_284 (lv_at hl 3 rfl) ?_
          obtain ⟨M31, L32, h1, hD⟩ := g_b2 hD
          refine md_cvV (As := [.int r30, .int v4]) (rest := []) C hw (tX12_writeTail l G ad fu r30 v4 M28 L29 h1) kc_12 (by decide) tf_821 wd_3695 cwX12_writeTail ⟨Nat.le_of_ble_eq_true rfl, Nat.le_of_ble_eq_true rfl⟩ rfl hl.1 (Nat.le_of_ble_eq_true rfl) dX12_writeAnew_286 rfl rfl ⟨Nat.zero_le _, Nat.zero_le _⟩ rfl (fun H locs hw => ?_)
          exact hb289 M31 L32 _ _ ls hD hw (lv_sub hl [0] rfl)
      · replace hD := g_neg c26 hD
        refine lv_aload_n C.1.1 C.1.2.1 dX12_writeAnew_174 rfl (lv_at hl 0 rfl) ?_
        refine lv_aload_n C.1.1 C.1.2.1 dX12_writeAnew_175 rfl (lv_at hl 0 rfl) ?_
        refine mr_getR C hw kc_12 33 (by decide) tf_821 ff_821_33 wd_2133 dX12_writeAnew_176 (by decide) rfl ?_
        refine lv_iload C.1.1 C.1.2.1 dX12_writeAnew_179 (lv_at hl 6 rfl) ?_
        obtain ⟨q33, hD⟩ := g_ck hD
        refine mr_bald C hw (by decide) tf_848 q33 dX12_writeAnew_181 ?_
        refine lv_iconst (v := 0) C.1.1 C.1.2.1 dX12_writeAnew_182 (by decide) ?_
        obtain ⟨M34, L35, h1, hD⟩ := g_b2 hD
        refine md_cvV (As := [.int (M 848 v8.toNatClampNeg), .int 0]) (rest := []) C hw (tX12_put l G ad fu (M 848 v8.toNatClampNeg) 0 M L h1) kc_12 (by decide) tf_821 wd_3681 cwX12_put ⟨Nat.le_of_ble_eq_true rfl, Nat.le_of_ble_eq_true rfl⟩ rfl hl.1 (Nat.le_of_ble_eq_true rfl) dX12_writeAnew_183 rfl rfl ⟨Nat.zero_le _, Nat.zero_le _⟩ rfl (fun H locs hw => ?_)
        refine lv_aload_n C.1.1 C.1.2.1 dX12_writeAnew_186 rfl (lv_at hl 0 rfl) ?_
        refine lv_aload_n C.1.1 C.1.2.1 dX12_writeAnew_187 rfl (lv_at hl 0 rfl) ?_
        refine mr_getR C hw kc_12 33 (by decide) tf_821 ff_821_33 wd_2133 dX12_writeAnew_188 (by decide) rfl ?_
        refine lv_iload C.1.1 C.1.2.1 dX12_writeAnew_191 (lv_at hl 6 rfl) ?_
        obtain ⟨q36, hD⟩ := g_ck hD
        refine mr_bald C hw (by decide) tf_848 q36 dX12_writeAnew_193 ?_
        obtain ⟨M37, L38, h1, hD⟩ := g_b2 hD
        refine md_cvV (As := [.int (M34 848 v8.toNatClampNeg)]) (rest := []) C hw (tX12_check l G ad fu (M34 848 v8.toNatClampNeg) M34 L35 h1) kc_12 (by decide) tf_821 wd_3671 cwX12_check ⟨Nat.le_of_ble_eq_true rfl, Nat.le_of_ble_eq_true rfl⟩ rfl hl.1 (Nat.le_of_ble_eq_true rfl) dX12_writeAnew_194 rfl rfl ⟨Nat.zero_le _, Nat.zero_le _⟩ rfl (fun H locs hw => ?_)
        refine lv_aload_n C.1.1 C.1.2.1 dX12_writeAnew_197 rfl (lv_at hl 0 rfl) ?_
        refine lv_iload C.1.1 C.1.2.1 dX12_writeAnew_198 (lv_at hl 6 rfl) ?_
        refine lv_iload_n C.1.1 C.1.2.1 dX12_writeAnew_200 rfl (lv_at hl 2 rfl) ?_
        refine lv_icmp_ne (tgt := 211) C.1.1 C.1.2.1 dX12_writeAnew_201 (by decide) (fun c39 => ?_) (fun c39 => ?_)
        · replace hD := g_neg c39 hD
          refine lv_aload_n C.1.1 C.1.2.1 dX12_writeAnew_211 rfl (lv_at hl 0 rfl) ?_
          refine mr_getI C hw kc_12 38 (by decide) tf_821 wd_2138 dX12_writeAnew_212 (by decide) rfl ?_
          exact hb215 v2 v3 v4 v5 v7 v8 (M37 821 38) M37 L38 _ _ ls hD hw (lv_sub hl [0, 1, 2, 3, 4, 5, 6] rfl)
        · replace hD := g_pos c39 hD
          refine lv_aload_n C.1.1 C.1.2.1 dX12_writeAnew_204 rfl (lv_at hl 0 rfl) ?_
          refine mr_getI C hw kc_12 37 (by decide) tf_821 wd_2137 dX12_writeAnew_205 (by decide) rfl ?_
          refine lv_goto (tgt := 215) C.1.1 C.1.2.1 dX12_writeAnew_208 (by decide) ?_
          exact hb215 v2 v3 v4 v5 v7 v8 (M37 821 37) M37 L38 _ _ ls hD hw (lv_sub hl [0, 1, 2, 3, 4, 5, 6] rfl)
  have hb162 : ∀ (v2 : Int32) (v3 : Int32) (v4 : Int32) (v5 : Int32) (v7 : Int32) (M : mwM) (L : mwL) (H : Heap) (locs : List Loc) (ls : Array Slot), fX12_writeAnew_b162 fu a1 v2 v3 v4 v5 v7 M L = some (M0, L0) → mw_W G ad NF TF FF M L H locs → lv_has ls 9 [(0, .ref (ad 821)), (2, .int v2), (3, .int v3), (4, .int v4), (5, .int v5), (7, .int v7)] → W p l e ({ frames := 2, cells := 0, slots := 0, locals := 50 }) s m [.ref (ad 821), .int a1].toArray below meth c H locs 0 0 (MQ below (mw_Qv G ad NF TF FF (mw_eqV M0 L0)) [.ref (ad 821), .int a1].toArray s 0 0 (mw_fr G)) (F0 m 162 ls []) := by
    intro v2 v3 v4 v5 v7 M L H locs ls hD hw hl
    unfold fX12_writeAnew_b162 at hD
    refine lv_iconst (v := 0) C.1.1 C.1.2.1 dX12_writeAnew_162 (by decide) ?_
    refine lv_istore (lv' := [(8, .int 0), (0, .ref (ad 821)), (2, .int v2), (3, .int v3), (4, .int v4), (5, .int v5), (7, .int v7)]) C.1.1 C.1.2.1 dX12_writeAnew_163 hl (by decide) rfl (fun ls hl => ?_)
    exact hh165 fu v2 v3 v4 v5 v7 0 M L _ _ ls hD hw (lv_sub hl [1, 2, 3, 4, 5, 6, 0] rfl)
  have hh105 : ∀ (f : Nat) (v2 : Int32) (v3 : Int32) (v4 : Int32) (v5 : Int32) (v6 : Int32) (M : mwM) (L : mwL) (H : Heap) (locs : List Loc) (ls : Array Slot), fX12_writeAnew_h105 fu a1 f (v2, v3, v4, v5, v6, M, L) = some (M0, L0) → mw_W G ad NF TF FF M L H locs → lv_has ls 9 [(0, .ref (ad 821)), (2, .int v2), (3, .int v3), (4, .int v4), (5, .int v5), (6, .int v6)] → W p l e ({ frames := 2, cells := 0, slots := 0, locals := 50 }) s m [.ref (ad 821), .int a1].toArray below meth c H locs 0 0 (MQ below (mw_Qv G ad NF TF FF (mw_eqV M0 L0)) [.ref (ad 821), .int a1].toArray s 0 0 (mw_fr G)) (F0 m 105 ls []) := by
    intro f
    induction f with
    | zero => intro v2 v3 v4 v5 v6 M L H locs ls hD; cases hD
    | succ f105 ih105 =>
      intro v2 v3 v4 v5 v6 M L H locs ls hD hw hl
      replace hD : fX12_writeAnew_i105 fu a1 (fX12_writeAnew_h105 fu a1 f105) v2 v3 v4 v5 v6 M L = some (M0, L0) := hD
      unfold fX12_writeAnew_i105 at hD
      refine lv_iload C.1.1 C.1.2.1 dX12_writeAnew_105 (lv_at hl 5 rfl) ?_
      refine lv_aload_n C.1.1 C.1.2.1 dX12_writeAnew_107 rfl (lv_at hl 0 rfl) ?_
      refine mr_getI C hw kc_12 34 (by decide) tf_821 wd_2134 dX12_writeAnew_108 (by decide) rfl ?_
      refine lv_icmp_ge (tgt := 131) C.1.1 C.1.2.1 dX12_writeAnew_111 (by decide) (fun c13 => ?_) (fun c13 => ?_)
      · replace hD := g_pos c13 hD
        refine lv_aload_n C.1.1 C.1.2.1 dX12_writeAnew_131 rfl (lv_at hl 0 rfl) ?_
        refine lv_bipush (v := 15) C.1.1 C.1.2.1 dX12_writeAnew_132 (by decide) ?_
        obtain ⟨r16, M14, L15, h1, hD⟩ := g_b3 hD
        refine md_cvI (As := [.int 15]) (rest := []) C hw (tX12_checkOf l G ad fu 15 M L h1) kc_12 (by decide) tf_821 wd_3675 cwX12_checkOf ⟨Nat.le_of_ble_eq_true rfl, Nat.le_of_ble_eq_true rfl⟩ rfl hl.1 (Nat.le_of_ble_eq_true rfl) dX12_writeAnew_134 rfl rfl ⟨Nat.zero_le _, Nat.zero_le _⟩ rfl (fun H locs hw => ?_)
        refine lv_istore (lv' := [(6, .int r16), (0, .ref (ad 821)), (2, .int v2), (3, .int v3), (4, .int v4), (5, .int v5)]) C.1.1 C.1.2.1 dX12_writeAnew_137 hl (by decide) rfl (fun ls hl => ?_)
        refine lv_aload_n C.1.1 C.1.2.1 dX12_writeAnew_139 rfl (lv_at hl 1 rfl) ?_
        refine lv_iconst (v := 0) C.1.1 C.1.2.1 dX12_writeAnew_140 (by decide) ?_
        obtain ⟨M17, eM17, hD⟩ := g_let hD
        refine mr_putI C hw kc_12 41 (by decide) tf_821 wd_2141 dX12_writeAnew_141 (by decide) rfl rfl rfl rfl (fun H locs hw => ?_)
        replace hw : mw_W G ad NF TF FF M17 L15 H locs := by rw [eM17]; exact hw
        refine lv_aload_n C.1.1 C.1.2.1 dX12_writeAnew_144 rfl (lv_at hl 1 rfl) ?_
        refine mr_getI C hw kc_12 34 (by decide) tf_821 wd_2134 dX12_writeAnew_145 (by decide) rfl ?_
        obtain ⟨x18, ex18, hD⟩ := g_let hD
        refine W.eq (g2 := F0 m 148 ls (.int x18 :: [])) (by rw [ex18]) ?_
        refine lv_istore (lv' := [(7, .int x18), (6, .int r16), (0, .ref (ad 821)), (2, .int v2), (3, .int v3), (4, .int v4), (5, .int v5)]) C.1.1 C.1.2.1 dX12_writeAnew_148 hl (by decide) rfl (fun ls hl => ?_)
        refine lv_iload_n C.1.1 C.1.2.1 dX12_writeAnew_150 rfl (lv_at hl 3 rfl) ?_
        refine lv_if_ne (tgt := 162) C.1.1 C.1.2.1 dX12_writeAnew_151 (by decide) (fun c19 => ?_) (fun c19 => ?_)
        · replace hD := g_neg c19 hD
          exact hb162 v2 v3 v4 v5 x18 M17 L15 _ _ ls hD hw (lv_sub hl [2, 3, 4, 5, 6, 0] rfl)
        · replace hD := g_pos c19 hD
          refine lv_aload_n C.1.1 C.1.2.1 dX12_writeAnew_154 rfl (lv_at hl 2 rfl) ?_
          refine lv_iload C.1.1 C.1.2.1 dX12_writeAnew_155 (lv_at hl 1 rfl) ?_
          refine lv_bipush (v := 15) C.1.1 C.1.2.1 dX12_writeAnew_157 (by decide) ?_
          obtain ⟨M20, L21, h1, hD⟩ := g_b2 hD
          refine md_cvV (As := [.int r16, .int 15]) (rest := []) C hw (tX12_bits l G ad fu r16 15 M17 L15 h1) kc_12 (by decide) tf_821 wd_3658 cwX12_bits ⟨Nat.le_of_ble_eq_true rfl, Nat.le_of_ble_eq_true rfl⟩ rfl hl.1 (Nat.le_of_ble_eq_true rfl) dX12_writeAnew_159 rfl rfl ⟨Nat.zero_le _, Nat.zero_le _⟩ rfl (fun H locs hw => ?_)
          exact hb162 v2 v3 v4 v5 x18 M20 L21 _ _ ls hD hw (lv_sub hl [2, 3, 4, 5, 6, 0] rfl)
      · replace hD := g_neg c13 hD
        refine lv_aload_n C.1.1 C.1.2.1 dX12_writeAnew_114 rfl (lv_at hl 0 rfl) ?_
        refine lv_aload_n C.1.1 C.1.2.1 dX12_writeAnew_115 rfl (lv_at hl 0 rfl) ?_
        refine mr_getR C hw kc_12 33 (by decide) tf_821 ff_821_33 wd_2133 dX12_writeAnew_116 (by decide) rfl ?_
        refine lv_iload C.1.1 C.1.2.1 dX12_writeAnew_119 (lv_at hl 5 rfl) ?_
        obtain ⟨q22, hD⟩ := g_ck hD
        refine mr_bald C hw (by decide) tf_848 q22 dX12_writeAnew_121 ?_
        obtain ⟨M23, L24, h1, hD⟩ := g_b2 hD
        refine md_cvV (As := [.int (M 848 v6.toNatClampNeg)]) (rest := []) C hw (tX12_check l G ad fu (M 848 v6.toNatClampNeg) M L h1) kc_12 (by decide) tf_821 wd_3671 cwX12_check ⟨Nat.le_of_ble_eq_true rfl, Nat.le_of_ble_eq_true rfl⟩ rfl hl.1 (Nat.le_of_ble_eq_true rfl) dX12_writeAnew_122 rfl rfl ⟨Nat.zero_le _, Nat.zero_le _⟩ rfl (fun H locs hw => ?_)
        obtain ⟨x25, ex25, hD⟩ := g_let hD
        refine lv_iinc (v := x25) (lv' := [(6, .int x25), (0, .ref (ad 821)), (2, .int v2), (3, .int v3), (4, .int v4), (5, .int v5)]) C.1.1 C.1.2.1 dX12_writeAnew_125 hl (k := 5) rfl (by rw [ex25]; rfl) (by decide) rfl (fun ls hl => ?_)
        refine lv_goto (tgt := 105) C.1.1 C.1.2.1 dX12_writeAnew_128 (by decide) ?_
        exact ih105 v2 v3 v4 v5 x25 M23 L24 _ _ ls hD hw (lv_sub hl [1, 2, 3, 4, 5, 0] rfl)
  have hb87 : ∀ (v2 : Int32) (v3 : Int32) (s0 : Int32) (M : mwM) (L : mwL) (H : Heap) (locs : List Loc) (ls : Array Slot), fX12_writeAnew_b87 fu a1 v2 v3 s0 M L = some (M0, L0) → mw_W G ad NF TF FF M L H locs → lv_has ls 9 [(0, .ref (ad 821)), (2, .int v2), (3, .int v3)] → W p l e ({ frames := 2, cells := 0, slots := 0, locals := 50 }) s m [.ref (ad 821), .int a1].toArray below meth c H locs 0 0 (MQ below (mw_Qv G ad NF TF FF (mw_eqV M0 L0)) [.ref (ad 821), .int a1].toArray s 0 0 (mw_fr G)) (F0 m 87 ls [.int s0]) := by
    intro v2 v3 s0 M L H locs ls hD hw hl
    unfold fX12_writeAnew_b87 at hD
    refine lv_istore (lv' := [(4, .int s0), (0, .ref (ad 821)), (2, .int v2), (3, .int v3)]) C.1.1 C.1.2.1 dX12_writeAnew_87 hl (by decide) rfl (fun ls hl => ?_)
    refine lv_iconst (v := 0) C.1.1 C.1.2.1 dX12_writeAnew_89 (by decide) ?_
    refine lv_istore (lv' := [(5, .int 0), (4, .int s0), (0, .ref (ad 821)), (2, .int v2), (3, .int v3)]) C.1.1 C.1.2.1 dX12_writeAnew_90 hl (by decide) rfl (fun ls hl => ?_)
    refine lv_aload_n C.1.1 C.1.2.1 dX12_writeAnew_92 rfl (lv_at hl 2 rfl) ?_
    refine lv_iconst (v := 0) C.1.1 C.1.2.1 dX12_writeAnew_93 (by decide) ?_
    obtain ⟨M11, eM11, hD⟩ := g_let hD
    refine mr_putI C hw kc_12 37 (by decide) tf_821 wd_2137 dX12_writeAnew_94 (by decide) rfl rfl rfl rfl (fun H locs hw => ?_)
    replace hw : mw_W G ad NF TF FF M11 L H locs := by rw [eM11]; exact hw
    refine lv_aload_n C.1.1 C.1.2.1 dX12_writeAnew_97 rfl (lv_at hl 2 rfl) ?_
    refine lv_iconst (v := 0) C.1.1 C.1.2.1 dX12_writeAnew_98 (by decide) ?_
    obtain ⟨M12, eM12, hD⟩ := g_let hD
    refine mr_putI C hw kc_12 41 (by decide) tf_821 wd_2141 dX12_writeAnew_99 (by decide) rfl rfl rfl rfl (fun H locs hw => ?_)
    replace hw : mw_W G ad NF TF FF M12 L H locs := by rw [eM12]; exact hw
    refine lv_iconst (v := 0) C.1.1 C.1.2.1 dX12_writeAnew_102 (by decide) ?_
    refine lv_istore (lv' := [(6, .int 0), (5, .int 0), (4, .int s0), (0, .ref (ad 821)), (2, .int v2), (3, .int v3)]) C.1.1 C.1.2.1 dX12_writeAnew_103 hl (by decide) rfl (fun ls hl => ?_)
    exact hh105 fu v2 v3 s0 0 0 M12 L _ _ ls hD hw (lv_sub hl [3, 4, 5, 2, 1, 0] rfl)
  have hb50 : ∀ (v2 : Int32) (s0 : Int32) (M : mwM) (L : mwL) (H : Heap) (locs : List Loc) (ls : Array Slot), fX12_writeAnew_b50 fu a1 v2 s0 M L = some (M0, L0) → mw_W G ad NF TF FF M L H locs → lv_has ls 9 [(0, .ref (ad 821)), (1, .int a1), (2, .int v2)] → W p l e ({ frames := 2, cells := 0, slots := 0, locals := 50 }) s m [.ref (ad 821), .int a1].toArray below meth c H locs 0 0 (MQ below (mw_Qv G ad NF TF FF (mw_eqV M0 L0)) [.ref (ad 821), .int a1].toArray s 0 0 (mw_fr G)) (F0 m 50 ls [.int s0]) := by
    intro v2 s0 M L H locs ls hD hw hl
    unfold fX12_writeAnew_b50 at hD
    refine lv_istore_n (lv' := [(3, .int s0), (0, .ref (ad 821)), (1, .int a1), (2, .int v2)]) C.1.1 C.1.2.1 dX12_writeAnew_50 rfl hl (by decide) rfl (fun ls hl => ?_)
    refine lv_iload_n C.1.1 C.1.2.1 dX12_writeAnew_51 rfl (lv_at hl 3 rfl) ?_
    refine lv_if_ne (tgt := 60) C.1.1 C.1.2.1 dX12_writeAnew_52 (by decide) (fun c4 => ?_) (fun c4 => ?_)
    · replace hD := g_neg c4 hD
      refine lv_aload_n C.1.1 C.1.2.1 dX12_writeAnew_60 rfl (lv_at hl 1 rfl) ?_
      refine mr_getR C hw kc_12 7 (by decide) tf_821 ff_821_7 wd_2107 dX12_writeAnew_61 (by decide) rfl ?_
      refine lv_iload_n C.1.1 C.1.2.1 dX12_writeAnew_64 rfl (lv_at hl 2 rfl) ?_
      obtain ⟨q5, hD⟩ := g_ck hD
      refine mr_iald C hw (by decide) tf_825 q5 dX12_writeAnew_65 ?_
      refine lv_aload_n C.1.1 C.1.2.1 dX12_writeAnew_66 rfl (lv_at hl 1 rfl) ?_
      refine mr_getR C hw kc_12 8 (by decide) tf_821 ff_821_8 wd_2108 dX12_writeAnew_67 (by decide) rfl ?_
      refine lv_iload_n C.1.1 C.1.2.1 dX12_writeAnew_70 rfl (lv_at hl 2 rfl) ?_
      obtain ⟨q6, hD⟩ := g_ck hD
      refine mr_iald C hw (by decide) tf_826 q6 dX12_writeAnew_71 ?_
      obtain ⟨r9, M7, L8, h1, hD⟩ := g_b3 hD
      refine md_csI (As := [.int (M 825 a1.toNatClampNeg), .int (M 826 a1.toNatClampNeg)]) (rest := []) C hw (tX12_octetsOf l G ad fu (M 825 a1.toNatClampNeg) (M 826 a1.toNatClampNeg) M L h1) wd_3639 cwX12_octetsOf ⟨Nat.le_of_ble_eq_true rfl, Nat.le_of_ble_eq_true rfl⟩ rfl hl.1 (Nat.le_of_ble_eq_true rfl) dX12_writeAnew_72 rfl rfl ⟨Nat.zero_le _, Nat.zero_le _⟩ rfl (fun H locs hw => ?_)
      refine lv_bipush (v := 16) C.1.1 C.1.2.1 dX12_writeAnew_75 (by decide) ?_
      refine lv_icmp_le (tgt := 85) C.1.1 C.1.2.1 dX12_writeAnew_77 (by decide) (fun c10 => ?_) (fun c10 => ?_)
      · replace hD := g_pos c10 hD
        refine lv_bipush (v := 17) C.1.1 C.1.2.1 dX12_writeAnew_85 (by decide) ?_
        exact hb87 v2 s0 17 M7 L8 _ _ ls hD hw (lv_sub hl [1, 3, 0] rfl)
      · replace hD := g_neg c10 hD
        refine lv_bipush (v := 21) C.1.1 C.1.2.1 dX12_writeAnew_80 (by decide) ?_
        refine lv_goto (tgt := 87) C.1.1 C.1.2.1 dX12_writeAnew_82 (by decide) ?_
        exact hb87 v2 s0 21 M7 L8 _ _ ls hD hw (lv_sub hl [1, 3, 0] rfl)
    · replace hD := g_pos c4 hD
      refine lv_bipush (v := 15) C.1.1 C.1.2.1 dX12_writeAnew_55 (by decide) ?_
      refine lv_goto (tgt := 87) C.1.1 C.1.2.1 dX12_writeAnew_57 (by decide) ?_
      exact hb87 v2 s0 15 M L _ _ ls hD hw (lv_sub hl [1, 3, 0] rfl)
  have hb30 : ∀ (s0 : Int32) (M : mwM) (L : mwL) (H : Heap) (locs : List Loc) (ls : Array Slot), fX12_writeAnew_b30 fu a1 s0 M L = some (M0, L0) → mw_W G ad NF TF FF M L H locs → lv_has ls 9 [(0, .ref (ad 821)), (1, .int a1)] → W p l e ({ frames := 2, cells := 0, slots := 0, locals := 50 }) s m [.ref (ad 821), .int a1].toArray below meth c H locs 0 0 (MQ below (mw_Qv G ad NF TF FF (mw_eqV M0 L0)) [.ref (ad 821), .int a1].toArray s 0 0 (mw_fr G)) (F0 m 30 ls [.int s0]) := by
    intro s0 M L H locs ls hD hw hl
    unfold fX12_writeAnew_b30 at hD
    refine lv_istore_n (lv' := [(2, .int s0), (0, .ref (ad 821)), (1, .int a1)]) C.1.1 C.1.2.1 dX12_writeAnew_30 rfl hl (by decide) rfl (fun ls hl => ?_)
    refine lv_aload_n C.1.1 C.1.2.1 dX12_writeAnew_31 rfl (lv_at hl 1 rfl) ?_
    refine mr_getR C hw kc_12 7 (by decide) tf_821 ff_821_7 wd_2107 dX12_writeAnew_32 (by decide) rfl ?_
    refine lv_iload_n C.1.1 C.1.2.1 dX12_writeAnew_35 rfl (lv_at hl 2 rfl) ?_
    obtain ⟨q1, hD⟩ := g_ck hD
    refine mr_iald C hw (by decide) tf_825 q1 dX12_writeAnew_36 ?_
    refine lv_iconst (v := 2) C.1.1 C.1.2.1 dX12_writeAnew_37 (by decide) ?_
    refine lv_irem C.1.1 C.1.2.1 dX12_writeAnew_38 (by decide) ?_
    refine lv_iconst (v := 1) C.1.1 C.1.2.1 dX12_writeAnew_39 (by decide) ?_
    refine lv_icmp_ne (tgt := 48) C.1.1 C.1.2.1 dX12_writeAnew_40 (by decide) (fun c3 => ?_) (fun c3 => ?_)
    · replace hD := g_neg c3 hD
      refine lv_bipush (v := 13) C.1.1 C.1.2.1 dX12_writeAnew_48 (by decide) ?_
      exact hb50 s0 13 M L _ _ ls hD hw (lv_sub hl [1, 2, 0] rfl)
    · replace hD := g_pos c3 hD
      refine lv_bipush (v := 32) C.1.1 C.1.2.1 dX12_writeAnew_43 (by decide) ?_
      refine lv_goto (tgt := 50) C.1.1 C.1.2.1 dX12_writeAnew_45 (by decide) ?_
      exact hb50 s0 32 M L _ _ ls hD hw (lv_sub hl [1, 2, 0] rfl)
  have hb25 : ∀ (M : mwM) (L : mwL) (H : Heap) (locs : List Loc) (ls : Array Slot), fX12_writeAnew_b25 fu a1 M L = some (M0, L0) → mw_W G ad NF TF FF M L H locs → lv_has ls 9 [(0, .ref (ad 821)), (1, .int a1)] → W p l e ({ frames := 2, cells := 0, slots := 0, locals := 50 }) s m [.ref (ad 821), .int a1].toArray below meth c H locs 0 0 (MQ below (mw_Qv G ad NF TF FF (mw_eqV M0 L0)) [.ref (ad 821), .int a1].toArray s 0 0 (mw_fr G)) (F0 m 25 ls []) := by
    intro M L H locs ls hD hw hl
    unfold fX12_writeAnew_b25 at hD
    refine lv_iconst (v := 1) C.1.1 C.1.2.1 dX12_writeAnew_25 (by decide) ?_
    refine lv_goto (tgt := 30) C.1.1 C.1.2.1 dX12_writeAnew_26 (by decide) ?_
    exact hb30 1 M L _ _ ls hD hw (lv_sub hl [0, 1] rfl)
  unfold DX12_writeAnew at hD
  refine lv_aload_n C.1.1 C.1.2.1 dX12_writeAnew_0 rfl (lv_at hl 0 rfl) ?_
  refine lv_iload_n C.1.1 C.1.2.1 dX12_writeAnew_1 rfl (lv_at hl 1 rfl) ?_
  obtain ⟨M59, L60, h1, hD⟩ := g_b2 hD
  refine md_cvV (As := [.int a1]) (rest := []) C hw (tX12_writePlain l G ad fu a1 M L h1) kc_12 (by decide) tf_821 wd_3654 cwX12_writePlain ⟨Nat.le_of_ble_eq_true rfl, Nat.le_of_ble_eq_true rfl⟩ rfl hl.1 (Nat.le_of_ble_eq_true rfl) dX12_writeAnew_2 rfl rfl ⟨Nat.zero_le _, Nat.zero_le _⟩ rfl (fun H locs hw => ?_)
  refine lv_aload_n C.1.1 C.1.2.1 dX12_writeAnew_5 rfl (lv_at hl 0 rfl) ?_
  refine mr_getR C hw kc_12 7 (by decide) tf_821 ff_821_7 wd_2107 dX12_writeAnew_6 (by decide) rfl ?_
  refine lv_iload_n C.1.1 C.1.2.1 dX12_writeAnew_9 rfl (lv_at hl 1 rfl) ?_
  obtain ⟨q61, hD⟩ := g_ck hD
  refine mr_iald C hw (by decide) tf_825 q61 dX12_writeAnew_10 ?_
  refine lv_iconst (v := 2) C.1.1 C.1.2.1 dX12_writeAnew_11 (by decide) ?_
  refine lv_icmp_eq (tgt := 25) C.1.1 C.1.2.1 dX12_writeAnew_12 (by decide) (fun c62 => ?_) (fun c62 => ?_)
  · replace hD := g_pos c62 hD
    exact hb25 M59 L60 _ _ ls hD hw (lv_sub hl [0, 1] rfl)
  · replace hD := g_neg c62 hD
    refine lv_aload_n C.1.1 C.1.2.1 dX12_writeAnew_15 rfl (lv_at hl 0 rfl) ?_
    refine mr_getR C hw kc_12 7 (by decide) tf_821 ff_821_7 wd_2107 dX12_writeAnew_16 (by decide) rfl ?_
    refine lv_iload_n C.1.1 C.1.2.1 dX12_writeAnew_19 rfl (lv_at hl 1 rfl) ?_
    obtain ⟨q63, hD⟩ := g_ck hD
    refine mr_iald C hw (by decide) tf_825 q63 dX12_writeAnew_20 ?_
    refine lv_iconst (v := 3) C.1.1 C.1.2.1 dX12_writeAnew_21 (by decide) ?_
    refine lv_icmp_ne (tgt := 29) C.1.1 C.1.2.1 dX12_writeAnew_22 (by decide) (fun c64 => ?_) (fun c64 => ?_)
    · replace hD := g_neg c64 hD
      refine lv_iconst (v := 0) C.1.1 C.1.2.1 dX12_writeAnew_29 (by decide) ?_
      exact hb30 0 M59 L60 _ _ ls hD hw (lv_sub hl [0, 1] rfl)
    · replace hD := g_pos c64 hD
      exact hb25 M59 L60 _ _ ls hD hw (lv_sub hl [0, 1] rfl)

theorem dX12_write_0 : decode cX12_write 0 = .ok (.aload_n 0, 1) := by decide +kernel
theorem dX12_write_1 : decode cX12_write 1 = .ok (.getfield 117, 3) := by decide +kernel
theorem dX12_write_4 : decode cX12_write 4 = .ok (.iload_n 1, 1) := by decide +kernel
theorem dX12_write_5 : decode cX12_write 5 = .ok (.if_icmp .eq 8, 3) := by decide +kernel
theorem dX12_write_8 : decode cX12_write 8 = .ok (.aload_n 0, 1) := by decide +kernel
theorem dX12_write_9 : decode cX12_write 9 = .ok (.iload_n 1, 1) := by decide +kernel
theorem dX12_write_10 : decode cX12_write 10 = .ok (.invokevirtual 170, 3) := by decide +kernel
theorem dX12_write_13 : decode cX12_write 13 = .ok (.aload_n 0, 1) := by decide +kernel
theorem dX12_write_14 : decode cX12_write 14 = .ok (.iload_n 1, 1) := by decide +kernel
theorem dX12_write_15 : decode cX12_write 15 = .ok (.putfield 117, 3) := by decide +kernel
theorem dX12_write_18 : decode cX12_write 18 = .ok (.return_, 1) := by decide +kernel
theorem cwX12_write : mw_cwV yX12_write cX12_write 2 (none) 1 := ⟨⟨wd_15, wd_3666, by decide +kernel⟩, wd_3665, sl_234⟩
set_option maxHeartbeats 4000000 in
set_option maxRecDepth 100000 in
theorem tX12_write (l : Launch) (G : mwG) (ad : Nat → Nat) (fu : Nat) (a1 : Int32) (M : mwM) (L : mwL) {M0 : mwM} {L0 : mwL} (hD : DX12_write fu a1 M L = some (M0, L0)) : Met l yX12_write (Cond.code yX12_write cX12_write 2 (none) :: GT) ({ frames := 3, cells := 0, slots := 0, locals := 78 }) (mw_Pre G ad NF TF FF M L [.ref (ad 821), .int a1]) (mw_Qv G ad NF TF FF (mw_eqV M0 L0)) 0 0 (mw_fr G) := by
  refine mw_enter (by decide) (Nat.le_of_ble_eq_true rfl) ?_
  intro p e s m below meth c ls C hr hlocks hnm hw hl
  have hl : lv_has ls 2 [(0, .ref (ad 821)), (1, .int a1)] := hl
  have hb13 : ∀ (M : mwM) (L : mwL) (H : Heap) (locs : List Loc) (ls : Array Slot), fX12_write_b13 fu a1 M L = some (M0, L0) → mw_W G ad NF TF FF M L H locs → lv_has ls 2 [(0, .ref (ad 821)), (1, .int a1)] → W p l e ({ frames := 3, cells := 0, slots := 0, locals := 78 }) s m [.ref (ad 821), .int a1].toArray below meth c H locs 0 0 (MQ below (mw_Qv G ad NF TF FF (mw_eqV M0 L0)) [.ref (ad 821), .int a1].toArray s 0 0 (mw_fr G)) (F0 m 13 ls []) := by
    intro M L H locs ls hD hw hl
    unfold fX12_write_b13 at hD
    refine lv_aload_n C.1.1 C.1.2.1 dX12_write_13 rfl (lv_at hl 0 rfl) ?_
    refine lv_iload_n C.1.1 C.1.2.1 dX12_write_14 rfl (lv_at hl 1 rfl) ?_
    obtain ⟨M1, eM1, hD⟩ := g_let hD
    refine mr_putI C hw kc_12 50 (by decide) tf_821 wd_2150 dX12_write_15 (by decide) rfl rfl rfl rfl (fun H locs hw => ?_)
    replace hw : mw_W G ad NF TF FF M1 L H locs := by rw [eM1]; exact hw
    exact mr_vret C hr hlocks hw (Option.some.inj hD) dX12_write_18
  unfold DX12_write at hD
  refine lv_aload_n C.1.1 C.1.2.1 dX12_write_0 rfl (lv_at hl 0 rfl) ?_
  refine mr_getI C hw kc_12 50 (by decide) tf_821 wd_2150 dX12_write_1 (by decide) rfl ?_
  refine lv_iload_n C.1.1 C.1.2.1 dX12_write_4 rfl (lv_at hl 1 rfl) ?_
  refine lv_icmp_eq (tgt := 13) C.1.1 C.1.2.1 dX12_write_5 (by decide) (fun c2 => ?_) (fun c2 => ?_)
  · replace hD := g_pos c2 hD
    exact hb13 M L _ _ ls hD hw (lv_sub hl [0, 1] rfl)
  · replace hD := g_neg c2 hD
    refine lv_aload_n C.1.1 C.1.2.1 dX12_write_8 rfl (lv_at hl 0 rfl) ?_
    refine lv_iload_n C.1.1 C.1.2.1 dX12_write_9 rfl (lv_at hl 1 rfl) ?_
    obtain ⟨M3, L4, h1, hD⟩ := g_b2 hD
    refine md_cvV (As := [.int a1]) (rest := []) C hw (tX12_writeAnew l G ad fu a1 M L h1) kc_12 (by decide) tf_821 wd_3667 cwX12_writeAnew ⟨Nat.le_of_ble_eq_true rfl, Nat.le_of_ble_eq_true rfl⟩ rfl hl.1 (Nat.le_of_ble_eq_true rfl) dX12_write_10 rfl rfl ⟨Nat.zero_le _, Nat.zero_le _⟩ rfl (fun H locs hw => ?_)
    exact hb13 M3 L4 _ _ ls hD hw (lv_sub hl [0, 1] rfl)

theorem dX12_first_0 : decode cX12_first 0 = .ok (.iconst (-1), 1) := by decide +kernel
theorem dX12_first_1 : decode cX12_first 1 = .ok (.istore_n 2, 1) := by decide +kernel
theorem dX12_first_2 : decode cX12_first 2 = .ok (.iconst 0, 1) := by decide +kernel
theorem dX12_first_3 : decode cX12_first 3 = .ok (.istore_n 3, 1) := by decide +kernel
theorem dX12_first_4 : decode cX12_first 4 = .ok (.iconst 0, 1) := by decide +kernel
theorem dX12_first_5 : decode cX12_first 5 = .ok (.istore 4, 2) := by decide +kernel
theorem dX12_first_7 : decode cX12_first 7 = .ok (.iload 4, 2) := by decide +kernel
theorem dX12_first_9 : decode cX12_first 9 = .ok (.aload_n 0, 1) := by decide +kernel
theorem dX12_first_10 : decode cX12_first 10 = .ok (.getfield 126, 3) := by decide +kernel
theorem dX12_first_13 : decode cX12_first 13 = .ok (.if_icmp .ge 177, 3) := by decide +kernel
theorem dX12_first_16 : decode cX12_first 16 = .ok (.aload_n 0, 1) := by decide +kernel
theorem dX12_first_17 : decode cX12_first 17 = .ok (.getfield 17, 3) := by decide +kernel
theorem dX12_first_20 : decode cX12_first 20 = .ok (.iload 4, 2) := by decide +kernel
theorem dX12_first_22 : decode cX12_first 22 = .ok (.iaload, 1) := by decide +kernel
theorem dX12_first_23 : decode cX12_first 23 = .ok (.iload_n 1, 1) := by decide +kernel
theorem dX12_first_24 : decode cX12_first 24 = .ok (.if_icmp .ne 160, 3) := by decide +kernel
theorem dX12_first_27 : decode cX12_first 27 = .ok (.aload_n 0, 1) := by decide +kernel
theorem dX12_first_28 : decode cX12_first 28 = .ok (.getfield 33, 3) := by decide +kernel
theorem dX12_first_31 : decode cX12_first 31 = .ok (.iload 4, 2) := by decide +kernel
theorem dX12_first_33 : decode cX12_first 33 = .ok (.baload, 1) := by decide +kernel
theorem dX12_first_34 : decode cX12_first 34 = .ok (.ifCond .eq 6, 3) := by decide +kernel
theorem dX12_first_37 : decode cX12_first 37 = .ok (.goto 147, 3) := by decide +kernel
theorem dX12_first_40 : decode cX12_first 40 = .ok (.aload_n 0, 1) := by decide +kernel
theorem dX12_first_41 : decode cX12_first 41 = .ok (.iload 4, 2) := by decide +kernel
theorem dX12_first_43 : decode cX12_first 43 = .ok (.invokevirtual 174, 3) := by decide +kernel
theorem dX12_first_46 : decode cX12_first 46 = .ok (.iconst 0, 1) := by decide +kernel
theorem dX12_first_47 : decode cX12_first 47 = .ok (.istore 5, 2) := by decide +kernel
theorem dX12_first_49 : decode cX12_first 49 = .ok (.iload_n 2, 1) := by decide +kernel
theorem dX12_first_50 : decode cX12_first 50 = .ok (.iconst (-1), 1) := by decide +kernel
theorem dX12_first_51 : decode cX12_first 51 = .ok (.if_icmp .eq 41, 3) := by decide +kernel
theorem dX12_first_54 : decode cX12_first 54 = .ok (.iload 5, 2) := by decide +kernel
theorem dX12_first_56 : decode cX12_first 56 = .ok (.aload_n 0, 1) := by decide +kernel
theorem dX12_first_57 : decode cX12_first 57 = .ok (.getfield 150, 3) := by decide +kernel
theorem dX12_first_60 : decode cX12_first 60 = .ok (.if_icmp .ge 32, 3) := by decide +kernel
theorem dX12_first_63 : decode cX12_first 63 = .ok (.iload 5, 2) := by decide +kernel
theorem dX12_first_65 : decode cX12_first 65 = .ok (.iload_n 3, 1) := by decide +kernel
theorem dX12_first_66 : decode cX12_first 66 = .ok (.if_icmp .ge 26, 3) := by decide +kernel
theorem dX12_first_69 : decode cX12_first 69 = .ok (.aload_n 0, 1) := by decide +kernel
theorem dX12_first_70 : decode cX12_first 70 = .ok (.getfield 96, 3) := by decide +kernel
theorem dX12_first_73 : decode cX12_first 73 = .ok (.iload 5, 2) := by decide +kernel
theorem dX12_first_75 : decode cX12_first 75 = .ok (.baload, 1) := by decide +kernel
theorem dX12_first_76 : decode cX12_first 76 = .ok (.aload_n 0, 1) := by decide +kernel
theorem dX12_first_77 : decode cX12_first 77 = .ok (.getfield 105, 3) := by decide +kernel
theorem dX12_first_80 : decode cX12_first 80 = .ok (.iload 5, 2) := by decide +kernel
theorem dX12_first_82 : decode cX12_first 82 = .ok (.baload, 1) := by decide +kernel
theorem dX12_first_83 : decode cX12_first 83 = .ok (.if_icmp .ne 9, 3) := by decide +kernel
theorem dX12_first_86 : decode cX12_first 86 = .ok (.iinc 5 1, 3) := by decide +kernel
theorem dX12_first_89 : decode cX12_first 89 = .ok (.goto (-40), 3) := by decide +kernel
theorem dX12_first_92 : decode cX12_first 92 = .ok (.iload_n 2, 1) := by decide +kernel
theorem dX12_first_93 : decode cX12_first 93 = .ok (.iconst (-1), 1) := by decide +kernel
theorem dX12_first_94 : decode cX12_first 94 = .ok (.if_icmp .eq 35, 3) := by decide +kernel
theorem dX12_first_97 : decode cX12_first 97 = .ok (.iload 5, 2) := by decide +kernel
theorem dX12_first_99 : decode cX12_first 99 = .ok (.aload_n 0, 1) := by decide +kernel
theorem dX12_first_100 : decode cX12_first 100 = .ok (.getfield 150, 3) := by decide +kernel
theorem dX12_first_103 : decode cX12_first 103 = .ok (.if_icmp .ge 30, 3) := by decide +kernel
theorem dX12_first_106 : decode cX12_first 106 = .ok (.iload 5, 2) := by decide +kernel
theorem dX12_first_108 : decode cX12_first 108 = .ok (.iload_n 3, 1) := by decide +kernel
theorem dX12_first_109 : decode cX12_first 109 = .ok (.if_icmp .ge 24, 3) := by decide +kernel
theorem dX12_first_112 : decode cX12_first 112 = .ok (.aload_n 0, 1) := by decide +kernel
theorem dX12_first_113 : decode cX12_first 113 = .ok (.getfield 96, 3) := by decide +kernel
theorem dX12_first_116 : decode cX12_first 116 = .ok (.iload 5, 2) := by decide +kernel
theorem dX12_first_118 : decode cX12_first 118 = .ok (.baload, 1) := by decide +kernel
theorem dX12_first_119 : decode cX12_first 119 = .ok (.aload_n 0, 1) := by decide +kernel
theorem dX12_first_120 : decode cX12_first 120 = .ok (.getfield 105, 3) := by decide +kernel
theorem dX12_first_123 : decode cX12_first 123 = .ok (.iload 5, 2) := by decide +kernel
theorem dX12_first_125 : decode cX12_first 125 = .ok (.baload, 1) := by decide +kernel
theorem dX12_first_126 : decode cX12_first 126 = .ok (.if_icmp .ge 7, 3) := by decide +kernel
theorem dX12_first_129 : decode cX12_first 129 = .ok (.iconst 1, 1) := by decide +kernel
theorem dX12_first_130 : decode cX12_first 130 = .ok (.goto 4, 3) := by decide +kernel
theorem dX12_first_133 : decode cX12_first 133 = .ok (.iconst 0, 1) := by decide +kernel
theorem dX12_first_134 : decode cX12_first 134 = .ok (.istore 6, 2) := by decide +kernel
theorem dX12_first_136 : decode cX12_first 136 = .ok (.iload 6, 2) := by decide +kernel
theorem dX12_first_138 : decode cX12_first 138 = .ok (.ifCond .ne 6, 3) := by decide +kernel
theorem dX12_first_141 : decode cX12_first 141 = .ok (.goto 43, 3) := by decide +kernel
theorem dX12_first_144 : decode cX12_first 144 = .ok (.iload 4, 2) := by decide +kernel
theorem dX12_first_146 : decode cX12_first 146 = .ok (.istore_n 2, 1) := by decide +kernel
theorem dX12_first_147 : decode cX12_first 147 = .ok (.aload_n 0, 1) := by decide +kernel
theorem dX12_first_148 : decode cX12_first 148 = .ok (.getfield 150, 3) := by decide +kernel
theorem dX12_first_151 : decode cX12_first 151 = .ok (.istore_n 3, 1) := by decide +kernel
theorem dX12_first_152 : decode cX12_first 152 = .ok (.iconst 0, 1) := by decide +kernel
theorem dX12_first_153 : decode cX12_first 153 = .ok (.istore 7, 2) := by decide +kernel
theorem dX12_first_155 : decode cX12_first 155 = .ok (.iload 7, 2) := by decide +kernel
theorem dX12_first_157 : decode cX12_first 157 = .ok (.aload_n 0, 1) := by decide +kernel
theorem dX12_first_158 : decode cX12_first 158 = .ok (.getfield 150, 3) := by decide +kernel
theorem dX12_first_161 : decode cX12_first 161 = .ok (.if_icmp .ge 23, 3) := by decide +kernel
theorem dX12_first_164 : decode cX12_first 164 = .ok (.aload_n 0, 1) := by decide +kernel
theorem dX12_first_165 : decode cX12_first 165 = .ok (.getfield 105, 3) := by decide +kernel
theorem dX12_first_168 : decode cX12_first 168 = .ok (.iload 7, 2) := by decide +kernel
theorem dX12_first_170 : decode cX12_first 170 = .ok (.aload_n 0, 1) := by decide +kernel
theorem dX12_first_171 : decode cX12_first 171 = .ok (.getfield 96, 3) := by decide +kernel
theorem dX12_first_174 : decode cX12_first 174 = .ok (.iload 7, 2) := by decide +kernel
theorem dX12_first_176 : decode cX12_first 176 = .ok (.baload, 1) := by decide +kernel
theorem dX12_first_177 : decode cX12_first 177 = .ok (.bastore, 1) := by decide +kernel
theorem dX12_first_178 : decode cX12_first 178 = .ok (.iinc 7 1, 3) := by decide +kernel
theorem dX12_first_181 : decode cX12_first 181 = .ok (.goto (-26), 3) := by decide +kernel
theorem dX12_first_184 : decode cX12_first 184 = .ok (.iinc 4 1, 3) := by decide +kernel
theorem dX12_first_187 : decode cX12_first 187 = .ok (.goto (-180), 3) := by decide +kernel
theorem dX12_first_190 : decode cX12_first 190 = .ok (.iload_n 2, 1) := by decide +kernel
theorem dX12_first_191 : decode cX12_first 191 = .ok (.ireturn, 1) := by decide +kernel
theorem cwX12_first : mw_cwV yX12_first cX12_first 8 ((some .int)) 1 := ⟨⟨wd_15, wd_3653, by decide +kernel⟩, wd_3652, sl_231⟩
set_option maxHeartbeats 4000000 in
set_option maxRecDepth 100000 in
theorem tX12_first (l : Launch) (G : mwG) (ad : Nat → Nat) (fu : Nat) (a1 : Int32) (M : mwM) (L : mwL) {r0 : Int32} {M0 : mwM} {L0 : mwL} (hD : DX12_first fu a1 M L = some (r0, M0, L0)) : Met l yX12_first (Cond.code yX12_first cX12_first 8 ((some .int)) :: GT) ({ frames := 2, cells := 0, slots := 0, locals := 48 }) (mw_Pre G ad NF TF FF M L [.ref (ad 821), .int a1]) (mw_Qi G ad NF TF FF (mw_eqI r0 M0 L0)) 0 0 (mw_fr G) := by
  refine mw_enter (by decide) (Nat.le_of_ble_eq_true rfl) ?_
  intro p e s m below meth c ls C hr hlocks hnm hw hl
  have hl : lv_has ls 8 [(0, .ref (ad 821)), (1, .int a1)] := hl
  have hh7 : ∀ (f : Nat) (v2 : Int32) (v3 : Int32) (v4 : Int32) (M : mwM) (L : mwL) (H : Heap) (locs : List Loc) (ls : Array Slot), fX12_first_h7 fu a1 f (v2, v3, v4, M, L) = some (r0, M0, L0) → mw_W G ad NF TF FF M L H locs → lv_has ls 8 [(0, .ref (ad 821)), (1, .int a1), (2, .int v2), (3, .int v3), (4, .int v4)] → W p l e ({ frames := 2, cells := 0, slots := 0, locals := 48 }) s m [.ref (ad 821), .int a1].toArray below meth c H locs 0 0 (MQ below (mw_Qi G ad NF TF FF (mw_eqI r0 M0 L0)) [.ref (ad 821), .int a1].toArray s 0 0 (mw_fr G)) (F0 m 7 ls []) := by
    intro f
    induction f with
    | zero => intro v2 v3 v4 M L H locs ls hD; cases hD
    | succ f7 ih7 =>
      intro v2 v3 v4 M L H locs ls hD hw hl
      replace hD : fX12_first_i7 fu a1 (fX12_first_h7 fu a1 f7) v2 v3 v4 M L = some (r0, M0, L0) := hD
      have hb184 : ∀ (v2 : Int32) (v3 : Int32) (v4 : Int32) (M : mwM) (L : mwL) (H : Heap) (locs : List Loc) (ls : Array Slot), fX12_first_b184 fu a1 (fX12_first_h7 fu a1 f7) v2 v3 v4 M L = some (r0, M0, L0) → mw_W G ad NF TF FF M L H locs → lv_has ls 8 [(0, .ref (ad 821)), (1, .int a1), (2, .int v2), (3, .int v3), (4, .int v4)] → W p l e ({ frames := 2, cells := 0, slots := 0, locals := 48 }) s m [.ref (ad 821), .int a1].toArray below meth c H locs 0 0 (MQ below (mw_Qi G ad NF TF FF (mw_eqI r0 M0 L0)) [.ref (ad 821), .int a1].toArray s 0 0 (mw_fr G)) (F0 m 184 ls []) := by
        intro v2 v3 v4 M L H locs ls hD hw hl
        unfold fX12_first_b184 at hD
        obtain ⟨x28, ex28, hD⟩ := g_let hD
        refine lv_iinc (v := x28) (lv' := [(4, .int x28), (0, .ref (ad 821)), (1, .int a1), (2, .int v2), (3, .int v3)]) C.1.1 C.1.2.1 dX12_first_184 hl (k := 4) rfl (by rw [ex28]; rfl) (by decide) rfl (fun ls hl => ?_)
        refine lv_goto (tgt := 7) C.1.1 C.1.2.1 dX12_first_187 (by decide) ?_
        exact ih7 v2 v3 x28 M L _ _ ls hD hw (lv_sub hl [1, 2, 3, 4, 0] rfl)
      have hh155 : ∀ (f : Nat) (v2 : Int32) (v3 : Int32) (v4 : Int32) (v7 : Int32) (M : mwM) (L : mwL) (H : Heap) (locs : List Loc) (ls : Array Slot), fX12_first_h155 fu a1 (fX12_first_h7 fu a1 f7) f (v2, v3, v4, v7, M, L) = some (r0, M0, L0) → mw_W G ad NF TF FF M L H locs → lv_has ls 8 [(0, .ref (ad 821)), (1, .int a1), (2, .int v2), (3, .int v3), (4, .int v4), (7, .int v7)] → W p l e ({ frames := 2, cells := 0, slots := 0, locals := 48 }) s m [.ref (ad 821), .int a1].toArray below meth c H locs 0 0 (MQ below (mw_Qi G ad NF TF FF (mw_eqI r0 M0 L0)) [.ref (ad 821), .int a1].toArray s 0 0 (mw_fr G)) (F0 m 155 ls []) := by
        intro f
        induction f with
        | zero => intro v2 v3 v4 v7 M L H locs ls hD; cases hD
        | succ f155 ih155 =>
          intro v2 v3 v4 v7 M L H locs ls hD hw hl
          replace hD : fX12_first_i155 fu a1 (fX12_first_h7 fu a1 f7) (fX12_first_h155 fu a1 (fX12_first_h7 fu a1 f7) f155) v2 v3 v4 v7 M L = some (r0, M0, L0) := hD
          unfold fX12_first_i155 at hD
          refine lv_iload C.1.1 C.1.2.1 dX12_first_155 (lv_at hl 5 rfl) ?_
          refine lv_aload_n C.1.1 C.1.2.1 dX12_first_157 rfl (lv_at hl 0 rfl) ?_
          refine mr_getI C hw kc_12 34 (by decide) tf_821 wd_2134 dX12_first_158 (by decide) rfl ?_
          refine lv_icmp_ge (tgt := 184) C.1.1 C.1.2.1 dX12_first_161 (by decide) (fun c23 => ?_) (fun c23 => ?_)
          · replace hD := g_pos c23 hD
            exact hb184 v2 v3 v4 M L _ _ ls hD hw (lv_sub hl [0, 1, 2, 3, 4] rfl)
          · replace hD := g_neg c23 hD
            refine lv_aload_n C.1.1 C.1.2.1 dX12_first_164 rfl (lv_at hl 0 rfl) ?_
            refine mr_getR C hw kc_12 39 (by decide) tf_821 ff_821_39 wd_2139 dX12_first_165 (by decide) rfl ?_
            refine lv_iload C.1.1 C.1.2.1 dX12_first_168 (lv_at hl 5 rfl) ?_
            refine lv_aload_n C.1.1 C.1.2.1 dX12_first_170 rfl (lv_at hl 0 rfl) ?_
            refine mr_getR C hw kc_12 33 (by decide) tf_821 ff_821_33 wd_2133 dX12_first_171 (by decide) rfl ?_
            refine lv_iload C.1.1 C.1.2.1 dX12_first_174 (lv_at hl 5 rfl) ?_
            obtain ⟨q24, hD⟩ := g_ck hD
            refine mr_bald C hw (by decide) tf_848 q24 dX12_first_176 ?_
            obtain ⟨q25, hD⟩ := g_ck hD
            obtain ⟨M26, eM26, hD⟩ := g_let hD
            refine mr_bast C hw (by decide) tf_851 q25 dX12_first_177 (fun H locs hw => ?_)
            replace hw : mw_W G ad NF TF FF M26 L H locs := by rw [eM26]; exact hw
            obtain ⟨x27, ex27, hD⟩ := g_let hD
            refine lv_iinc (v := x27) (lv' := [(7, .int x27), (0, .ref (ad 821)), (1, .int a1), (2, .int v2), (3, .int v3), (4, .int v4)]) C.1.1 C.1.2.1 dX12_first_178 hl (k := 5) rfl (by rw [ex27]; rfl) (by decide) rfl (fun ls hl => ?_)
            refine lv_goto (tgt := 155) C.1.1 C.1.2.1 dX12_first_181 (by decide) ?_
            exact ih155 v2 v3 v4 x27 M26 L _ _ ls hD hw (lv_sub hl [1, 2, 3, 4, 5, 0] rfl)
      have hb134 : ∀ (v2 : Int32) (v3 : Int32) (v4 : Int32) (s0 : Int32) (M : mwM) (L : mwL) (H : Heap) (locs : List Loc) (ls : Array Slot), fX12_first_b134 fu a1 (fX12_first_h7 fu a1 f7) v2 v3 v4 s0 M L = some (r0, M0, L0) → mw_W G ad NF TF FF M L H locs → lv_has ls 8 [(0, .ref (ad 821)), (1, .int a1), (2, .int v2), (3, .int v3), (4, .int v4)] → W p l e ({ frames := 2, cells := 0, slots := 0, locals := 48 }) s m [.ref (ad 821), .int a1].toArray below meth c H locs 0 0 (MQ below (mw_Qi G ad NF TF FF (mw_eqI r0 M0 L0)) [.ref (ad 821), .int a1].toArray s 0 0 (mw_fr G)) (F0 m 134 ls [.int s0]) := by
        intro v2 v3 v4 s0 M L H locs ls hD hw hl
        unfold fX12_first_b134 at hD
        refine lv_istore (lv' := [(6, .int s0), (0, .ref (ad 821)), (1, .int a1), (2, .int v2), (3, .int v3), (4, .int v4)]) C.1.1 C.1.2.1 dX12_first_134 hl (by decide) rfl (fun ls hl => ?_)
        refine lv_iload C.1.1 C.1.2.1 dX12_first_136 (lv_at hl 0 rfl) ?_
        refine lv_if_ne (tgt := 144) C.1.1 C.1.2.1 dX12_first_138 (by decide) (fun c21 => ?_) (fun c21 => ?_)
        · replace hD := g_neg c21 hD
          refine lv_iload C.1.1 C.1.2.1 dX12_first_144 (lv_at hl 5 rfl) ?_
          refine lv_istore_n (lv' := [(2, .int v4), (6, .int s0), (0, .ref (ad 821)), (1, .int a1), (3, .int v3), (4, .int v4)]) C.1.1 C.1.2.1 dX12_first_146 rfl hl (by decide) rfl (fun ls hl => ?_)
          refine lv_aload_n C.1.1 C.1.2.1 dX12_first_147 rfl (lv_at hl 2 rfl) ?_
          refine mr_getI C hw kc_12 34 (by decide) tf_821 wd_2134 dX12_first_148 (by decide) rfl ?_
          obtain ⟨x22, ex22, hD⟩ := g_let hD
          refine W.eq (g2 := F0 m 151 ls (.int x22 :: [])) (by rw [ex22]) ?_
          refine lv_istore_n (lv' := [(3, .int x22), (2, .int v4), (6, .int s0), (0, .ref (ad 821)), (1, .int a1), (4, .int v4)]) C.1.1 C.1.2.1 dX12_first_151 rfl hl (by decide) rfl (fun ls hl => ?_)
          refine lv_iconst (v := 0) C.1.1 C.1.2.1 dX12_first_152 (by decide) ?_
          refine lv_istore (lv' := [(7, .int 0), (3, .int x22), (2, .int v4), (6, .int s0), (0, .ref (ad 821)), (1, .int a1), (4, .int v4)]) C.1.1 C.1.2.1 dX12_first_153 hl (by decide) rfl (fun ls hl => ?_)
          exact hh155 fu v4 x22 v4 0 M L _ _ ls hD hw (lv_sub hl [4, 5, 2, 1, 6, 0] rfl)
        · replace hD := g_pos c21 hD
          refine lv_goto (tgt := 184) C.1.1 C.1.2.1 dX12_first_141 (by decide) ?_
          exact hb184 v2 v3 v4 M L _ _ ls hD hw (lv_sub hl [1, 2, 3, 4, 5] rfl)
      have hb129 : ∀ (v2 : Int32) (v3 : Int32) (v4 : Int32) (M : mwM) (L : mwL) (H : Heap) (locs : List Loc) (ls : Array Slot), fX12_first_b129 fu a1 (fX12_first_h7 fu a1 f7) v2 v3 v4 M L = some (r0, M0, L0) → mw_W G ad NF TF FF M L H locs → lv_has ls 8 [(0, .ref (ad 821)), (1, .int a1), (2, .int v2), (3, .int v3), (4, .int v4)] → W p l e ({ frames := 2, cells := 0, slots := 0, locals := 48 }) s m [.ref (ad 821), .int a1].toArray below meth c H locs 0 0 (MQ below (mw_Qi G ad NF TF FF (mw_eqI r0 M0 L0)) [.ref (ad 821), .int a1].toArray s 0 0 (mw_fr G)) (F0 m 129 ls []) := by
        intro v2 v3 v4 M L H locs ls hD hw hl
        unfold fX12_first_b129 at hD
        refine lv_iconst (v := 1) C.1.1 C.1.2.1 dX12_first_129 (by decide) ?_
        refine lv_goto (tgt := 134) C.1.1 C.1.2.1 dX12_first_130 (by decide) ?_
        exact hb134 v2 v3 v4 1 M L _ _ ls hD hw (lv_sub hl [0, 1, 2, 3, 4] rfl)
      have hb133 : ∀ (v2 : Int32) (v3 : Int32) (v4 : Int32) (M : mwM) (L : mwL) (H : Heap) (locs : List Loc) (ls : Array Slot), fX12_first_b133 fu a1 (fX12_first_h7 fu a1 f7) v2 v3 v4 M L = some (r0, M0, L0) → mw_W G ad NF TF FF M L H locs → lv_has ls 8 [(0, .ref (ad 821)), (1, .int a1), (2, .int v2), (3, .int v3), (4, .int v4)] → W p l e ({ frames := 2, cells := 0, slots := 0, locals := 48 }) s m [.ref (ad 821), .int a1].toArray below meth c H locs 0 0 (MQ below (mw_Qi G ad NF TF FF (mw_eqI r0 M0 L0)) [.ref (ad 821), .int a1].toArray s 0 0 (mw_fr G)) (F0 m 133 ls []) := by
        intro v2 v3 v4 M L H locs ls hD hw hl
        unfold fX12_first_b133 at hD
        refine lv_iconst (v := 0) C.1.1 C.1.2.1 dX12_first_133 (by decide) ?_
        exact hb134 v2 v3 v4 0 M L _ _ ls hD hw (lv_sub hl [0, 1, 2, 3, 4] rfl)
      have hb92 : ∀ (v2 : Int32) (v3 : Int32) (v4 : Int32) (v5 : Int32) (M : mwM) (L : mwL) (H : Heap) (locs : List Loc) (ls : Array Slot), fX12_first_b92 fu a1 (fX12_first_h7 fu a1 f7) v2 v3 v4 v5 M L = some (r0, M0, L0) → mw_W G ad NF TF FF M L H locs → lv_has ls 8 [(0, .ref (ad 821)), (1, .int a1), (2, .int v2), (3, .int v3), (4, .int v4), (5, .int v5)] → W p l e ({ frames := 2, cells := 0, slots := 0, locals := 48 }) s m [.ref (ad 821), .int a1].toArray below meth c H locs 0 0 (MQ below (mw_Qi G ad NF TF FF (mw_eqI r0 M0 L0)) [.ref (ad 821), .int a1].toArray s 0 0 (mw_fr G)) (F0 m 92 ls []) := by
        intro v2 v3 v4 v5 M L H locs ls hD hw hl
        unfold fX12_first_b92 at hD
        refine lv_iload_n C.1.1 C.1.2.1 dX12_first_92 rfl (lv_at hl 2 rfl) ?_
        refine lv_iconst (v := (-1)) C.1.1 C.1.2.1 dX12_first_93 (by decide) ?_
        refine lv_icmp_eq (tgt := 129) C.1.1 C.1.2.1 dX12_first_94 (by decide) (fun c15 => ?_) (fun c15 => ?_)
        · replace hD := g_pos c15 hD
          exact hb129 v2 v3 v4 M L _ _ ls hD hw (lv_sub hl [0, 1, 2, 3, 4] rfl)
        · replace hD := g_neg c15 hD
          refine lv_iload C.1.1 C.1.2.1 dX12_first_97 (lv_at hl 5 rfl) ?_
          refine lv_aload_n C.1.1 C.1.2.1 dX12_first_99 rfl (lv_at hl 0 rfl) ?_
          refine mr_getI C hw kc_12 34 (by decide) tf_821 wd_2134 dX12_first_100 (by decide) rfl ?_
          refine lv_icmp_ge (tgt := 133) C.1.1 C.1.2.1 dX12_first_103 (by decide) (fun c16 => ?_) (fun c16 => ?_)
          · replace hD := g_pos c16 hD
            exact hb133 v2 v3 v4 M L _ _ ls hD hw (lv_sub hl [0, 1, 2, 3, 4] rfl)
          · replace hD := g_neg c16 hD
            refine lv_iload C.1.1 C.1.2.1 dX12_first_106 (lv_at hl 5 rfl) ?_
            refine lv_iload_n C.1.1 C.1.2.1 dX12_first_108 rfl (lv_at hl 3 rfl) ?_
            refine lv_icmp_ge (tgt := 133) C.1.1 C.1.2.1 dX12_first_109 (by decide) (fun c17 => ?_) (fun c17 => ?_)
            · replace hD := g_pos c17 hD
              exact hb133 v2 v3 v4 M L _ _ ls hD hw (lv_sub hl [0, 1, 2, 3, 4] rfl)
            · replace hD := g_neg c17 hD
              refine lv_aload_n C.1.1 C.1.2.1 dX12_first_112 rfl (lv_at hl 0 rfl) ?_
              refine mr_getR C hw kc_12 33 (by decide) tf_821 ff_821_33 wd_2133 dX12_first_113 (by decide) rfl ?_
              refine lv_iload C.1.1 C.1.2.1 dX12_first_116 (lv_at hl 5 rfl) ?_
              obtain ⟨q18, hD⟩ := g_ck hD
              refine mr_bald C hw (by decide) tf_848 q18 dX12_first_118 ?_
              refine lv_aload_n C.1.1 C.1.2.1 dX12_first_119 rfl (lv_at hl 0 rfl) ?_
              refine mr_getR C hw kc_12 39 (by decide) tf_821 ff_821_39 wd_2139 dX12_first_120 (by decide) rfl ?_
              refine lv_iload C.1.1 C.1.2.1 dX12_first_123 (lv_at hl 5 rfl) ?_
              obtain ⟨q19, hD⟩ := g_ck hD
              refine mr_bald C hw (by decide) tf_851 q19 dX12_first_125 ?_
              refine lv_icmp_ge (tgt := 133) C.1.1 C.1.2.1 dX12_first_126 (by decide) (fun c20 => ?_) (fun c20 => ?_)
              · replace hD := g_pos c20 hD
                exact hb133 v2 v3 v4 M L _ _ ls hD hw (lv_sub hl [0, 1, 2, 3, 4] rfl)
              · replace hD := g_neg c20 hD
                exact hb129 v2 v3 v4 M L _ _ ls hD hw (lv_sub hl [0, 1, 2, 3, 4] rfl)
      have hh49 : ∀ (f : Nat) (v2 : Int32) (v3 : Int32) (v4 : Int32) (v5 : Int32) (M : mwM) (L : mwL) (H : Heap) (locs : List Loc) (ls : Array Slot), fX12_first_h49 fu a1 (fX12_first_h7 fu a1 f7) f (v2, v3, v4, v5, M, L) = some (r0, M0, L0) → mw_W G ad NF TF FF M L H locs → lv_has ls 8 [(0, .ref (ad 821)), (1, .int a1), (2, .int v2), (3, .int v3), (4, .int v4), (5, .int v5)] → W p l e ({ frames := 2, cells := 0, slots := 0, locals := 48 }) s m [.ref (ad 821), .int a1].toArray below meth c H locs 0 0 (MQ below (mw_Qi G ad NF TF FF (mw_eqI r0 M0 L0)) [.ref (ad 821), .int a1].toArray s 0 0 (mw_fr G)) (F0 m 49 ls []) := by
        intro f
        induction f with
        | zero => intro v2 v3 v4 v5 M L H locs ls hD; cases hD
        | succ f49 ih49 =>
          intro v2 v3 v4 v5 M L H locs ls hD hw hl
          replace hD : fX12_first_i49 fu a1 (fX12_first_h7 fu a1 f7) (fX12_first_h49 fu a1 (fX12_first_h7 fu a1 f7) f49) v2 v3 v4 v5 M L = some (r0, M0, L0) := hD
          unfold fX12_first_i49 at hD
          refine lv_iload_n C.1.1 C.1.2.1 dX12_first_49 rfl (lv_at hl 2 rfl) ?_
          refine lv_iconst (v := (-1)) C.1.1 C.1.2.1 dX12_first_50 (by decide) ?_
          refine lv_icmp_eq (tgt := 92) C.1.1 C.1.2.1 dX12_first_51 (by decide) (fun c8 => ?_) (fun c8 => ?_)
          · replace hD := g_pos c8 hD
            exact hb92 v2 v3 v4 v5 M L _ _ ls hD hw (lv_sub hl [0, 1, 2, 3, 4, 5] rfl)
          · replace hD := g_neg c8 hD
            refine lv_iload C.1.1 C.1.2.1 dX12_first_54 (lv_at hl 5 rfl) ?_
            refine lv_aload_n C.1.1 C.1.2.1 dX12_first_56 rfl (lv_at hl 0 rfl) ?_
            refine mr_getI C hw kc_12 34 (by decide) tf_821 wd_2134 dX12_first_57 (by decide) rfl ?_
            refine lv_icmp_ge (tgt := 92) C.1.1 C.1.2.1 dX12_first_60 (by decide) (fun c9 => ?_) (fun c9 => ?_)
            · replace hD := g_pos c9 hD
              exact hb92 v2 v3 v4 v5 M L _ _ ls hD hw (lv_sub hl [0, 1, 2, 3, 4, 5] rfl)
            · replace hD := g_neg c9 hD
              refine lv_iload C.1.1 C.1.2.1 dX12_first_63 (lv_at hl 5 rfl) ?_
              refine lv_iload_n C.1.1 C.1.2.1 dX12_first_65 rfl (lv_at hl 3 rfl) ?_
              refine lv_icmp_ge (tgt := 92) C.1.1 C.1.2.1 dX12_first_66 (by decide) (fun c10 => ?_) (fun c10 => ?_)
              · replace hD := g_pos c10 hD
                exact hb92 v2 v3 v4 v5 M L _ _ ls hD hw (lv_sub hl [0, 1, 2, 3, 4, 5] rfl)
              · replace hD := g_neg c10 hD
                refine lv_aload_n C.1.1 C.1.2.1 dX12_first_69 rfl (lv_at hl 0 rfl) ?_
                refine mr_getR C hw kc_12 33 (by decide) tf_821 ff_821_33 wd_2133 dX12_first_70 (by decide) rfl ?_
                refine lv_iload C.1.1 C.1.2.1 dX12_first_73 (lv_at hl 5 rfl) ?_
                obtain ⟨q11, hD⟩ := g_ck hD
                refine mr_bald C hw (by decide) tf_848 q11 dX12_first_75 ?_
                refine lv_aload_n C.1.1 C.1.2.1 dX12_first_76 rfl (lv_at hl 0 rfl) ?_
                refine mr_getR C hw kc_12 39 (by decide) tf_821 ff_821_39 wd_2139 dX12_first_77 (by decide) rfl ?_
                refine lv_iload C.1.1 C.1.2.1 dX12_first_80 (lv_at hl 5 rfl) ?_
                obtain ⟨q12, hD⟩ := g_ck hD
                refine mr_bald C hw (by decide) tf_851 q12 dX12_first_82 ?_
                refine lv_icmp_ne (tgt := 92) C.1.1 C.1.2.1 dX12_first_83 (by decide) (fun c13 => ?_) (fun c13 => ?_)
                · replace hD := g_neg c13 hD
                  exact hb92 v2 v3 v4 v5 M L _ _ ls hD hw (lv_sub hl [0, 1, 2, 3, 4, 5] rfl)
                · replace hD := g_pos c13 hD
                  obtain ⟨x14, ex14, hD⟩ := g_let hD
                  refine lv_iinc (v := x14) (lv' := [(5, .int x14), (0, .ref (ad 821)), (1, .int a1), (2, .int v2), (3, .int v3), (4, .int v4)]) C.1.1 C.1.2.1 dX12_first_86 hl (k := 5) rfl (by rw [ex14]; rfl) (by decide) rfl (fun ls hl => ?_)
                  refine lv_goto (tgt := 49) C.1.1 C.1.2.1 dX12_first_89 (by decide) ?_
                  exact ih49 v2 v3 v4 x14 M L _ _ ls hD hw (lv_sub hl [1, 2, 3, 4, 5, 0] rfl)
      unfold fX12_first_i7 at hD
      refine lv_iload C.1.1 C.1.2.1 dX12_first_7 (lv_at hl 4 rfl) ?_
      refine lv_aload_n C.1.1 C.1.2.1 dX12_first_9 rfl (lv_at hl 0 rfl) ?_
      refine mr_getI C hw kc_12 4 (by decide) tf_821 wd_2104 dX12_first_10 (by decide) rfl ?_
      refine lv_icmp_ge (tgt := 190) C.1.1 C.1.2.1 dX12_first_13 (by decide) (fun c1 => ?_) (fun c1 => ?_)
      · replace hD := g_pos c1 hD
        refine lv_iload_n C.1.1 C.1.2.1 dX12_first_190 rfl (lv_at hl 2 rfl) ?_
        exact mr_iret C hr hlocks hw rfl (Option.some.inj hD) dX12_first_191
      · replace hD := g_neg c1 hD
        refine lv_aload_n C.1.1 C.1.2.1 dX12_first_16 rfl (lv_at hl 0 rfl) ?_
        refine mr_getR C hw kc_12 5 (by decide) tf_821 ff_821_5 wd_2105 dX12_first_17 (by decide) rfl ?_
        refine lv_iload C.1.1 C.1.2.1 dX12_first_20 (lv_at hl 4 rfl) ?_
        obtain ⟨q2, hD⟩ := g_ck hD
        refine mr_iald C hw (by decide) tf_823 q2 dX12_first_22 ?_
        refine lv_iload_n C.1.1 C.1.2.1 dX12_first_23 rfl (lv_at hl 1 rfl) ?_
        refine lv_icmp_ne (tgt := 184) C.1.1 C.1.2.1 dX12_first_24 (by decide) (fun c3 => ?_) (fun c3 => ?_)
        · replace hD := g_neg c3 hD
          exact hb184 v2 v3 v4 M L _ _ ls hD hw (lv_sub hl [0, 1, 2, 3, 4] rfl)
        · replace hD := g_pos c3 hD
          refine lv_aload_n C.1.1 C.1.2.1 dX12_first_27 rfl (lv_at hl 0 rfl) ?_
          refine mr_getR C hw kc_12 10 (by decide) tf_821 ff_821_10 wd_2110 dX12_first_28 (by decide) rfl ?_
          refine lv_iload C.1.1 C.1.2.1 dX12_first_31 (lv_at hl 4 rfl) ?_
          obtain ⟨q4, hD⟩ := g_ck hD
          refine mr_zald C hw (by decide) tf_828 q4 dX12_first_33 ?_
          refine lv_if_eq (tgt := 40) C.1.1 C.1.2.1 dX12_first_34 (by decide) (fun c5 => ?_) (fun c5 => ?_)
          · replace hD := g_pos c5 hD
            refine lv_aload_n C.1.1 C.1.2.1 dX12_first_40 rfl (lv_at hl 0 rfl) ?_
            refine lv_iload C.1.1 C.1.2.1 dX12_first_41 (lv_at hl 4 rfl) ?_
            obtain ⟨M6, L7, h1, hD⟩ := g_b2 hD
            refine md_cvV (As := [.int v4]) (rest := []) C hw (tX12_writePlain l G ad fu v4 M L h1) kc_12 (by decide) tf_821 wd_3654 cwX12_writePlain ⟨Nat.le_of_ble_eq_true rfl, Nat.le_of_ble_eq_true rfl⟩ rfl hl.1 (Nat.le_of_ble_eq_true rfl) dX12_first_43 rfl rfl ⟨Nat.zero_le _, Nat.zero_le _⟩ rfl (fun H locs hw => ?_)
            refine lv_iconst (v := 0) C.1.1 C.1.2.1 dX12_first_46 (by decide) ?_
            refine lv_istore (lv' := [(5, .int 0), (0, .ref (ad 821)), (1, .int a1), (2, .int v2), (3, .int v3), (4, .int v4)]) C.1.1 C.1.2.1 dX12_first_47 hl (by decide) rfl (fun ls hl => ?_)
            exact hh49 fu v2 v3 v4 0 M6 L7 _ _ ls hD hw (lv_sub hl [1, 2, 3, 4, 5, 0] rfl)
          · replace hD := g_neg c5 hD
            refine lv_goto (tgt := 184) C.1.1 C.1.2.1 dX12_first_37 (by decide) ?_
            exact hb184 v2 v3 v4 M L _ _ ls hD hw (lv_sub hl [0, 1, 2, 3, 4] rfl)
  unfold DX12_first at hD
  refine lv_iconst (v := (-1)) C.1.1 C.1.2.1 dX12_first_0 (by decide) ?_
  refine lv_istore_n (lv' := [(2, .int ((-1))), (0, .ref (ad 821)), (1, .int a1)]) C.1.1 C.1.2.1 dX12_first_1 rfl hl (by decide) rfl (fun ls hl => ?_)
  refine lv_iconst (v := 0) C.1.1 C.1.2.1 dX12_first_2 (by decide) ?_
  refine lv_istore_n (lv' := [(3, .int 0), (2, .int ((-1))), (0, .ref (ad 821)), (1, .int a1)]) C.1.1 C.1.2.1 dX12_first_3 rfl hl (by decide) rfl (fun ls hl => ?_)
  refine lv_iconst (v := 0) C.1.1 C.1.2.1 dX12_first_4 (by decide) ?_
  refine lv_istore (lv' := [(4, .int 0), (3, .int 0), (2, .int ((-1))), (0, .ref (ad 821)), (1, .int a1)]) C.1.1 C.1.2.1 dX12_first_5 hl (by decide) rfl (fun ls hl => ?_)
  exact hh7 fu ((-1)) 0 0 M L _ _ ls hD hw (lv_sub hl [3, 4, 2, 1, 0] rfl)

theorem dX12_waiting_0 : decode cX12_waiting 0 = .ok (.aload_n 0, 1) := by decide +kernel
theorem dX12_waiting_1 : decode cX12_waiting 1 = .ok (.aload_n 0, 1) := by decide +kernel
theorem dX12_waiting_2 : decode cX12_waiting 2 = .ok (.iload_n 1, 1) := by decide +kernel
theorem dX12_waiting_3 : decode cX12_waiting 3 = .ok (.invokevirtual 139, 3) := by decide +kernel
theorem dX12_waiting_6 : decode cX12_waiting 6 = .ok (.ifCond .eq 7, 3) := by decide +kernel
theorem dX12_waiting_9 : decode cX12_waiting 9 = .ok (.iconst 1, 1) := by decide +kernel
theorem dX12_waiting_10 : decode cX12_waiting 10 = .ok (.goto 4, 3) := by decide +kernel
theorem dX12_waiting_13 : decode cX12_waiting 13 = .ok (.iconst 0, 1) := by decide +kernel
theorem dX12_waiting_14 : decode cX12_waiting 14 = .ok (.putfield 120, 3) := by decide +kernel
theorem dX12_waiting_17 : decode cX12_waiting 17 = .ok (.iconst 0, 1) := by decide +kernel
theorem dX12_waiting_18 : decode cX12_waiting 18 = .ok (.istore_n 2, 1) := by decide +kernel
theorem dX12_waiting_19 : decode cX12_waiting 19 = .ok (.iconst 0, 1) := by decide +kernel
theorem dX12_waiting_20 : decode cX12_waiting 20 = .ok (.istore_n 3, 1) := by decide +kernel
theorem dX12_waiting_21 : decode cX12_waiting 21 = .ok (.iload_n 3, 1) := by decide +kernel
theorem dX12_waiting_22 : decode cX12_waiting 22 = .ok (.aload_n 0, 1) := by decide +kernel
theorem dX12_waiting_23 : decode cX12_waiting 23 = .ok (.getfield 126, 3) := by decide +kernel
theorem dX12_waiting_26 : decode cX12_waiting 26 = .ok (.if_icmp .ge 43, 3) := by decide +kernel
theorem dX12_waiting_29 : decode cX12_waiting 29 = .ok (.aload_n 0, 1) := by decide +kernel
theorem dX12_waiting_30 : decode cX12_waiting 30 = .ok (.getfield 120, 3) := by decide +kernel
theorem dX12_waiting_33 : decode cX12_waiting 33 = .ok (.ifCond .ne 36, 3) := by decide +kernel
theorem dX12_waiting_36 : decode cX12_waiting 36 = .ok (.aload_n 0, 1) := by decide +kernel
theorem dX12_waiting_37 : decode cX12_waiting 37 = .ok (.getfield 17, 3) := by decide +kernel
theorem dX12_waiting_40 : decode cX12_waiting 40 = .ok (.iload_n 3, 1) := by decide +kernel
theorem dX12_waiting_41 : decode cX12_waiting 41 = .ok (.iaload, 1) := by decide +kernel
theorem dX12_waiting_42 : decode cX12_waiting 42 = .ok (.iload_n 1, 1) := by decide +kernel
theorem dX12_waiting_43 : decode cX12_waiting 43 = .ok (.if_icmp .ne 18, 3) := by decide +kernel
theorem dX12_waiting_46 : decode cX12_waiting 46 = .ok (.aload_n 0, 1) := by decide +kernel
theorem dX12_waiting_47 : decode cX12_waiting 47 = .ok (.getfield 33, 3) := by decide +kernel
theorem dX12_waiting_50 : decode cX12_waiting 50 = .ok (.iload_n 3, 1) := by decide +kernel
theorem dX12_waiting_51 : decode cX12_waiting 51 = .ok (.baload, 1) := by decide +kernel
theorem dX12_waiting_52 : decode cX12_waiting 52 = .ok (.ifCond .ne 9, 3) := by decide +kernel
theorem dX12_waiting_55 : decode cX12_waiting 55 = .ok (.iload_n 2, 1) := by decide +kernel
theorem dX12_waiting_56 : decode cX12_waiting 56 = .ok (.iconst 1, 1) := by decide +kernel
theorem dX12_waiting_57 : decode cX12_waiting 57 = .ok (.iadd, 1) := by decide +kernel
theorem dX12_waiting_58 : decode cX12_waiting 58 = .ok (.goto 4, 3) := by decide +kernel
theorem dX12_waiting_61 : decode cX12_waiting 61 = .ok (.iload_n 2, 1) := by decide +kernel
theorem dX12_waiting_62 : decode cX12_waiting 62 = .ok (.istore_n 2, 1) := by decide +kernel
theorem dX12_waiting_63 : decode cX12_waiting 63 = .ok (.iinc 3 1, 3) := by decide +kernel
theorem dX12_waiting_66 : decode cX12_waiting 66 = .ok (.goto (-45), 3) := by decide +kernel
theorem dX12_waiting_69 : decode cX12_waiting 69 = .ok (.iload_n 2, 1) := by decide +kernel
theorem dX12_waiting_70 : decode cX12_waiting 70 = .ok (.ireturn, 1) := by decide +kernel
theorem cwX12_waiting : mw_cwV yX12_waiting cX12_waiting 4 ((some .int)) 1 := ⟨⟨wd_15, wd_4225, by decide +kernel⟩, wd_4223, wd_4224⟩
set_option maxHeartbeats 4000000 in
set_option maxRecDepth 100000 in
theorem tX12_waiting (l : Launch) (G : mwG) (ad : Nat → Nat) (fu : Nat) (a1 : Int32) (M : mwM) (L : mwL) {r0 : Int32} {M0 : mwM} {L0 : mwL} (hD : DX12_waiting fu a1 M L = some (r0, M0, L0)) : Met l yX12_waiting (Cond.code yX12_waiting cX12_waiting 4 ((some .int)) :: GT) ({ frames := 1, cells := 0, slots := 0, locals := 21 }) (mw_Pre G ad NF TF FF M L [.ref (ad 821), .int a1]) (mw_Qi G ad NF TF FF (mw_eqI r0 M0 L0)) 0 0 (mw_fr G) := by
  refine mw_enter (by decide) (Nat.le_of_ble_eq_true rfl) ?_
  intro p e s m below meth c ls C hr hlocks hnm hw hl
  have hl : lv_has ls 4 [(0, .ref (ad 821)), (1, .int a1)] := hl
  have hb69 : ∀ (v2 : Int32) (M : mwM) (L : mwL) (H : Heap) (locs : List Loc) (ls : Array Slot), fX12_waiting_b69 fu a1 v2 M L = some (r0, M0, L0) → mw_W G ad NF TF FF M L H locs → lv_has ls 4 [(2, .int v2)] → W p l e ({ frames := 1, cells := 0, slots := 0, locals := 21 }) s m [.ref (ad 821), .int a1].toArray below meth c H locs 0 0 (MQ below (mw_Qi G ad NF TF FF (mw_eqI r0 M0 L0)) [.ref (ad 821), .int a1].toArray s 0 0 (mw_fr G)) (F0 m 69 ls []) := by
    intro v2 M L H locs ls hD hw hl
    unfold fX12_waiting_b69 at hD
    refine lv_iload_n C.1.1 C.1.2.1 dX12_waiting_69 rfl (lv_at hl 0 rfl) ?_
    exact mr_iret C hr hlocks hw rfl (Option.some.inj hD) dX12_waiting_70
  have hh21 : ∀ (f : Nat) (v2 : Int32) (v3 : Int32) (M : mwM) (L : mwL) (H : Heap) (locs : List Loc) (ls : Array Slot), fX12_waiting_h21 fu a1 f (v2, v3, M, L) = some (r0, M0, L0) → mw_W G ad NF TF FF M L H locs → lv_has ls 4 [(0, .ref (ad 821)), (1, .int a1), (2, .int v2), (3, .int v3)] → W p l e ({ frames := 1, cells := 0, slots := 0, locals := 21 }) s m [.ref (ad 821), .int a1].toArray below meth c H locs 0 0 (MQ below (mw_Qi G ad NF TF FF (mw_eqI r0 M0 L0)) [.ref (ad 821), .int a1].toArray s 0 0 (mw_fr G)) (F0 m 21 ls []) := by
    intro f
    induction f with
    | zero => intro v2 v3 M L H locs ls hD; cases hD
    | succ f21 ih21 =>
      intro v2 v3 M L H locs ls hD hw hl
      replace hD : fX12_waiting_i21 fu a1 (fX12_waiting_h21 fu a1 f21) v2 v3 M L = some (r0, M0, L0) := hD
      have hb62 : ∀ (v3 : Int32) (s0 : Int32) (M : mwM) (L : mwL) (H : Heap) (locs : List Loc) (ls : Array Slot), fX12_waiting_b62 fu a1 (fX12_waiting_h21 fu a1 f21) v3 s0 M L = some (r0, M0, L0) → mw_W G ad NF TF FF M L H locs → lv_has ls 4 [(0, .ref (ad 821)), (1, .int a1), (3, .int v3)] → W p l e ({ frames := 1, cells := 0, slots := 0, locals := 21 }) s m [.ref (ad 821), .int a1].toArray below meth c H locs 0 0 (MQ below (mw_Qi G ad NF TF FF (mw_eqI r0 M0 L0)) [.ref (ad 821), .int a1].toArray s 0 0 (mw_fr G)) (F0 m 62 ls [.int s0]) := by
        intro v3 s0 M L H locs ls hD hw hl
        unfold fX12_waiting_b62 at hD
        refine lv_istore_n (lv' := [(2, .int s0), (0, .ref (ad 821)), (1, .int a1), (3, .int v3)]) C.1.1 C.1.2.1 dX12_waiting_62 rfl hl (by decide) rfl (fun ls hl => ?_)
        obtain ⟨x8, ex8, hD⟩ := g_let hD
        refine lv_iinc (v := x8) (lv' := [(3, .int x8), (2, .int s0), (0, .ref (ad 821)), (1, .int a1)]) C.1.1 C.1.2.1 dX12_waiting_63 hl (k := 3) rfl (by rw [ex8]; rfl) (by decide) rfl (fun ls hl => ?_)
        refine lv_goto (tgt := 21) C.1.1 C.1.2.1 dX12_waiting_66 (by decide) ?_
        exact ih21 s0 x8 M L _ _ ls hD hw (lv_sub hl [2, 3, 1, 0] rfl)
      have hb61 : ∀ (v2 : Int32) (v3 : Int32) (M : mwM) (L : mwL) (H : Heap) (locs : List Loc) (ls : Array Slot), fX12_waiting_b61 fu a1 (fX12_waiting_h21 fu a1 f21) v2 v3 M L = some (r0, M0, L0) → mw_W G ad NF TF FF M L H locs → lv_has ls 4 [(0, .ref (ad 821)), (1, .int a1), (2, .int v2), (3, .int v3)] → W p l e ({ frames := 1, cells := 0, slots := 0, locals := 21 }) s m [.ref (ad 821), .int a1].toArray below meth c H locs 0 0 (MQ below (mw_Qi G ad NF TF FF (mw_eqI r0 M0 L0)) [.ref (ad 821), .int a1].toArray s 0 0 (mw_fr G)) (F0 m 61 ls []) := by
        intro v2 v3 M L H locs ls hD hw hl
        unfold fX12_waiting_b61 at hD
        refine lv_iload_n C.1.1 C.1.2.1 dX12_waiting_61 rfl (lv_at hl 2 rfl) ?_
        exact hb62 v3 v2 M L _ _ ls hD hw (lv_sub hl [0, 1, 3] rfl)
      unfold fX12_waiting_i21 at hD
      refine lv_iload_n C.1.1 C.1.2.1 dX12_waiting_21 rfl (lv_at hl 3 rfl) ?_
      refine lv_aload_n C.1.1 C.1.2.1 dX12_waiting_22 rfl (lv_at hl 0 rfl) ?_
      refine mr_getI C hw kc_12 4 (by decide) tf_821 wd_2104 dX12_waiting_23 (by decide) rfl ?_
      refine lv_icmp_ge (tgt := 69) C.1.1 C.1.2.1 dX12_waiting_26 (by decide) (fun c2 => ?_) (fun c2 => ?_)
      · replace hD := g_pos c2 hD
        exact hb69 v2 M L _ _ ls hD hw (lv_sub hl [2] rfl)
      · replace hD := g_neg c2 hD
        refine lv_aload_n C.1.1 C.1.2.1 dX12_waiting_29 rfl (lv_at hl 0 rfl) ?_
        refine mr_getI C hw kc_12 0 (by decide) tf_821 wd_2100 dX12_waiting_30 (by decide) rfl ?_
        refine lv_if_ne (tgt := 69) C.1.1 C.1.2.1 dX12_waiting_33 (by decide) (fun c3 => ?_) (fun c3 => ?_)
        · replace hD := g_neg c3 hD
          exact hb69 v2 M L _ _ ls hD hw (lv_sub hl [2] rfl)
        · replace hD := g_pos c3 hD
          refine lv_aload_n C.1.1 C.1.2.1 dX12_waiting_36 rfl (lv_at hl 0 rfl) ?_
          refine mr_getR C hw kc_12 5 (by decide) tf_821 ff_821_5 wd_2105 dX12_waiting_37 (by decide) rfl ?_
          refine lv_iload_n C.1.1 C.1.2.1 dX12_waiting_40 rfl (lv_at hl 3 rfl) ?_
          obtain ⟨q4, hD⟩ := g_ck hD
          refine mr_iald C hw (by decide) tf_823 q4 dX12_waiting_41 ?_
          refine lv_iload_n C.1.1 C.1.2.1 dX12_waiting_42 rfl (lv_at hl 1 rfl) ?_
          refine lv_icmp_ne (tgt := 61) C.1.1 C.1.2.1 dX12_waiting_43 (by decide) (fun c5 => ?_) (fun c5 => ?_)
          · replace hD := g_neg c5 hD
            exact hb61 v2 v3 M L _ _ ls hD hw (lv_sub hl [0, 1, 2, 3] rfl)
          · replace hD := g_pos c5 hD
            refine lv_aload_n C.1.1 C.1.2.1 dX12_waiting_46 rfl (lv_at hl 0 rfl) ?_
            refine mr_getR C hw kc_12 10 (by decide) tf_821 ff_821_10 wd_2110 dX12_waiting_47 (by decide) rfl ?_
            refine lv_iload_n C.1.1 C.1.2.1 dX12_waiting_50 rfl (lv_at hl 3 rfl) ?_
            obtain ⟨q6, hD⟩ := g_ck hD
            refine mr_zald C hw (by decide) tf_828 q6 dX12_waiting_51 ?_
            refine lv_if_ne (tgt := 61) C.1.1 C.1.2.1 dX12_waiting_52 (by decide) (fun c7 => ?_) (fun c7 => ?_)
            · replace hD := g_neg c7 hD
              exact hb61 v2 v3 M L _ _ ls hD hw (lv_sub hl [0, 1, 2, 3] rfl)
            · replace hD := g_pos c7 hD
              refine lv_iload_n C.1.1 C.1.2.1 dX12_waiting_55 rfl (lv_at hl 2 rfl) ?_
              refine lv_iconst (v := 1) C.1.1 C.1.2.1 dX12_waiting_56 (by decide) ?_
              refine lv_iadd C.1.1 C.1.2.1 dX12_waiting_57 ?_
              refine lv_goto (tgt := 62) C.1.1 C.1.2.1 dX12_waiting_58 (by decide) ?_
              exact hb62 v3 (v2 + 1) M L _ _ ls hD hw (lv_sub hl [0, 1, 3] rfl)
  have hb14 : ∀ (s1 : Int32) (M : mwM) (L : mwL) (H : Heap) (locs : List Loc) (ls : Array Slot), fX12_waiting_b14 fu a1 s1 M L = some (r0, M0, L0) → mw_W G ad NF TF FF M L H locs → lv_has ls 4 [(0, .ref (ad 821)), (1, .int a1)] → W p l e ({ frames := 1, cells := 0, slots := 0, locals := 21 }) s m [.ref (ad 821), .int a1].toArray below meth c H locs 0 0 (MQ below (mw_Qi G ad NF TF FF (mw_eqI r0 M0 L0)) [.ref (ad 821), .int a1].toArray s 0 0 (mw_fr G)) (F0 m 14 ls [.int s1, .ref (ad 821)]) := by
    intro s1 M L H locs ls hD hw hl
    unfold fX12_waiting_b14 at hD
    obtain ⟨M1, eM1, hD⟩ := g_let hD
    refine mr_putI C hw kc_12 0 (by decide) tf_821 wd_2100 dX12_waiting_14 (by decide) rfl rfl rfl rfl (fun H locs hw => ?_)
    replace hw : mw_W G ad NF TF FF M1 L H locs := by rw [eM1]; exact hw
    refine lv_iconst (v := 0) C.1.1 C.1.2.1 dX12_waiting_17 (by decide) ?_
    refine lv_istore_n (lv' := [(2, .int 0), (0, .ref (ad 821)), (1, .int a1)]) C.1.1 C.1.2.1 dX12_waiting_18 rfl hl (by decide) rfl (fun ls hl => ?_)
    refine lv_iconst (v := 0) C.1.1 C.1.2.1 dX12_waiting_19 (by decide) ?_
    refine lv_istore_n (lv' := [(3, .int 0), (2, .int 0), (0, .ref (ad 821)), (1, .int a1)]) C.1.1 C.1.2.1 dX12_waiting_20 rfl hl (by decide) rfl (fun ls hl => ?_)
    exact hh21 fu 0 0 M1 L _ _ ls hD hw (lv_sub hl [2, 3, 1, 0] rfl)
  unfold DX12_waiting at hD
  refine lv_aload_n C.1.1 C.1.2.1 dX12_waiting_0 rfl (lv_at hl 0 rfl) ?_
  refine lv_aload_n C.1.1 C.1.2.1 dX12_waiting_1 rfl (lv_at hl 0 rfl) ?_
  refine lv_iload_n C.1.1 C.1.2.1 dX12_waiting_2 rfl (lv_at hl 1 rfl) ?_
  obtain ⟨r11, M9, L10, h1, hD⟩ := g_b3 hD
  refine md_cvI (As := [.int a1]) (rest := [.ref (ad 821)]) C hw (tX12_noNode l G ad fu a1 M L h1) kc_12 (by decide) tf_821 wd_3623 cwX12_noNode ⟨Nat.le_of_ble_eq_true rfl, Nat.le_of_ble_eq_true rfl⟩ rfl hl.1 (Nat.le_of_ble_eq_true rfl) dX12_waiting_3 rfl rfl ⟨Nat.zero_le _, Nat.zero_le _⟩ rfl (fun H locs hw => ?_)
  refine lv_if_eq (tgt := 13) C.1.1 C.1.2.1 dX12_waiting_6 (by decide) (fun c12 => ?_) (fun c12 => ?_)
  · replace hD := g_pos c12 hD
    refine lv_iconst (v := 0) C.1.1 C.1.2.1 dX12_waiting_13 (by decide) ?_
    exact hb14 0 M9 L10 _ _ ls hD hw (lv_sub hl [0, 1] rfl)
  · replace hD := g_neg c12 hD
    refine lv_iconst (v := 1) C.1.1 C.1.2.1 dX12_waiting_9 (by decide) ?_
    refine lv_goto (tgt := 14) C.1.1 C.1.2.1 dX12_waiting_10 (by decide) ?_
    exact hb14 1 M9 L10 _ _ ls hD hw (lv_sub hl [0, 1] rfl)

theorem dX12_flip_0 : decode cX12_flip 0 = .ok (.aload_n 0, 1) := by decide +kernel
theorem dX12_flip_1 : decode cX12_flip 1 = .ok (.aload_n 0, 1) := by decide +kernel
theorem dX12_flip_2 : decode cX12_flip 2 = .ok (.iload_n 1, 1) := by decide +kernel
theorem dX12_flip_3 : decode cX12_flip 3 = .ok (.invokevirtual 139, 3) := by decide +kernel
theorem dX12_flip_6 : decode cX12_flip 6 = .ok (.ifCond .eq 7, 3) := by decide +kernel
theorem dX12_flip_9 : decode cX12_flip 9 = .ok (.iconst 1, 1) := by decide +kernel
theorem dX12_flip_10 : decode cX12_flip 10 = .ok (.goto 23, 3) := by decide +kernel
theorem dX12_flip_13 : decode cX12_flip 13 = .ok (.iload_n 2, 1) := by decide +kernel
theorem dX12_flip_14 : decode cX12_flip 14 = .ok (.aload_n 0, 1) := by decide +kernel
theorem dX12_flip_15 : decode cX12_flip 15 = .ok (.getfield 123, 3) := by decide +kernel
theorem dX12_flip_18 : decode cX12_flip 18 = .ok (.if_icmp .lt 10, 3) := by decide +kernel
theorem dX12_flip_21 : decode cX12_flip 21 = .ok (.iload_n 2, 1) := by decide +kernel
theorem dX12_flip_22 : decode cX12_flip 22 = .ok (.sipush 19999, 3) := by decide +kernel
theorem dX12_flip_25 : decode cX12_flip 25 = .ok (.if_icmp .le 7, 3) := by decide +kernel
theorem dX12_flip_28 : decode cX12_flip 28 = .ok (.iconst 2, 1) := by decide +kernel
theorem dX12_flip_29 : decode cX12_flip 29 = .ok (.goto 4, 3) := by decide +kernel
theorem dX12_flip_32 : decode cX12_flip 32 = .ok (.iconst 0, 1) := by decide +kernel
theorem dX12_flip_33 : decode cX12_flip 33 = .ok (.putfield 120, 3) := by decide +kernel
theorem dX12_flip_36 : decode cX12_flip 36 = .ok (.aload_n 0, 1) := by decide +kernel
theorem dX12_flip_37 : decode cX12_flip 37 = .ok (.getfield 120, 3) := by decide +kernel
theorem dX12_flip_40 : decode cX12_flip 40 = .ok (.ifCond .ne 16, 3) := by decide +kernel
theorem dX12_flip_43 : decode cX12_flip 43 = .ok (.aload_n 0, 1) := by decide +kernel
theorem dX12_flip_44 : decode cX12_flip 44 = .ok (.getfield 65, 3) := by decide +kernel
theorem dX12_flip_47 : decode cX12_flip 47 = .ok (.sipush 20000, 3) := by decide +kernel
theorem dX12_flip_50 : decode cX12_flip 50 = .ok (.iload_n 1, 1) := by decide +kernel
theorem dX12_flip_51 : decode cX12_flip 51 = .ok (.imul, 1) := by decide +kernel
theorem dX12_flip_52 : decode cX12_flip 52 = .ok (.iload_n 2, 1) := by decide +kernel
theorem dX12_flip_53 : decode cX12_flip 53 = .ok (.iadd, 1) := by decide +kernel
theorem dX12_flip_54 : decode cX12_flip 54 = .ok (.iconst 1, 1) := by decide +kernel
theorem dX12_flip_55 : decode cX12_flip 55 = .ok (.bastore, 1) := by decide +kernel
theorem dX12_flip_56 : decode cX12_flip 56 = .ok (.return_, 1) := by decide +kernel
theorem cwX12_flip : mw_cwV yX12_flip cX12_flip 3 (none) 2 := ⟨⟨wd_15, wd_4241, by decide +kernel⟩, wd_4239, wd_4240⟩
set_option maxHeartbeats 4000000 in
set_option maxRecDepth 100000 in
theorem tX12_flip (l : Launch) (G : mwG) (ad : Nat → Nat) (fu : Nat) (a1 : Int32) (a2 : Int32) (M : mwM) (L : mwL) {M0 : mwM} {L0 : mwL} (hD : DX12_flip fu a1 a2 M L = some (M0, L0)) : Met l yX12_flip (Cond.code yX12_flip cX12_flip 3 (none) :: GT) ({ frames := 1, cells := 0, slots := 0, locals := 21 }) (mw_Pre G ad NF TF FF M L [.ref (ad 821), .int a1, .int a2]) (mw_Qv G ad NF TF FF (mw_eqV M0 L0)) 0 0 (mw_fr G) := by
  refine mw_enter (by decide) (Nat.le_of_ble_eq_true rfl) ?_
  intro p e s m below meth c ls C hr hlocks hnm hw hl
  have hl : lv_has ls 3 [(0, .ref (ad 821)), (1, .int a1), (2, .int a2)] := hl
  have hb56 : ∀ (M : mwM) (L : mwL) (H : Heap) (locs : List Loc) (ls : Array Slot), fX12_flip_b56 fu a1 a2 M L = some (M0, L0) → mw_W G ad NF TF FF M L H locs → lv_has ls 3 [] → W p l e ({ frames := 1, cells := 0, slots := 0, locals := 21 }) s m [.ref (ad 821), .int a1, .int a2].toArray below meth c H locs 0 0 (MQ below (mw_Qv G ad NF TF FF (mw_eqV M0 L0)) [.ref (ad 821), .int a1, .int a2].toArray s 0 0 (mw_fr G)) (F0 m 56 ls []) := by
    intro M L H locs ls hD hw hl
    unfold fX12_flip_b56 at hD
    exact mr_vret C hr hlocks hw (Option.some.inj hD) dX12_flip_56
  have hb33 : ∀ (s1 : Int32) (M : mwM) (L : mwL) (H : Heap) (locs : List Loc) (ls : Array Slot), fX12_flip_b33 fu a1 a2 s1 M L = some (M0, L0) → mw_W G ad NF TF FF M L H locs → lv_has ls 3 [(0, .ref (ad 821)), (1, .int a1), (2, .int a2)] → W p l e ({ frames := 1, cells := 0, slots := 0, locals := 21 }) s m [.ref (ad 821), .int a1, .int a2].toArray below meth c H locs 0 0 (MQ below (mw_Qv G ad NF TF FF (mw_eqV M0 L0)) [.ref (ad 821), .int a1, .int a2].toArray s 0 0 (mw_fr G)) (F0 m 33 ls [.int s1, .ref (ad 821)]) := by
    intro s1 M L H locs ls hD hw hl
    unfold fX12_flip_b33 at hD
    obtain ⟨M1, eM1, hD⟩ := g_let hD
    refine mr_putI C hw kc_12 0 (by decide) tf_821 wd_2100 dX12_flip_33 (by decide) rfl rfl rfl rfl (fun H locs hw => ?_)
    replace hw : mw_W G ad NF TF FF M1 L H locs := by rw [eM1]; exact hw
    refine lv_aload_n C.1.1 C.1.2.1 dX12_flip_36 rfl (lv_at hl 0 rfl) ?_
    refine mr_getI C hw kc_12 0 (by decide) tf_821 wd_2100 dX12_flip_37 (by decide) rfl ?_
    refine lv_if_ne (tgt := 56) C.1.1 C.1.2.1 dX12_flip_40 (by decide) (fun c2 => ?_) (fun c2 => ?_)
    · replace hD := g_neg c2 hD
      exact hb56 M1 L _ _ ls hD hw (lv_sub hl [] rfl)
    · replace hD := g_pos c2 hD
      refine lv_aload_n C.1.1 C.1.2.1 dX12_flip_43 rfl (lv_at hl 0 rfl) ?_
      refine mr_getR C hw kc_12 21 (by decide) tf_821 ff_821_21 wd_2121 dX12_flip_44 (by decide) rfl ?_
      refine lv_sipush (v := 20000) C.1.1 C.1.2.1 dX12_flip_47 (by decide) ?_
      refine lv_iload_n C.1.1 C.1.2.1 dX12_flip_50 rfl (lv_at hl 1 rfl) ?_
      refine lv_imul C.1.1 C.1.2.1 dX12_flip_51 ?_
      refine lv_iload_n C.1.1 C.1.2.1 dX12_flip_52 rfl (lv_at hl 2 rfl) ?_
      refine lv_iadd C.1.1 C.1.2.1 dX12_flip_53 ?_
      refine lv_iconst (v := 1) C.1.1 C.1.2.1 dX12_flip_54 (by decide) ?_
      obtain ⟨q3, hD⟩ := g_ck hD
      obtain ⟨M4, eM4, hD⟩ := g_let hD
      refine mr_zast C hw (by decide) tf_838 q3 dX12_flip_55 (fun H locs hw => ?_)
      replace hw : mw_W G ad NF TF FF M4 L H locs := by rw [eM4]; exact hw
      exact hb56 M4 L _ _ ls hD hw (lv_sub hl [] rfl)
  have hb28 : ∀ (M : mwM) (L : mwL) (H : Heap) (locs : List Loc) (ls : Array Slot), fX12_flip_b28 fu a1 a2 M L = some (M0, L0) → mw_W G ad NF TF FF M L H locs → lv_has ls 3 [(0, .ref (ad 821)), (1, .int a1), (2, .int a2)] → W p l e ({ frames := 1, cells := 0, slots := 0, locals := 21 }) s m [.ref (ad 821), .int a1, .int a2].toArray below meth c H locs 0 0 (MQ below (mw_Qv G ad NF TF FF (mw_eqV M0 L0)) [.ref (ad 821), .int a1, .int a2].toArray s 0 0 (mw_fr G)) (F0 m 28 ls [.ref (ad 821)]) := by
    intro M L H locs ls hD hw hl
    unfold fX12_flip_b28 at hD
    refine lv_iconst (v := 2) C.1.1 C.1.2.1 dX12_flip_28 (by decide) ?_
    refine lv_goto (tgt := 33) C.1.1 C.1.2.1 dX12_flip_29 (by decide) ?_
    exact hb33 2 M L _ _ ls hD hw (lv_sub hl [0, 1, 2] rfl)
  unfold DX12_flip at hD
  refine lv_aload_n C.1.1 C.1.2.1 dX12_flip_0 rfl (lv_at hl 0 rfl) ?_
  refine lv_aload_n C.1.1 C.1.2.1 dX12_flip_1 rfl (lv_at hl 0 rfl) ?_
  refine lv_iload_n C.1.1 C.1.2.1 dX12_flip_2 rfl (lv_at hl 1 rfl) ?_
  obtain ⟨r7, M5, L6, h1, hD⟩ := g_b3 hD
  refine md_cvI (As := [.int a1]) (rest := [.ref (ad 821)]) C hw (tX12_noNode l G ad fu a1 M L h1) kc_12 (by decide) tf_821 wd_3623 cwX12_noNode ⟨Nat.le_of_ble_eq_true rfl, Nat.le_of_ble_eq_true rfl⟩ rfl hl.1 (Nat.le_of_ble_eq_true rfl) dX12_flip_3 rfl rfl ⟨Nat.zero_le _, Nat.zero_le _⟩ rfl (fun H locs hw => ?_)
  refine lv_if_eq (tgt := 13) C.1.1 C.1.2.1 dX12_flip_6 (by decide) (fun c8 => ?_) (fun c8 => ?_)
  · replace hD := g_pos c8 hD
    refine lv_iload_n C.1.1 C.1.2.1 dX12_flip_13 rfl (lv_at hl 2 rfl) ?_
    refine lv_aload_n C.1.1 C.1.2.1 dX12_flip_14 rfl (lv_at hl 0 rfl) ?_
    refine mr_getI C hw kc_12 2 (by decide) tf_821 wd_2102 dX12_flip_15 (by decide) rfl ?_
    refine lv_icmp_lt (tgt := 28) C.1.1 C.1.2.1 dX12_flip_18 (by decide) (fun c9 => ?_) (fun c9 => ?_)
    · replace hD := g_pos c9 hD
      exact hb28 M5 L6 _ _ ls hD hw (lv_sub hl [0, 1, 2] rfl)
    · replace hD := g_neg c9 hD
      refine lv_iload_n C.1.1 C.1.2.1 dX12_flip_21 rfl (lv_at hl 2 rfl) ?_
      refine lv_sipush (v := 19999) C.1.1 C.1.2.1 dX12_flip_22 (by decide) ?_
      refine lv_icmp_le (tgt := 32) C.1.1 C.1.2.1 dX12_flip_25 (by decide) (fun c10 => ?_) (fun c10 => ?_)
      · replace hD := g_pos c10 hD
        refine lv_iconst (v := 0) C.1.1 C.1.2.1 dX12_flip_32 (by decide) ?_
        exact hb33 0 M5 L6 _ _ ls hD hw (lv_sub hl [0, 1, 2] rfl)
      · replace hD := g_neg c10 hD
        exact hb28 M5 L6 _ _ ls hD hw (lv_sub hl [0, 1, 2] rfl)
  · replace hD := g_neg c8 hD
    refine lv_iconst (v := 1) C.1.1 C.1.2.1 dX12_flip_9 (by decide) ?_
    refine lv_goto (tgt := 33) C.1.1 C.1.2.1 dX12_flip_10 (by decide) ?_
    exact hb33 1 M5 L6 _ _ ls hD hw (lv_sub hl [0, 1, 2] rfl)

theorem dX12_bitAt_0 : decode cX12_bitAt 0 = .ok (.aload_n 0, 1) := by decide +kernel
theorem dX12_bitAt_1 : decode cX12_bitAt 1 = .ok (.getfield 61, 3) := by decide +kernel
theorem dX12_bitAt_4 : decode cX12_bitAt 4 = .ok (.sipush 1200, 3) := by decide +kernel
theorem dX12_bitAt_7 : decode cX12_bitAt 7 = .ok (.iload_n 1, 1) := by decide +kernel
theorem dX12_bitAt_8 : decode cX12_bitAt 8 = .ok (.imul, 1) := by decide +kernel
theorem dX12_bitAt_9 : decode cX12_bitAt 9 = .ok (.iload_n 2, 1) := by decide +kernel
theorem dX12_bitAt_10 : decode cX12_bitAt 10 = .ok (.iadd, 1) := by decide +kernel
theorem dX12_bitAt_11 : decode cX12_bitAt 11 = .ok (.baload, 1) := by decide +kernel
theorem dX12_bitAt_12 : decode cX12_bitAt 12 = .ok (.ireturn, 1) := by decide +kernel
theorem cwX12_bitAt : mw_cwV yX12_bitAt cX12_bitAt 3 ((some .int)) 2 := ⟨⟨wd_15, wd_3714, by decide +kernel⟩, wd_3713, sl_244⟩
set_option maxHeartbeats 4000000 in
set_option maxRecDepth 100000 in
theorem tX12_bitAt (l : Launch) (G : mwG) (ad : Nat → Nat) (fu : Nat) (a1 : Int32) (a2 : Int32) (M : mwM) (L : mwL) {r0 : Int32} {M0 : mwM} {L0 : mwL} (hD : DX12_bitAt fu a1 a2 M L = some (r0, M0, L0)) : Met l yX12_bitAt (Cond.code yX12_bitAt cX12_bitAt 3 ((some .int)) :: GT) ({ frames := 0, cells := 0, slots := 0, locals := 0 }) (mw_Pre G ad NF TF FF M L [.ref (ad 821), .int a1, .int a2]) (mw_Qi G ad NF TF FF (mw_eqI r0 M0 L0)) 0 0 (mw_fr G) := by
  refine mw_enter (by decide) (Nat.le_of_ble_eq_true rfl) ?_
  intro p e s m below meth c ls C hr hlocks hnm hw hl
  have hl : lv_has ls 3 [(0, .ref (ad 821)), (1, .int a1), (2, .int a2)] := hl
  unfold DX12_bitAt at hD
  refine lv_aload_n C.1.1 C.1.2.1 dX12_bitAt_0 rfl (lv_at hl 0 rfl) ?_
  refine mr_getR C hw kc_12 20 (by decide) tf_821 ff_821_20 wd_2120 dX12_bitAt_1 (by decide) rfl ?_
  refine lv_sipush (v := 1200) C.1.1 C.1.2.1 dX12_bitAt_4 (by decide) ?_
  refine lv_iload_n C.1.1 C.1.2.1 dX12_bitAt_7 rfl (lv_at hl 1 rfl) ?_
  refine lv_imul C.1.1 C.1.2.1 dX12_bitAt_8 ?_
  refine lv_iload_n C.1.1 C.1.2.1 dX12_bitAt_9 rfl (lv_at hl 2 rfl) ?_
  refine lv_iadd C.1.1 C.1.2.1 dX12_bitAt_10 ?_
  obtain ⟨q1, hD⟩ := g_ck hD
  refine mr_bald C hw (by decide) tf_837 q1 dX12_bitAt_11 ?_
  exact mr_iret C hr hlocks hw rfl (Option.some.inj hD) dX12_bitAt_12

theorem dX12_number_0 : decode cX12_number 0 = .ok (.iconst 0, 1) := by decide +kernel
theorem dX12_number_1 : decode cX12_number 1 = .ok (.istore_n 3, 1) := by decide +kernel
theorem dX12_number_2 : decode cX12_number 2 = .ok (.iload_n 1, 1) := by decide +kernel
theorem dX12_number_3 : decode cX12_number 3 = .ok (.istore 4, 2) := by decide +kernel
theorem dX12_number_5 : decode cX12_number 5 = .ok (.iload 4, 2) := by decide +kernel
theorem dX12_number_7 : decode cX12_number 7 = .ok (.iload_n 1, 1) := by decide +kernel
theorem dX12_number_8 : decode cX12_number 8 = .ok (.iload_n 2, 1) := by decide +kernel
theorem dX12_number_9 : decode cX12_number 9 = .ok (.iadd, 1) := by decide +kernel
theorem dX12_number_10 : decode cX12_number 10 = .ok (.if_icmp .ge 21, 3) := by decide +kernel
theorem dX12_number_13 : decode cX12_number 13 = .ok (.iconst 2, 1) := by decide +kernel
theorem dX12_number_14 : decode cX12_number 14 = .ok (.iload_n 3, 1) := by decide +kernel
theorem dX12_number_15 : decode cX12_number 15 = .ok (.imul, 1) := by decide +kernel
theorem dX12_number_16 : decode cX12_number 16 = .ok (.aload_n 0, 1) := by decide +kernel
theorem dX12_number_17 : decode cX12_number 17 = .ok (.getfield 96, 3) := by decide +kernel
theorem dX12_number_20 : decode cX12_number 20 = .ok (.iload 4, 2) := by decide +kernel
theorem dX12_number_22 : decode cX12_number 22 = .ok (.baload, 1) := by decide +kernel
theorem dX12_number_23 : decode cX12_number 23 = .ok (.iadd, 1) := by decide +kernel
theorem dX12_number_24 : decode cX12_number 24 = .ok (.istore_n 3, 1) := by decide +kernel
theorem dX12_number_25 : decode cX12_number 25 = .ok (.iinc 4 1, 3) := by decide +kernel
theorem dX12_number_28 : decode cX12_number 28 = .ok (.goto (-23), 3) := by decide +kernel
theorem dX12_number_31 : decode cX12_number 31 = .ok (.iload_n 3, 1) := by decide +kernel
theorem dX12_number_32 : decode cX12_number 32 = .ok (.ireturn, 1) := by decide +kernel
theorem cwX12_number : mw_cwV yX12_number cX12_number 5 ((some .int)) 2 := ⟨⟨wd_15, wd_3722, by decide +kernel⟩, wd_3721, sl_246⟩
set_option maxHeartbeats 4000000 in
set_option maxRecDepth 100000 in
theorem tX12_number (l : Launch) (G : mwG) (ad : Nat → Nat) (fu : Nat) (a1 : Int32) (a2 : Int32) (M : mwM) (L : mwL) {r0 : Int32} {M0 : mwM} {L0 : mwL} (hD : DX12_number fu a1 a2 M L = some (r0, M0, L0)) : Met l yX12_number (Cond.code yX12_number cX12_number 5 ((some .int)) :: GT) ({ frames := 0, cells := 0, slots := 0, locals := 0 }) (mw_Pre G ad NF TF FF M L [.ref (ad 821), .int a1, .int a2]) (mw_Qi G ad NF TF FF (mw_eqI r0 M0 L0)) 0 0 (mw_fr G) := by
  refine mw_enter (by decide) (Nat.le_of_ble_eq_true rfl) ?_
  intro p e s m below meth c ls C hr hlocks hnm hw hl
  have hl : lv_has ls 5 [(0, .ref (ad 821)), (1, .int a1), (2, .int a2)] := hl
  have hh5 : ∀ (f : Nat) (v3 : Int32) (v4 : Int32) (M : mwM) (L : mwL) (H : Heap) (locs : List Loc) (ls : Array Slot), fX12_number_h5 fu a1 a2 f (v3, v4, M, L) = some (r0, M0, L0) → mw_W G ad NF TF FF M L H locs → lv_has ls 5 [(0, .ref (ad 821)), (1, .int a1), (2, .int a2), (3, .int v3), (4, .int v4)] → W p l e ({ frames := 0, cells := 0, slots := 0, locals := 0 }) s m [.ref (ad 821), .int a1, .int a2].toArray below meth c H locs 0 0 (MQ below (mw_Qi G ad NF TF FF (mw_eqI r0 M0 L0)) [.ref (ad 821), .int a1, .int a2].toArray s 0 0 (mw_fr G)) (F0 m 5 ls []) := by
    intro f
    induction f with
    | zero => intro v3 v4 M L H locs ls hD; cases hD
    | succ f5 ih5 =>
      intro v3 v4 M L H locs ls hD hw hl
      replace hD : fX12_number_i5 fu a1 a2 (fX12_number_h5 fu a1 a2 f5) v3 v4 M L = some (r0, M0, L0) := hD
      unfold fX12_number_i5 at hD
      refine lv_iload C.1.1 C.1.2.1 dX12_number_5 (lv_at hl 4 rfl) ?_
      refine lv_iload_n C.1.1 C.1.2.1 dX12_number_7 rfl (lv_at hl 1 rfl) ?_
      refine lv_iload_n C.1.1 C.1.2.1 dX12_number_8 rfl (lv_at hl 2 rfl) ?_
      refine lv_iadd C.1.1 C.1.2.1 dX12_number_9 ?_
      refine lv_icmp_ge (tgt := 31) C.1.1 C.1.2.1 dX12_number_10 (by decide) (fun c1 => ?_) (fun c1 => ?_)
      · replace hD := g_pos c1 hD
        refine lv_iload_n C.1.1 C.1.2.1 dX12_number_31 rfl (lv_at hl 3 rfl) ?_
        exact mr_iret C hr hlocks hw rfl (Option.some.inj hD) dX12_number_32
      · replace hD := g_neg c1 hD
        refine lv_iconst (v := 2) C.1.1 C.1.2.1 dX12_number_13 (by decide) ?_
        refine lv_iload_n C.1.1 C.1.2.1 dX12_number_14 rfl (lv_at hl 3 rfl) ?_
        refine lv_imul C.1.1 C.1.2.1 dX12_number_15 ?_
        refine lv_aload_n C.1.1 C.1.2.1 dX12_number_16 rfl (lv_at hl 0 rfl) ?_
        refine mr_getR C hw kc_12 33 (by decide) tf_821 ff_821_33 wd_2133 dX12_number_17 (by decide) rfl ?_
        refine lv_iload C.1.1 C.1.2.1 dX12_number_20 (lv_at hl 4 rfl) ?_
        obtain ⟨q2, hD⟩ := g_ck hD
        refine mr_bald C hw (by decide) tf_848 q2 dX12_number_22 ?_
        refine lv_iadd C.1.1 C.1.2.1 dX12_number_23 ?_
        obtain ⟨x3, ex3, hD⟩ := g_let hD
        refine W.eq (g2 := F0 m 24 ls (.int x3 :: [])) (by rw [ex3]) ?_
        refine lv_istore_n (lv' := [(3, .int x3), (0, .ref (ad 821)), (1, .int a1), (2, .int a2), (4, .int v4)]) C.1.1 C.1.2.1 dX12_number_24 rfl hl (by decide) rfl (fun ls hl => ?_)
        obtain ⟨x4, ex4, hD⟩ := g_let hD
        refine lv_iinc (v := x4) (lv' := [(4, .int x4), (3, .int x3), (0, .ref (ad 821)), (1, .int a1), (2, .int a2)]) C.1.1 C.1.2.1 dX12_number_25 hl (k := 4) rfl (by rw [ex4]; rfl) (by decide) rfl (fun ls hl => ?_)
        refine lv_goto (tgt := 5) C.1.1 C.1.2.1 dX12_number_28 (by decide) ?_
        exact ih5 x3 x4 M L _ _ ls hD hw (lv_sub hl [2, 3, 4, 1, 0] rfl)
  unfold DX12_number at hD
  refine lv_iconst (v := 0) C.1.1 C.1.2.1 dX12_number_0 (by decide) ?_
  refine lv_istore_n (lv' := [(3, .int 0), (0, .ref (ad 821)), (1, .int a1), (2, .int a2)]) C.1.1 C.1.2.1 dX12_number_1 rfl hl (by decide) rfl (fun ls hl => ?_)
  refine lv_iload_n C.1.1 C.1.2.1 dX12_number_2 rfl (lv_at hl 2 rfl) ?_
  refine lv_istore (lv' := [(4, .int a1), (3, .int 0), (0, .ref (ad 821)), (1, .int a1), (2, .int a2)]) C.1.1 C.1.2.1 dX12_number_3 hl (by decide) rfl (fun ls hl => ?_)
  exact hh5 fu 0 a1 M L _ _ ls hD hw (lv_sub hl [2, 3, 4, 1, 0] rfl)

theorem dX12_find_0 : decode cX12_find 0 = .ok (.aload_n 0, 1) := by decide +kernel
theorem dX12_find_1 : decode cX12_find 1 = .ok (.getfield 96, 3) := by decide +kernel
theorem dX12_find_4 : decode cX12_find 4 = .ok (.iload_n 1, 1) := by decide +kernel
theorem dX12_find_5 : decode cX12_find 5 = .ok (.ifCond .eq 8, 3) := by decide +kernel
theorem dX12_find_8 : decode cX12_find 8 = .ok (.bipush 32, 2) := by decide +kernel
theorem dX12_find_10 : decode cX12_find 10 = .ok (.goto 5, 3) := by decide +kernel
theorem dX12_find_13 : decode cX12_find 13 = .ok (.bipush 12, 2) := by decide +kernel
theorem dX12_find_15 : decode cX12_find 15 = .ok (.baload, 1) := by decide +kernel
theorem dX12_find_16 : decode cX12_find 16 = .ok (.iconst 1, 1) := by decide +kernel
theorem dX12_find_17 : decode cX12_find 17 = .ok (.if_icmp .ne 7, 3) := by decide +kernel
theorem dX12_find_20 : decode cX12_find 20 = .ok (.iconst 1, 1) := by decide +kernel
theorem dX12_find_21 : decode cX12_find 21 = .ok (.goto 4, 3) := by decide +kernel
theorem dX12_find_24 : decode cX12_find 24 = .ok (.iconst 0, 1) := by decide +kernel
theorem dX12_find_25 : decode cX12_find 25 = .ok (.istore 4, 2) := by decide +kernel
theorem dX12_find_27 : decode cX12_find 27 = .ok (.aload_n 0, 1) := by decide +kernel
theorem dX12_find_28 : decode cX12_find 28 = .ok (.iload_n 1, 1) := by decide +kernel
theorem dX12_find_29 : decode cX12_find 29 = .ok (.ifCond .eq 7, 3) := by decide +kernel
theorem dX12_find_32 : decode cX12_find 32 = .ok (.iconst 1, 1) := by decide +kernel
theorem dX12_find_33 : decode cX12_find 33 = .ok (.goto 4, 3) := by decide +kernel
theorem dX12_find_36 : decode cX12_find 36 = .ok (.iconst 0, 1) := by decide +kernel
theorem dX12_find_37 : decode cX12_find 37 = .ok (.iload_n 2, 1) := by decide +kernel
theorem dX12_find_38 : decode cX12_find 38 = .ok (.ifCond .eq 7, 3) := by decide +kernel
theorem dX12_find_41 : decode cX12_find 41 = .ok (.iconst 2, 1) := by decide +kernel
theorem dX12_find_42 : decode cX12_find 42 = .ok (.goto 13, 3) := by decide +kernel
theorem dX12_find_45 : decode cX12_find 45 = .ok (.iload 4, 2) := by decide +kernel
theorem dX12_find_47 : decode cX12_find 47 = .ok (.ifCond .eq 7, 3) := by decide +kernel
theorem dX12_find_50 : decode cX12_find 50 = .ok (.iconst 4, 1) := by decide +kernel
theorem dX12_find_51 : decode cX12_find 51 = .ok (.goto 4, 3) := by decide +kernel
theorem dX12_find_54 : decode cX12_find 54 = .ok (.iconst 0, 1) := by decide +kernel
theorem dX12_find_55 : decode cX12_find 55 = .ok (.iadd, 1) := by decide +kernel
theorem dX12_find_56 : decode cX12_find 56 = .ok (.putfield 222, 3) := by decide +kernel
theorem dX12_find_59 : decode cX12_find 59 = .ok (.aload_n 0, 1) := by decide +kernel
theorem dX12_find_60 : decode cX12_find 60 = .ok (.aload_n 0, 1) := by decide +kernel
theorem dX12_find_61 : decode cX12_find 61 = .ok (.iload_n 3, 1) := by decide +kernel
theorem dX12_find_62 : decode cX12_find 62 = .ok (.iconst 4, 1) := by decide +kernel
theorem dX12_find_63 : decode cX12_find 63 = .ok (.isub, 1) := by decide +kernel
theorem dX12_find_64 : decode cX12_find 64 = .ok (.iconst 4, 1) := by decide +kernel
theorem dX12_find_65 : decode cX12_find 65 = .ok (.invokevirtual 228, 3) := by decide +kernel
theorem dX12_find_68 : decode cX12_find 68 = .ok (.putfield 225, 3) := by decide +kernel
theorem dX12_find_71 : decode cX12_find 71 = .ok (.aload_n 0, 1) := by decide +kernel
theorem dX12_find_72 : decode cX12_find 72 = .ok (.aload_n 0, 1) := by decide +kernel
theorem dX12_find_73 : decode cX12_find 73 = .ok (.iconst 1, 1) := by decide +kernel
theorem dX12_find_74 : decode cX12_find 74 = .ok (.bipush 11, 2) := by decide +kernel
theorem dX12_find_76 : decode cX12_find 76 = .ok (.invokevirtual 228, 3) := by decide +kernel
theorem dX12_find_79 : decode cX12_find 79 = .ok (.putfield 231, 3) := by decide +kernel
theorem dX12_find_82 : decode cX12_find 82 = .ok (.iload_n 1, 1) := by decide +kernel
theorem dX12_find_83 : decode cX12_find 83 = .ok (.ifCond .eq 23, 3) := by decide +kernel
theorem dX12_find_86 : decode cX12_find 86 = .ok (.aload_n 0, 1) := by decide +kernel
theorem dX12_find_87 : decode cX12_find 87 = .ok (.aload_n 0, 1) := by decide +kernel
theorem dX12_find_88 : decode cX12_find 88 = .ok (.getfield 231, 3) := by decide +kernel
theorem dX12_find_91 : decode cX12_find 91 = .ok (.ldc 234, 2) := by decide +kernel
theorem dX12_find_93 : decode cX12_find 93 = .ok (.imul, 1) := by decide +kernel
theorem dX12_find_94 : decode cX12_find 94 = .ok (.aload_n 0, 1) := by decide +kernel
theorem dX12_find_95 : decode cX12_find 95 = .ok (.bipush 14, 2) := by decide +kernel
theorem dX12_find_97 : decode cX12_find 97 = .ok (.bipush 18, 2) := by decide +kernel
theorem dX12_find_99 : decode cX12_find 99 = .ok (.invokevirtual 228, 3) := by decide +kernel
theorem dX12_find_102 : decode cX12_find 102 = .ok (.iadd, 1) := by decide +kernel
theorem dX12_find_103 : decode cX12_find 103 = .ok (.putfield 231, 3) := by decide +kernel
theorem dX12_find_106 : decode cX12_find 106 = .ok (.return_, 1) := by decide +kernel
theorem cwX12_find : mw_cwV yX12_find cX12_find 5 (none) 3 := ⟨⟨wd_15, wd_3718, by decide +kernel⟩, wd_3717, sl_245⟩
set_option maxHeartbeats 4000000 in
set_option maxRecDepth 100000 in
theorem tX12_find (l : Launch) (G : mwG) (ad : Nat → Nat) (fu : Nat) (a1 : Int32) (a2 : Int32) (a3 : Int32) (M : mwM) (L : mwL) {M0 : mwM} {L0 : mwL} (hD : DX12_find fu a1 a2 a3 M L = some (M0, L0)) : Met l yX12_find (Cond.code yX12_find cX12_find 5 (none) :: GT) ({ frames := 1, cells := 0, slots := 0, locals := 24 }) (mw_Pre G ad NF TF FF M L [.ref (ad 821), .int a1, .int a2, .int a3]) (mw_Qv G ad NF TF FF (mw_eqV M0 L0)) 0 0 (mw_fr G) := by
  refine mw_enter (by decide) (Nat.le_of_ble_eq_true rfl) ?_
  intro p e s m below meth c ls C hr hlocks hnm hw hl
  have hl : lv_has ls 5 [(0, .ref (ad 821)), (1, .int a1), (2, .int a2), (3, .int a3)] := hl
  have hb106 : ∀ (M : mwM) (L : mwL) (H : Heap) (locs : List Loc) (ls : Array Slot), fX12_find_b106 fu a1 a2 a3 M L = some (M0, L0) → mw_W G ad NF TF FF M L H locs → lv_has ls 5 [] → W p l e ({ frames := 1, cells := 0, slots := 0, locals := 24 }) s m [.ref (ad 821), .int a1, .int a2, .int a3].toArray below meth c H locs 0 0 (MQ below (mw_Qv G ad NF TF FF (mw_eqV M0 L0)) [.ref (ad 821), .int a1, .int a2, .int a3].toArray s 0 0 (mw_fr G)) (F0 m 106 ls []) := by
    intro M L H locs ls hD hw hl
    unfold fX12_find_b106 at hD
    exact mr_vret C hr hlocks hw (Option.some.inj hD) dX12_find_106
  have hb55 : ∀ (s1 : Int32) (s2 : Int32) (M : mwM) (L : mwL) (H : Heap) (locs : List Loc) (ls : Array Slot), fX12_find_b55 fu a1 a2 a3 s1 s2 M L = some (M0, L0) → mw_W G ad NF TF FF M L H locs → lv_has ls 5 [(0, .ref (ad 821)), (1, .int a1), (3, .int a3)] → W p l e ({ frames := 1, cells := 0, slots := 0, locals := 24 }) s m [.ref (ad 821), .int a1, .int a2, .int a3].toArray below meth c H locs 0 0 (MQ below (mw_Qv G ad NF TF FF (mw_eqV M0 L0)) [.ref (ad 821), .int a1, .int a2, .int a3].toArray s 0 0 (mw_fr G)) (F0 m 55 ls [.int s2, .int s1, .ref (ad 821)]) := by
    intro s1 s2 M L H locs ls hD hw hl
    unfold fX12_find_b55 at hD
    refine lv_iadd C.1.1 C.1.2.1 dX12_find_55 ?_
    obtain ⟨M6, eM6, hD⟩ := g_let hD
    refine mr_putI C hw kc_12 42 (by decide) tf_821 wd_2142 dX12_find_56 (by decide) rfl rfl rfl rfl (fun H locs hw => ?_)
    replace hw : mw_W G ad NF TF FF M6 L H locs := by rw [eM6]; exact hw
    refine lv_aload_n C.1.1 C.1.2.1 dX12_find_59 rfl (lv_at hl 0 rfl) ?_
    refine lv_aload_n C.1.1 C.1.2.1 dX12_find_60 rfl (lv_at hl 0 rfl) ?_
    refine lv_iload_n C.1.1 C.1.2.1 dX12_find_61 rfl (lv_at hl 2 rfl) ?_
    refine lv_iconst (v := 4) C.1.1 C.1.2.1 dX12_find_62 (by decide) ?_
    refine lv_isub C.1.1 C.1.2.1 dX12_find_63 ?_
    refine lv_iconst (v := 4) C.1.1 C.1.2.1 dX12_find_64 (by decide) ?_
    obtain ⟨r9, M7, L8, h1, hD⟩ := g_b3 hD
    refine md_cvI (As := [.int (a3 - 4), .int 4]) (rest := [.ref (ad 821)]) C hw (tX12_number l G ad fu (a3 - 4) 4 M6 L h1) kc_12 (by decide) tf_821 wd_3719 cwX12_number ⟨Nat.le_of_ble_eq_true rfl, Nat.le_of_ble_eq_true rfl⟩ rfl hl.1 (Nat.le_of_ble_eq_true rfl) dX12_find_65 rfl rfl ⟨Nat.zero_le _, Nat.zero_le _⟩ rfl (fun H locs hw => ?_)
    obtain ⟨M10, eM10, hD⟩ := g_let hD
    refine mr_putI C hw kc_12 43 (by decide) tf_821 wd_2143 dX12_find_68 (by decide) rfl rfl rfl rfl (fun H locs hw => ?_)
    replace hw : mw_W G ad NF TF FF M10 L8 H locs := by rw [eM10]; exact hw
    refine lv_aload_n C.1.1 C.1.2.1 dX12_find_71 rfl (lv_at hl 0 rfl) ?_
    refine lv_aload_n C.1.1 C.1.2.1 dX12_find_72 rfl (lv_at hl 0 rfl) ?_
    refine lv_iconst (v := 1) C.1.1 C.1.2.1 dX12_find_73 (by decide) ?_
    refine lv_bipush (v := 11) C.1.1 C.1.2.1 dX12_find_74 (by decide) ?_
    obtain ⟨r13, M11, L12, h1, hD⟩ := g_b3 hD
    refine md_cvI (As := [.int 1, .int 11]) (rest := [.ref (ad 821)]) C hw (tX12_number l G ad fu 1 11 M10 L8 h1) kc_12 (by decide) tf_821 wd_3719 cwX12_number ⟨Nat.le_of_ble_eq_true rfl, Nat.le_of_ble_eq_true rfl⟩ rfl hl.1 (Nat.le_of_ble_eq_true rfl) dX12_find_76 rfl rfl ⟨Nat.zero_le _, Nat.zero_le _⟩ rfl (fun H locs hw => ?_)
    obtain ⟨M14, eM14, hD⟩ := g_let hD
    refine mr_putI C hw kc_12 44 (by decide) tf_821 wd_2144 dX12_find_79 (by decide) rfl rfl rfl rfl (fun H locs hw => ?_)
    replace hw : mw_W G ad NF TF FF M14 L12 H locs := by rw [eM14]; exact hw
    refine lv_iload_n C.1.1 C.1.2.1 dX12_find_82 rfl (lv_at hl 1 rfl) ?_
    refine lv_if_eq (tgt := 106) C.1.1 C.1.2.1 dX12_find_83 (by decide) (fun c15 => ?_) (fun c15 => ?_)
    · replace hD := g_pos c15 hD
      exact hb106 M14 L12 _ _ ls hD hw (lv_sub hl [] rfl)
    · replace hD := g_neg c15 hD
      refine lv_aload_n C.1.1 C.1.2.1 dX12_find_86 rfl (lv_at hl 0 rfl) ?_
      refine lv_aload_n C.1.1 C.1.2.1 dX12_find_87 rfl (lv_at hl 0 rfl) ?_
      refine mr_getI C hw kc_12 44 (by decide) tf_821 wd_2144 dX12_find_88 (by decide) rfl ?_
      refine lv_ldc (v := 262144) C.1.1 C.1.2.1 C.1.2.2.2.1 (C.1.2.2.2.2 _ wd_3723) dX12_find_91 ?_
      refine lv_imul C.1.1 C.1.2.1 dX12_find_93 ?_
      refine lv_aload_n C.1.1 C.1.2.1 dX12_find_94 rfl (lv_at hl 0 rfl) ?_
      refine lv_bipush (v := 14) C.1.1 C.1.2.1 dX12_find_95 (by decide) ?_
      refine lv_bipush (v := 18) C.1.1 C.1.2.1 dX12_find_97 (by decide) ?_
      obtain ⟨r18, M16, L17, h1, hD⟩ := g_b3 hD
      refine md_cvI (As := [.int 14, .int 18]) (rest := [.int ((M14 821 44) * 262144), .ref (ad 821)]) C hw (tX12_number l G ad fu 14 18 M14 L12 h1) kc_12 (by decide) tf_821 wd_3719 cwX12_number ⟨Nat.le_of_ble_eq_true rfl, Nat.le_of_ble_eq_true rfl⟩ rfl hl.1 (Nat.le_of_ble_eq_true rfl) dX12_find_99 rfl rfl ⟨Nat.zero_le _, Nat.zero_le _⟩ rfl (fun H locs hw => ?_)
      refine lv_iadd C.1.1 C.1.2.1 dX12_find_102 ?_
      obtain ⟨M19, eM19, hD⟩ := g_let hD
      refine mr_putI C hw kc_12 44 (by decide) tf_821 wd_2144 dX12_find_103 (by decide) rfl rfl rfl rfl (fun H locs hw => ?_)
      replace hw : mw_W G ad NF TF FF M19 L17 H locs := by rw [eM19]; exact hw
      exact hb106 M19 L17 _ _ ls hD hw (lv_sub hl [] rfl)
  have hb37 : ∀ (v4 : Int32) (s1 : Int32) (M : mwM) (L : mwL) (H : Heap) (locs : List Loc) (ls : Array Slot), fX12_find_b37 fu a1 a2 a3 v4 s1 M L = some (M0, L0) → mw_W G ad NF TF FF M L H locs → lv_has ls 5 [(0, .ref (ad 821)), (1, .int a1), (2, .int a2), (3, .int a3), (4, .int v4)] → W p l e ({ frames := 1, cells := 0, slots := 0, locals := 24 }) s m [.ref (ad 821), .int a1, .int a2, .int a3].toArray below meth c H locs 0 0 (MQ below (mw_Qv G ad NF TF FF (mw_eqV M0 L0)) [.ref (ad 821), .int a1, .int a2, .int a3].toArray s 0 0 (mw_fr G)) (F0 m 37 ls [.int s1, .ref (ad 821)]) := by
    intro v4 s1 M L H locs ls hD hw hl
    unfold fX12_find_b37 at hD
    refine lv_iload_n C.1.1 C.1.2.1 dX12_find_37 rfl (lv_at hl 2 rfl) ?_
    refine lv_if_eq (tgt := 45) C.1.1 C.1.2.1 dX12_find_38 (by decide) (fun c4 => ?_) (fun c4 => ?_)
    · replace hD := g_pos c4 hD
      refine lv_iload C.1.1 C.1.2.1 dX12_find_45 (lv_at hl 4 rfl) ?_
      refine lv_if_eq (tgt := 54) C.1.1 C.1.2.1 dX12_find_47 (by decide) (fun c5 => ?_) (fun c5 => ?_)
      · replace hD := g_pos c5 hD
        refine lv_iconst (v := 0) C.1.1 C.1.2.1 dX12_find_54 (by decide) ?_
        exact hb55 s1 0 M L _ _ ls hD hw (lv_sub hl [0, 1, 3] rfl)
      · replace hD := g_neg c5 hD
        refine lv_iconst (v := 4) C.1.1 C.1.2.1 dX12_find_50 (by decide) ?_
        refine lv_goto (tgt := 55) C.1.1 C.1.2.1 dX12_find_51 (by decide) ?_
        exact hb55 s1 4 M L _ _ ls hD hw (lv_sub hl [0, 1, 3] rfl)
    · replace hD := g_neg c4 hD
      refine lv_iconst (v := 2) C.1.1 C.1.2.1 dX12_find_41 (by decide) ?_
      refine lv_goto (tgt := 55) C.1.1 C.1.2.1 dX12_find_42 (by decide) ?_
      exact hb55 s1 2 M L _ _ ls hD hw (lv_sub hl [0, 1, 3] rfl)
  have hb25 : ∀ (s0 : Int32) (M : mwM) (L : mwL) (H : Heap) (locs : List Loc) (ls : Array Slot), fX12_find_b25 fu a1 a2 a3 s0 M L = some (M0, L0) → mw_W G ad NF TF FF M L H locs → lv_has ls 5 [(0, .ref (ad 821)), (1, .int a1), (2, .int a2), (3, .int a3)] → W p l e ({ frames := 1, cells := 0, slots := 0, locals := 24 }) s m [.ref (ad 821), .int a1, .int a2, .int a3].toArray below meth c H locs 0 0 (MQ below (mw_Qv G ad NF TF FF (mw_eqV M0 L0)) [.ref (ad 821), .int a1, .int a2, .int a3].toArray s 0 0 (mw_fr G)) (F0 m 25 ls [.int s0]) := by
    intro s0 M L H locs ls hD hw hl
    unfold fX12_find_b25 at hD
    refine lv_istore (lv' := [(4, .int s0), (0, .ref (ad 821)), (1, .int a1), (2, .int a2), (3, .int a3)]) C.1.1 C.1.2.1 dX12_find_25 hl (by decide) rfl (fun ls hl => ?_)
    refine lv_aload_n C.1.1 C.1.2.1 dX12_find_27 rfl (lv_at hl 1 rfl) ?_
    refine lv_iload_n C.1.1 C.1.2.1 dX12_find_28 rfl (lv_at hl 2 rfl) ?_
    refine lv_if_eq (tgt := 36) C.1.1 C.1.2.1 dX12_find_29 (by decide) (fun c3 => ?_) (fun c3 => ?_)
    · replace hD := g_pos c3 hD
      refine lv_iconst (v := 0) C.1.1 C.1.2.1 dX12_find_36 (by decide) ?_
      exact hb37 s0 0 M L _ _ ls hD hw (lv_sub hl [1, 2, 3, 4, 0] rfl)
    · replace hD := g_neg c3 hD
      refine lv_iconst (v := 1) C.1.1 C.1.2.1 dX12_find_32 (by decide) ?_
      refine lv_goto (tgt := 37) C.1.1 C.1.2.1 dX12_find_33 (by decide) ?_
      exact hb37 s0 1 M L _ _ ls hD hw (lv_sub hl [1, 2, 3, 4, 0] rfl)
  have hb15 : ∀ (s1 : Int32) (M : mwM) (L : mwL) (H : Heap) (locs : List Loc) (ls : Array Slot), fX12_find_b15 fu a1 a2 a3 s1 M L = some (M0, L0) → mw_W G ad NF TF FF M L H locs → lv_has ls 5 [(0, .ref (ad 821)), (1, .int a1), (2, .int a2), (3, .int a3)] → W p l e ({ frames := 1, cells := 0, slots := 0, locals := 24 }) s m [.ref (ad 821), .int a1, .int a2, .int a3].toArray below meth c H locs 0 0 (MQ below (mw_Qv G ad NF TF FF (mw_eqV M0 L0)) [.ref (ad 821), .int a1, .int a2, .int a3].toArray s 0 0 (mw_fr G)) (F0 m 15 ls [.int s1, .ref (ad 848)]) := by
    intro s1 M L H locs ls hD hw hl
    unfold fX12_find_b15 at hD
    obtain ⟨q1, hD⟩ := g_ck hD
    refine mr_bald C hw (by decide) tf_848 q1 dX12_find_15 ?_
    refine lv_iconst (v := 1) C.1.1 C.1.2.1 dX12_find_16 (by decide) ?_
    refine lv_icmp_ne (tgt := 24) C.1.1 C.1.2.1 dX12_find_17 (by decide) (fun c2 => ?_) (fun c2 => ?_)
    · replace hD := g_neg c2 hD
      refine lv_iconst (v := 0) C.1.1 C.1.2.1 dX12_find_24 (by decide) ?_
      exact hb25 0 M L _ _ ls hD hw (lv_sub hl [0, 1, 2, 3] rfl)
    · replace hD := g_pos c2 hD
      refine lv_iconst (v := 1) C.1.1 C.1.2.1 dX12_find_20 (by decide) ?_
      refine lv_goto (tgt := 25) C.1.1 C.1.2.1 dX12_find_21 (by decide) ?_
      exact hb25 1 M L _ _ ls hD hw (lv_sub hl [0, 1, 2, 3] rfl)
  unfold DX12_find at hD
  refine lv_aload_n C.1.1 C.1.2.1 dX12_find_0 rfl (lv_at hl 0 rfl) ?_
  refine mr_getR C hw kc_12 33 (by decide) tf_821 ff_821_33 wd_2133 dX12_find_1 (by decide) rfl ?_
  refine lv_iload_n C.1.1 C.1.2.1 dX12_find_4 rfl (lv_at hl 1 rfl) ?_
  refine lv_if_eq (tgt := 13) C.1.1 C.1.2.1 dX12_find_5 (by decide) (fun c20 => ?_) (fun c20 => ?_)
  · replace hD := g_pos c20 hD
    refine lv_bipush (v := 12) C.1.1 C.1.2.1 dX12_find_13 (by decide) ?_
    exact hb15 12 M L _ _ ls hD hw (lv_sub hl [0, 1, 2, 3] rfl)
  · replace hD := g_neg c20 hD
    refine lv_bipush (v := 32) C.1.1 C.1.2.1 dX12_find_8 (by decide) ?_
    refine lv_goto (tgt := 15) C.1.1 C.1.2.1 dX12_find_10 (by decide) ?_
    exact hb15 32 M L _ _ ls hD hw (lv_sub hl [0, 1, 2, 3] rfl)

theorem dX12_bodyAnew_0 : decode cX12_bodyAnew 0 = .ok (.aload_n 0, 1) := by decide +kernel
theorem dX12_bodyAnew_1 : decode cX12_bodyAnew 1 = .ok (.getfield 58, 3) := by decide +kernel
theorem dX12_bodyAnew_4 : decode cX12_bodyAnew 4 = .ok (.iload_n 1, 1) := by decide +kernel
theorem dX12_bodyAnew_5 : decode cX12_bodyAnew 5 = .ok (.iaload, 1) := by decide +kernel
theorem dX12_bodyAnew_6 : decode cX12_bodyAnew 6 = .ok (.iconst 1, 1) := by decide +kernel
theorem dX12_bodyAnew_7 : decode cX12_bodyAnew 7 = .ok (.isub, 1) := by decide +kernel
theorem dX12_bodyAnew_8 : decode cX12_bodyAnew 8 = .ok (.istore_n 2, 1) := by decide +kernel
theorem dX12_bodyAnew_9 : decode cX12_bodyAnew 9 = .ok (.iconst 1, 1) := by decide +kernel
theorem dX12_bodyAnew_10 : decode cX12_bodyAnew 10 = .ok (.istore_n 3, 1) := by decide +kernel
theorem dX12_bodyAnew_11 : decode cX12_bodyAnew 11 = .ok (.iconst 0, 1) := by decide +kernel
theorem dX12_bodyAnew_12 : decode cX12_bodyAnew 12 = .ok (.istore 4, 2) := by decide +kernel
theorem dX12_bodyAnew_14 : decode cX12_bodyAnew 14 = .ok (.sipush 20000, 3) := by decide +kernel
theorem dX12_bodyAnew_17 : decode cX12_bodyAnew 17 = .ok (.istore 5, 2) := by decide +kernel
theorem dX12_bodyAnew_19 : decode cX12_bodyAnew 19 = .ok (.iconst 0, 1) := by decide +kernel
theorem dX12_bodyAnew_20 : decode cX12_bodyAnew 20 = .ok (.istore 6, 2) := by decide +kernel
theorem dX12_bodyAnew_22 : decode cX12_bodyAnew 22 = .ok (.iconst 0, 1) := by decide +kernel
theorem dX12_bodyAnew_23 : decode cX12_bodyAnew 23 = .ok (.istore 7, 2) := by decide +kernel
theorem dX12_bodyAnew_25 : decode cX12_bodyAnew 25 = .ok (.aload_n 0, 1) := by decide +kernel
theorem dX12_bodyAnew_26 : decode cX12_bodyAnew 26 = .ok (.iconst (-1), 1) := by decide +kernel
theorem dX12_bodyAnew_27 : decode cX12_bodyAnew 27 = .ok (.putfield 209, 3) := by decide +kernel
theorem dX12_bodyAnew_30 : decode cX12_bodyAnew 30 = .ok (.aload_n 0, 1) := by decide +kernel
theorem dX12_bodyAnew_31 : decode cX12_bodyAnew 31 = .ok (.iconst 0, 1) := by decide +kernel
theorem dX12_bodyAnew_32 : decode cX12_bodyAnew 32 = .ok (.putfield 212, 3) := by decide +kernel
theorem dX12_bodyAnew_35 : decode cX12_bodyAnew 35 = .ok (.aload_n 0, 1) := by decide +kernel
theorem dX12_bodyAnew_36 : decode cX12_bodyAnew 36 = .ok (.iconst 0, 1) := by decide +kernel
theorem dX12_bodyAnew_37 : decode cX12_bodyAnew 37 = .ok (.putfield 150, 3) := by decide +kernel
theorem dX12_bodyAnew_40 : decode cX12_bodyAnew 40 = .ok (.aload_n 0, 1) := by decide +kernel
theorem dX12_bodyAnew_41 : decode cX12_bodyAnew 41 = .ok (.iconst 0, 1) := by decide +kernel
theorem dX12_bodyAnew_42 : decode cX12_bodyAnew 42 = .ok (.putfield 160, 3) := by decide +kernel
theorem dX12_bodyAnew_45 : decode cX12_bodyAnew 45 = .ok (.iconst 0, 1) := by decide +kernel
theorem dX12_bodyAnew_46 : decode cX12_bodyAnew 46 = .ok (.istore 8, 2) := by decide +kernel
theorem dX12_bodyAnew_48 : decode cX12_bodyAnew 48 = .ok (.iload 8, 2) := by decide +kernel
theorem dX12_bodyAnew_50 : decode cX12_bodyAnew 50 = .ok (.iload_n 2, 1) := by decide +kernel
theorem dX12_bodyAnew_51 : decode cX12_bodyAnew 51 = .ok (.if_icmp .gt 345, 3) := by decide +kernel
theorem dX12_bodyAnew_54 : decode cX12_bodyAnew 54 = .ok (.aload_n 0, 1) := by decide +kernel
theorem dX12_bodyAnew_55 : decode cX12_bodyAnew 55 = .ok (.iload_n 1, 1) := by decide +kernel
theorem dX12_bodyAnew_56 : decode cX12_bodyAnew 56 = .ok (.iload 8, 2) := by decide +kernel
theorem dX12_bodyAnew_58 : decode cX12_bodyAnew 58 = .ok (.invokevirtual 215, 3) := by decide +kernel
theorem dX12_bodyAnew_61 : decode cX12_bodyAnew 61 = .ok (.istore 9, 2) := by decide +kernel
theorem dX12_bodyAnew_63 : decode cX12_bodyAnew 63 = .ok (.aload_n 0, 1) := by decide +kernel
theorem dX12_bodyAnew_64 : decode cX12_bodyAnew 64 = .ok (.iload 9, 2) := by decide +kernel
theorem dX12_bodyAnew_66 : decode cX12_bodyAnew 66 = .ok (.invokevirtual 177, 3) := by decide +kernel
theorem dX12_bodyAnew_69 : decode cX12_bodyAnew 69 = .ok (.iload 4, 2) := by decide +kernel
theorem dX12_bodyAnew_71 : decode cX12_bodyAnew 71 = .ok (.iconst 5, 1) := by decide +kernel
theorem dX12_bodyAnew_72 : decode cX12_bodyAnew 72 = .ok (.if_icmp .ne 49, 3) := by decide +kernel
theorem dX12_bodyAnew_75 : decode cX12_bodyAnew 75 = .ok (.iload 9, 2) := by decide +kernel
theorem dX12_bodyAnew_77 : decode cX12_bodyAnew 77 = .ok (.iload_n 3, 1) := by decide +kernel
theorem dX12_bodyAnew_78 : decode cX12_bodyAnew 78 = .ok (.if_icmp .ne 5, 3) := by decide +kernel
theorem dX12_bodyAnew_81 : decode cX12_bodyAnew 81 = .ok (.iconst 1, 1) := by decide +kernel
theorem dX12_bodyAnew_82 : decode cX12_bodyAnew 82 = .ok (.ireturn, 1) := by decide +kernel
theorem dX12_bodyAnew_83 : decode cX12_bodyAnew 83 = .ok (.iconst 1, 1) := by decide +kernel
theorem dX12_bodyAnew_84 : decode cX12_bodyAnew 84 = .ok (.istore 4, 2) := by decide +kernel
theorem dX12_bodyAnew_86 : decode cX12_bodyAnew 86 = .ok (.iload 9, 2) := by decide +kernel
theorem dX12_bodyAnew_88 : decode cX12_bodyAnew 88 = .ok (.istore_n 3, 1) := by decide +kernel
theorem dX12_bodyAnew_89 : decode cX12_bodyAnew 89 = .ok (.aload_n 0, 1) := by decide +kernel
theorem dX12_bodyAnew_90 : decode cX12_bodyAnew 90 = .ok (.dup, 1) := by decide +kernel
theorem dX12_bodyAnew_91 : decode cX12_bodyAnew 91 = .ok (.getfield 212, 3) := by decide +kernel
theorem dX12_bodyAnew_94 : decode cX12_bodyAnew 94 = .ok (.iconst 1, 1) := by decide +kernel
theorem dX12_bodyAnew_95 : decode cX12_bodyAnew 95 = .ok (.iadd, 1) := by decide +kernel
theorem dX12_bodyAnew_96 : decode cX12_bodyAnew 96 = .ok (.putfield 212, 3) := by decide +kernel
theorem dX12_bodyAnew_99 : decode cX12_bodyAnew 99 = .ok (.aload_n 0, 1) := by decide +kernel
theorem dX12_bodyAnew_100 : decode cX12_bodyAnew 100 = .ok (.getfield 150, 3) := by decide +kernel
theorem dX12_bodyAnew_103 : decode cX12_bodyAnew 103 = .ok (.iload 5, 2) := by decide +kernel
theorem dX12_bodyAnew_105 : decode cX12_bodyAnew 105 = .ok (.bipush 15, 2) := by decide +kernel
theorem dX12_bodyAnew_107 : decode cX12_bodyAnew 107 = .ok (.iadd, 1) := by decide +kernel
theorem dX12_bodyAnew_108 : decode cX12_bodyAnew 108 = .ok (.if_icmp .ne 282, 3) := by decide +kernel
theorem dX12_bodyAnew_111 : decode cX12_bodyAnew 111 = .ok (.aload_n 0, 1) := by decide +kernel
theorem dX12_bodyAnew_112 : decode cX12_bodyAnew 112 = .ok (.iload 8, 2) := by decide +kernel
theorem dX12_bodyAnew_114 : decode cX12_bodyAnew 114 = .ok (.iconst 1, 1) := by decide +kernel
theorem dX12_bodyAnew_115 : decode cX12_bodyAnew 115 = .ok (.iadd, 1) := by decide +kernel
theorem dX12_bodyAnew_116 : decode cX12_bodyAnew 116 = .ok (.putfield 209, 3) := by decide +kernel
theorem dX12_bodyAnew_119 : decode cX12_bodyAnew 119 = .ok (.iconst (-1), 1) := by decide +kernel
theorem dX12_bodyAnew_120 : decode cX12_bodyAnew 120 = .ok (.ireturn, 1) := by decide +kernel
theorem dX12_bodyAnew_121 : decode cX12_bodyAnew 121 = .ok (.iload 9, 2) := by decide +kernel
theorem dX12_bodyAnew_123 : decode cX12_bodyAnew 123 = .ok (.iload_n 3, 1) := by decide +kernel
theorem dX12_bodyAnew_124 : decode cX12_bodyAnew 124 = .ok (.if_icmp .ne 10, 3) := by decide +kernel
theorem dX12_bodyAnew_127 : decode cX12_bodyAnew 127 = .ok (.iload 4, 2) := by decide +kernel
theorem dX12_bodyAnew_129 : decode cX12_bodyAnew 129 = .ok (.iconst 1, 1) := by decide +kernel
theorem dX12_bodyAnew_130 : decode cX12_bodyAnew 130 = .ok (.iadd, 1) := by decide +kernel
theorem dX12_bodyAnew_131 : decode cX12_bodyAnew 131 = .ok (.goto 4, 3) := by decide +kernel
theorem dX12_bodyAnew_134 : decode cX12_bodyAnew 134 = .ok (.iconst 1, 1) := by decide +kernel
theorem dX12_bodyAnew_135 : decode cX12_bodyAnew 135 = .ok (.istore 4, 2) := by decide +kernel
theorem dX12_bodyAnew_137 : decode cX12_bodyAnew 137 = .ok (.iload 9, 2) := by decide +kernel
theorem dX12_bodyAnew_139 : decode cX12_bodyAnew 139 = .ok (.istore_n 3, 1) := by decide +kernel
theorem dX12_bodyAnew_140 : decode cX12_bodyAnew 140 = .ok (.aload_n 0, 1) := by decide +kernel
theorem dX12_bodyAnew_141 : decode cX12_bodyAnew 141 = .ok (.getfield 96, 3) := by decide +kernel
theorem dX12_bodyAnew_144 : decode cX12_bodyAnew 144 = .ok (.aload_n 0, 1) := by decide +kernel
theorem dX12_bodyAnew_145 : decode cX12_bodyAnew 145 = .ok (.getfield 150, 3) := by decide +kernel
theorem dX12_bodyAnew_148 : decode cX12_bodyAnew 148 = .ok (.iload 9, 2) := by decide +kernel
theorem dX12_bodyAnew_150 : decode cX12_bodyAnew 150 = .ok (.i2b, 1) := by decide +kernel
theorem dX12_bodyAnew_151 : decode cX12_bodyAnew 151 = .ok (.bastore, 1) := by decide +kernel
theorem dX12_bodyAnew_152 : decode cX12_bodyAnew 152 = .ok (.aload_n 0, 1) := by decide +kernel
theorem dX12_bodyAnew_153 : decode cX12_bodyAnew 153 = .ok (.dup, 1) := by decide +kernel
theorem dX12_bodyAnew_154 : decode cX12_bodyAnew 154 = .ok (.getfield 150, 3) := by decide +kernel
theorem dX12_bodyAnew_157 : decode cX12_bodyAnew 157 = .ok (.iconst 1, 1) := by decide +kernel
theorem dX12_bodyAnew_158 : decode cX12_bodyAnew 158 = .ok (.iadd, 1) := by decide +kernel
theorem dX12_bodyAnew_159 : decode cX12_bodyAnew 159 = .ok (.putfield 150, 3) := by decide +kernel
theorem dX12_bodyAnew_162 : decode cX12_bodyAnew 162 = .ok (.aload_n 0, 1) := by decide +kernel
theorem dX12_bodyAnew_163 : decode cX12_bodyAnew 163 = .ok (.getfield 150, 3) := by decide +kernel
theorem dX12_bodyAnew_166 : decode cX12_bodyAnew 166 = .ok (.bipush 14, 2) := by decide +kernel
theorem dX12_bodyAnew_168 : decode cX12_bodyAnew 168 = .ok (.if_icmp .ne 16, 3) := by decide +kernel
theorem dX12_bodyAnew_171 : decode cX12_bodyAnew 171 = .ok (.iload 9, 2) := by decide +kernel
theorem dX12_bodyAnew_173 : decode cX12_bodyAnew 173 = .ok (.iconst 1, 1) := by decide +kernel
theorem dX12_bodyAnew_174 : decode cX12_bodyAnew 174 = .ok (.if_icmp .ne 7, 3) := by decide +kernel
theorem dX12_bodyAnew_177 : decode cX12_bodyAnew 177 = .ok (.iconst 1, 1) := by decide +kernel
theorem dX12_bodyAnew_178 : decode cX12_bodyAnew 178 = .ok (.goto 4, 3) := by decide +kernel
theorem dX12_bodyAnew_181 : decode cX12_bodyAnew 181 = .ok (.iconst 0, 1) := by decide +kernel
theorem dX12_bodyAnew_182 : decode cX12_bodyAnew 182 = .ok (.istore 6, 2) := by decide +kernel
theorem dX12_bodyAnew_184 : decode cX12_bodyAnew 184 = .ok (.iload 6, 2) := by decide +kernel
theorem dX12_bodyAnew_186 : decode cX12_bodyAnew 186 = .ok (.ifCond .eq 8, 3) := by decide +kernel
theorem dX12_bodyAnew_189 : decode cX12_bodyAnew 189 = .ok (.bipush 33, 2) := by decide +kernel
theorem dX12_bodyAnew_191 : decode cX12_bodyAnew 191 = .ok (.goto 5, 3) := by decide +kernel
theorem dX12_bodyAnew_194 : decode cX12_bodyAnew 194 = .ok (.bipush 14, 2) := by decide +kernel
theorem dX12_bodyAnew_196 : decode cX12_bodyAnew 196 = .ok (.istore 10, 2) := by decide +kernel
theorem dX12_bodyAnew_198 : decode cX12_bodyAnew 198 = .ok (.aload_n 0, 1) := by decide +kernel
theorem dX12_bodyAnew_199 : decode cX12_bodyAnew 199 = .ok (.getfield 150, 3) := by decide +kernel
theorem dX12_bodyAnew_202 : decode cX12_bodyAnew 202 = .ok (.bipush 13, 2) := by decide +kernel
theorem dX12_bodyAnew_204 : decode cX12_bodyAnew 204 = .ok (.if_icmp .le 27, 3) := by decide +kernel
theorem dX12_bodyAnew_207 : decode cX12_bodyAnew 207 = .ok (.aload_n 0, 1) := by decide +kernel
theorem dX12_bodyAnew_208 : decode cX12_bodyAnew 208 = .ok (.getfield 150, 3) := by decide +kernel
theorem dX12_bodyAnew_211 : decode cX12_bodyAnew 211 = .ok (.iload 10, 2) := by decide +kernel
theorem dX12_bodyAnew_213 : decode cX12_bodyAnew 213 = .ok (.iconst 1, 1) := by decide +kernel
theorem dX12_bodyAnew_214 : decode cX12_bodyAnew 214 = .ok (.iadd, 1) := by decide +kernel
theorem dX12_bodyAnew_215 : decode cX12_bodyAnew 215 = .ok (.if_icmp .ne 16, 3) := by decide +kernel
theorem dX12_bodyAnew_218 : decode cX12_bodyAnew 218 = .ok (.iload 9, 2) := by decide +kernel
theorem dX12_bodyAnew_220 : decode cX12_bodyAnew 220 = .ok (.iconst 1, 1) := by decide +kernel
theorem dX12_bodyAnew_221 : decode cX12_bodyAnew 221 = .ok (.if_icmp .ne 7, 3) := by decide +kernel
theorem dX12_bodyAnew_224 : decode cX12_bodyAnew 224 = .ok (.iconst 1, 1) := by decide +kernel
theorem dX12_bodyAnew_225 : decode cX12_bodyAnew 225 = .ok (.goto 4, 3) := by decide +kernel
theorem dX12_bodyAnew_228 : decode cX12_bodyAnew 228 = .ok (.iconst 0, 1) := by decide +kernel
theorem dX12_bodyAnew_229 : decode cX12_bodyAnew 229 = .ok (.istore 7, 2) := by decide +kernel
theorem dX12_bodyAnew_231 : decode cX12_bodyAnew 231 = .ok (.aload_n 0, 1) := by decide +kernel
theorem dX12_bodyAnew_232 : decode cX12_bodyAnew 232 = .ok (.getfield 150, 3) := by decide +kernel
theorem dX12_bodyAnew_235 : decode cX12_bodyAnew 235 = .ok (.iload 10, 2) := by decide +kernel
theorem dX12_bodyAnew_237 : decode cX12_bodyAnew 237 = .ok (.iconst 2, 1) := by decide +kernel
theorem dX12_bodyAnew_238 : decode cX12_bodyAnew 238 = .ok (.iadd, 1) := by decide +kernel
theorem dX12_bodyAnew_239 : decode cX12_bodyAnew 239 = .ok (.if_icmp .ne 16, 3) := by decide +kernel
theorem dX12_bodyAnew_242 : decode cX12_bodyAnew 242 = .ok (.iload 7, 2) := by decide +kernel
theorem dX12_bodyAnew_244 : decode cX12_bodyAnew 244 = .ok (.ifCond .eq 11, 3) := by decide +kernel
theorem dX12_bodyAnew_247 : decode cX12_bodyAnew 247 = .ok (.iload 9, 2) := by decide +kernel
theorem dX12_bodyAnew_249 : decode cX12_bodyAnew 249 = .ok (.iconst 1, 1) := by decide +kernel
theorem dX12_bodyAnew_250 : decode cX12_bodyAnew 250 = .ok (.if_icmp .ne 5, 3) := by decide +kernel
theorem dX12_bodyAnew_253 : decode cX12_bodyAnew 253 = .ok (.iconst 2, 1) := by decide +kernel
theorem dX12_bodyAnew_254 : decode cX12_bodyAnew 254 = .ok (.ireturn, 1) := by decide +kernel
theorem dX12_bodyAnew_255 : decode cX12_bodyAnew 255 = .ok (.iload 10, 2) := by decide +kernel
theorem dX12_bodyAnew_257 : decode cX12_bodyAnew 257 = .ok (.iload 7, 2) := by decide +kernel
theorem dX12_bodyAnew_259 : decode cX12_bodyAnew 259 = .ok (.ifCond .eq 8, 3) := by decide +kernel
theorem dX12_bodyAnew_262 : decode cX12_bodyAnew 262 = .ok (.bipush 8, 2) := by decide +kernel
theorem dX12_bodyAnew_264 : decode cX12_bodyAnew 264 = .ok (.goto 14, 3) := by decide +kernel
theorem dX12_bodyAnew_267 : decode cX12_bodyAnew 267 = .ok (.iload 6, 2) := by decide +kernel
theorem dX12_bodyAnew_269 : decode cX12_bodyAnew 269 = .ok (.ifCond .eq 8, 3) := by decide +kernel
theorem dX12_bodyAnew_272 : decode cX12_bodyAnew 272 = .ok (.bipush 6, 2) := by decide +kernel
theorem dX12_bodyAnew_274 : decode cX12_bodyAnew 274 = .ok (.goto 4, 3) := by decide +kernel
theorem dX12_bodyAnew_277 : decode cX12_bodyAnew 277 = .ok (.iconst 5, 1) := by decide +kernel
theorem dX12_bodyAnew_278 : decode cX12_bodyAnew 278 = .ok (.iadd, 1) := by decide +kernel
theorem dX12_bodyAnew_279 : decode cX12_bodyAnew 279 = .ok (.istore 11, 2) := by decide +kernel
theorem dX12_bodyAnew_281 : decode cX12_bodyAnew 281 = .ok (.aload_n 0, 1) := by decide +kernel
theorem dX12_bodyAnew_282 : decode cX12_bodyAnew 282 = .ok (.getfield 150, 3) := by decide +kernel
theorem dX12_bodyAnew_285 : decode cX12_bodyAnew 285 = .ok (.iload 10, 2) := by decide +kernel
theorem dX12_bodyAnew_287 : decode cX12_bodyAnew 287 = .ok (.if_icmp .le 41, 3) := by decide +kernel
theorem dX12_bodyAnew_290 : decode cX12_bodyAnew 290 = .ok (.aload_n 0, 1) := by decide +kernel
theorem dX12_bodyAnew_291 : decode cX12_bodyAnew 291 = .ok (.getfield 150, 3) := by decide +kernel
theorem dX12_bodyAnew_294 : decode cX12_bodyAnew 294 = .ok (.iload 11, 2) := by decide +kernel
theorem dX12_bodyAnew_296 : decode cX12_bodyAnew 296 = .ok (.if_icmp .ne 32, 3) := by decide +kernel
theorem dX12_bodyAnew_299 : decode cX12_bodyAnew 299 = .ok (.aload_n 0, 1) := by decide +kernel
theorem dX12_bodyAnew_300 : decode cX12_bodyAnew 300 = .ok (.iload 6, 2) := by decide +kernel
theorem dX12_bodyAnew_302 : decode cX12_bodyAnew 302 = .ok (.iload 7, 2) := by decide +kernel
theorem dX12_bodyAnew_304 : decode cX12_bodyAnew 304 = .ok (.iload 11, 2) := by decide +kernel
theorem dX12_bodyAnew_306 : decode cX12_bodyAnew 306 = .ok (.invokevirtual 218, 3) := by decide +kernel
theorem dX12_bodyAnew_309 : decode cX12_bodyAnew 309 = .ok (.iload 11, 2) := by decide +kernel
theorem dX12_bodyAnew_311 : decode cX12_bodyAnew 311 = .ok (.bipush 8, 2) := by decide +kernel
theorem dX12_bodyAnew_313 : decode cX12_bodyAnew 313 = .ok (.aload_n 0, 1) := by decide +kernel
theorem dX12_bodyAnew_314 : decode cX12_bodyAnew 314 = .ok (.getfield 222, 3) := by decide +kernel
theorem dX12_bodyAnew_317 : decode cX12_bodyAnew 317 = .ok (.aload_n 0, 1) := by decide +kernel
theorem dX12_bodyAnew_318 : decode cX12_bodyAnew 318 = .ok (.getfield 225, 3) := by decide +kernel
theorem dX12_bodyAnew_321 : decode cX12_bodyAnew 321 = .ok (.invokestatic 146, 3) := by decide +kernel
theorem dX12_bodyAnew_324 : decode cX12_bodyAnew 324 = .ok (.imul, 1) := by decide +kernel
theorem dX12_bodyAnew_325 : decode cX12_bodyAnew 325 = .ok (.iadd, 1) := by decide +kernel
theorem dX12_bodyAnew_326 : decode cX12_bodyAnew 326 = .ok (.istore 5, 2) := by decide +kernel
theorem dX12_bodyAnew_328 : decode cX12_bodyAnew 328 = .ok (.iload 7, 2) := by decide +kernel
theorem dX12_bodyAnew_330 : decode cX12_bodyAnew 330 = .ok (.ifCond .eq 20, 3) := by decide +kernel
theorem dX12_bodyAnew_333 : decode cX12_bodyAnew 333 = .ok (.aload_n 0, 1) := by decide +kernel
theorem dX12_bodyAnew_334 : decode cX12_bodyAnew 334 = .ok (.getfield 150, 3) := by decide +kernel
theorem dX12_bodyAnew_337 : decode cX12_bodyAnew 337 = .ok (.iload 5, 2) := by decide +kernel
theorem dX12_bodyAnew_339 : decode cX12_bodyAnew 339 = .ok (.if_icmp .ne 7, 3) := by decide +kernel
theorem dX12_bodyAnew_342 : decode cX12_bodyAnew 342 = .ok (.iconst 1, 1) := by decide +kernel
theorem dX12_bodyAnew_343 : decode cX12_bodyAnew 343 = .ok (.goto 30, 3) := by decide +kernel
theorem dX12_bodyAnew_346 : decode cX12_bodyAnew 346 = .ok (.iconst 0, 1) := by decide +kernel
theorem dX12_bodyAnew_347 : decode cX12_bodyAnew 347 = .ok (.goto 26, 3) := by decide +kernel
theorem dX12_bodyAnew_350 : decode cX12_bodyAnew 350 = .ok (.aload_n 0, 1) := by decide +kernel
theorem dX12_bodyAnew_351 : decode cX12_bodyAnew 351 = .ok (.getfield 150, 3) := by decide +kernel
theorem dX12_bodyAnew_354 : decode cX12_bodyAnew 354 = .ok (.iload 5, 2) := by decide +kernel
theorem dX12_bodyAnew_356 : decode cX12_bodyAnew 356 = .ok (.bipush 15, 2) := by decide +kernel
theorem dX12_bodyAnew_358 : decode cX12_bodyAnew 358 = .ok (.iadd, 1) := by decide +kernel
theorem dX12_bodyAnew_359 : decode cX12_bodyAnew 359 = .ok (.if_icmp .ne 13, 3) := by decide +kernel
theorem dX12_bodyAnew_362 : decode cX12_bodyAnew 362 = .ok (.iload 4, 2) := by decide +kernel
theorem dX12_bodyAnew_364 : decode cX12_bodyAnew 364 = .ok (.iconst 5, 1) := by decide +kernel
theorem dX12_bodyAnew_365 : decode cX12_bodyAnew 365 = .ok (.if_icmp .ge 7, 3) := by decide +kernel
theorem dX12_bodyAnew_368 : decode cX12_bodyAnew 368 = .ok (.iconst 1, 1) := by decide +kernel
theorem dX12_bodyAnew_369 : decode cX12_bodyAnew 369 = .ok (.goto 4, 3) := by decide +kernel
theorem dX12_bodyAnew_372 : decode cX12_bodyAnew 372 = .ok (.iconst 0, 1) := by decide +kernel
theorem dX12_bodyAnew_373 : decode cX12_bodyAnew 373 = .ok (.istore 12, 2) := by decide +kernel
theorem dX12_bodyAnew_375 : decode cX12_bodyAnew 375 = .ok (.iload 12, 2) := by decide +kernel
theorem dX12_bodyAnew_377 : decode cX12_bodyAnew 377 = .ok (.ifCond .eq 13, 3) := by decide +kernel
theorem dX12_bodyAnew_380 : decode cX12_bodyAnew 380 = .ok (.aload_n 0, 1) := by decide +kernel
theorem dX12_bodyAnew_381 : decode cX12_bodyAnew 381 = .ok (.iload 8, 2) := by decide +kernel
theorem dX12_bodyAnew_383 : decode cX12_bodyAnew 383 = .ok (.iconst 1, 1) := by decide +kernel
theorem dX12_bodyAnew_384 : decode cX12_bodyAnew 384 = .ok (.iadd, 1) := by decide +kernel
theorem dX12_bodyAnew_385 : decode cX12_bodyAnew 385 = .ok (.putfield 209, 3) := by decide +kernel
theorem dX12_bodyAnew_388 : decode cX12_bodyAnew 388 = .ok (.iconst (-1), 1) := by decide +kernel
theorem dX12_bodyAnew_389 : decode cX12_bodyAnew 389 = .ok (.ireturn, 1) := by decide +kernel
theorem dX12_bodyAnew_390 : decode cX12_bodyAnew 390 = .ok (.iinc 8 1, 3) := by decide +kernel
theorem dX12_bodyAnew_393 : decode cX12_bodyAnew 393 = .ok (.goto (-345), 3) := by decide +kernel
theorem dX12_bodyAnew_396 : decode cX12_bodyAnew 396 = .ok (.iconst (-1), 1) := by decide +kernel
theorem dX12_bodyAnew_397 : decode cX12_bodyAnew 397 = .ok (.ireturn, 1) := by decide +kernel
theorem cwX12_bodyAnew : mw_cwV yX12_bodyAnew cX12_bodyAnew 13 ((some .int)) 1 := ⟨⟨wd_15, wd_3710, by decide +kernel⟩, wd_3709, sl_243⟩
set_option maxHeartbeats 4000000 in
set_option maxRecDepth 100000 in
theorem tX12_bodyAnew (l : Launch) (G : mwG) (ad : Nat → Nat) (fu : Nat) (a1 : Int32) (M : mwM) (L : mwL) {r0 : Int32} {M0 : mwM} {L0 : mwL} (hD : DX12_bodyAnew fu a1 M L = some (r0, M0, L0)) : Met l yX12_bodyAnew (Cond.code yX12_bodyAnew cX12_bodyAnew 13 ((some .int)) :: GT) ({ frames := 2, cells := 0, slots := 0, locals := 48 }) (mw_Pre G ad NF TF FF M L [.ref (ad 821), .int a1]) (mw_Qi G ad NF TF FF (mw_eqI r0 M0 L0)) 0 0 (mw_fr G) := by
  refine mw_enter (by decide) (Nat.le_of_ble_eq_true rfl) ?_
  intro p e s m below meth c ls C hr hlocks hnm hw hl
  have hl : lv_has ls 13 [(0, .ref (ad 821)), (1, .int a1)] := hl
  have hh48 : ∀ (f : Nat) (v2 : Int32) (v3 : Int32) (v4 : Int32) (v5 : Int32) (v6 : Int32) (v7 : Int32) (v8 : Int32) (M : mwM) (L : mwL) (H : Heap) (locs : List Loc) (ls : Array Slot), fX12_bodyAnew_h48 fu a1 f (v2, v3, v4, v5, v6, v7, v8, M, L) = some (r0, M0, L0) → mw_W G ad NF TF FF M L H locs → lv_has ls 13 [(0, .ref (ad 821)), (1, .int a1), (2, .int v2), (3, .int v3), (4, .int v4), (5, .int v5), (6, .int v6), (7, .int v7), (8, .int v8)] → W p l e ({ frames := 2, cells := 0, slots := 0, locals := 48 }) s m [.ref (ad 821), .int a1].toArray below meth c H locs 0 0 (MQ below (mw_Qi G ad NF TF FF (mw_eqI r0 M0 L0)) [.ref (ad 821), .int a1].toArray s 0 0 (mw_fr G)) (F0 m 48 ls []) := by
    intro f
    induction f with
    | zero => intro v2 v3 v4 v5 v6 v7 v8 M L H locs ls hD; cases hD
    | succ f48 ih48 =>
      intro v2 v3 v4 v5 v6 v7 v8 M L H locs ls hD hw hl
      replace hD : fX12_bodyAnew_i48 fu a1 (fX12_bodyAnew_h48 fu a1 f48) v2 v3 v4 v5 v6 v7 v8 M L = some (r0, M0, L0) := hD
      have hb390 : ∀ (v2 : Int32) (v3 : Int32) (v4 : Int32) (v5 : Int32) (v6 : Int32) (v7 : Int32) (v8 : Int32) (M : mwM) (L : mwL) (H : Heap) (locs : List Loc) (ls : Array Slot), fX12_bodyAnew_b390 fu a1 (fX12_bodyAnew_h48 fu a1 f48) v2 v3 v4 v5 v6 v7 v8 M L = some (r0, M0, L0) → mw_W G ad NF TF FF M L H locs → lv_has ls 13 [(0, .ref (ad 821)), (1, .int a1), (2, .int v2), (3, .int v3), (4, .int v4), (5, .int v5), (6, .int v6), (7, .int v7), (8, .int v8)] → W p l e ({ frames := 2, cells := 0, slots := 0, locals := 48 }) s m [.ref (ad 821), .int a1].toArray below meth c H locs 0 0 (MQ below (mw_Qi G ad NF TF FF (mw_eqI r0 M0 L0)) [.ref (ad 821), .int a1].toArray s 0 0 (mw_fr G)) (F0 m 390 ls []) := by
        intro v2 v3 v4 v5 v6 v7 v8 M L H locs ls hD hw hl
        unfold fX12_bodyAnew_b390 at hD
        obtain ⟨x42, ex42, hD⟩ := g_let hD
        refine lv_iinc (v := x42) (lv' := [(8, .int x42), (0, .ref (ad 821)), (1, .int a1), (2, .int v2), (3, .int v3), (4, .int v4), (5, .int v5), (6, .int v6), (7, .int v7)]) C.1.1 C.1.2.1 dX12_bodyAnew_390 hl (k := 8) rfl (by rw [ex42]; rfl) (by decide) rfl (fun ls hl => ?_)
        refine lv_goto (tgt := 48) C.1.1 C.1.2.1 dX12_bodyAnew_393 (by decide) ?_
        exact ih48 v2 v3 v4 v5 v6 v7 x42 M L _ _ ls hD hw (lv_sub hl [1, 2, 3, 4, 5, 6, 7, 8, 0] rfl)
      have hb373 : ∀ (v2 : Int32) (v3 : Int32) (v4 : Int32) (v5 : Int32) (v6 : Int32) (v7 : Int32) (v8 : Int32) (s0 : Int32) (M : mwM) (L : mwL) (H : Heap) (locs : List Loc) (ls : Array Slot), fX12_bodyAnew_b373 fu a1 (fX12_bodyAnew_h48 fu a1 f48) v2 v3 v4 v5 v6 v7 v8 s0 M L = some (r0, M0, L0) → mw_W G ad NF TF FF M L H locs → lv_has ls 13 [(0, .ref (ad 821)), (1, .int a1), (2, .int v2), (3, .int v3), (4, .int v4), (5, .int v5), (6, .int v6), (7, .int v7), (8, .int v8)] → W p l e ({ frames := 2, cells := 0, slots := 0, locals := 48 }) s m [.ref (ad 821), .int a1].toArray below meth c H locs 0 0 (MQ below (mw_Qi G ad NF TF FF (mw_eqI r0 M0 L0)) [.ref (ad 821), .int a1].toArray s 0 0 (mw_fr G)) (F0 m 373 ls [.int s0]) := by
        intro v2 v3 v4 v5 v6 v7 v8 s0 M L H locs ls hD hw hl
        unfold fX12_bodyAnew_b373 at hD
        refine lv_istore (lv' := [(12, .int s0), (0, .ref (ad 821)), (1, .int a1), (2, .int v2), (3, .int v3), (4, .int v4), (5, .int v5), (6, .int v6), (7, .int v7), (8, .int v8)]) C.1.1 C.1.2.1 dX12_bodyAnew_373 hl (by decide) rfl (fun ls hl => ?_)
        refine lv_iload C.1.1 C.1.2.1 dX12_bodyAnew_375 (lv_at hl 0 rfl) ?_
        refine lv_if_eq (tgt := 390) C.1.1 C.1.2.1 dX12_bodyAnew_377 (by decide) (fun c40 => ?_) (fun c40 => ?_)
        · replace hD := g_pos c40 hD
          exact hb390 v2 v3 v4 v5 v6 v7 v8 M L _ _ ls hD hw (lv_sub hl [1, 2, 3, 4, 5, 6, 7, 8, 9] rfl)
        · replace hD := g_neg c40 hD
          refine lv_aload_n C.1.1 C.1.2.1 dX12_bodyAnew_380 rfl (lv_at hl 1 rfl) ?_
          refine lv_iload C.1.1 C.1.2.1 dX12_bodyAnew_381 (lv_at hl 9 rfl) ?_
          refine lv_iconst (v := 1) C.1.1 C.1.2.1 dX12_bodyAnew_383 (by decide) ?_
          refine lv_iadd C.1.1 C.1.2.1 dX12_bodyAnew_384 ?_
          obtain ⟨M41, eM41, hD⟩ := g_let hD
          refine mr_putI C hw kc_12 45 (by decide) tf_821 wd_2145 dX12_bodyAnew_385 (by decide) rfl rfl rfl rfl (fun H locs hw => ?_)
          replace hw : mw_W G ad NF TF FF M41 L H locs := by rw [eM41]; exact hw
          refine lv_iconst (v := (-1)) C.1.1 C.1.2.1 dX12_bodyAnew_388 (by decide) ?_
          exact mr_iret C hr hlocks hw rfl (Option.some.inj hD) dX12_bodyAnew_389
      have hb372 : ∀ (v2 : Int32) (v3 : Int32) (v4 : Int32) (v5 : Int32) (v6 : Int32) (v7 : Int32) (v8 : Int32) (M : mwM) (L : mwL) (H : Heap) (locs : List Loc) (ls : Array Slot), fX12_bodyAnew_b372 fu a1 (fX12_bodyAnew_h48 fu a1 f48) v2 v3 v4 v5 v6 v7 v8 M L = some (r0, M0, L0) → mw_W G ad NF TF FF M L H locs → lv_has ls 13 [(0, .ref (ad 821)), (1, .int a1), (2, .int v2), (3, .int v3), (4, .int v4), (5, .int v5), (6, .int v6), (7, .int v7), (8, .int v8)] → W p l e ({ frames := 2, cells := 0, slots := 0, locals := 48 }) s m [.ref (ad 821), .int a1].toArray below meth c H locs 0 0 (MQ below (mw_Qi G ad NF TF FF (mw_eqI r0 M0 L0)) [.ref (ad 821), .int a1].toArray s 0 0 (mw_fr G)) (F0 m 372 ls []) := by
        intro v2 v3 v4 v5 v6 v7 v8 M L H locs ls hD hw hl
        unfold fX12_bodyAnew_b372 at hD
        refine lv_iconst (v := 0) C.1.1 C.1.2.1 dX12_bodyAnew_372 (by decide) ?_
        exact hb373 v2 v3 v4 v5 v6 v7 v8 0 M L _ _ ls hD hw (lv_sub hl [0, 1, 2, 3, 4, 5, 6, 7, 8] rfl)
      have hb328 : ∀ (v2 : Int32) (v3 : Int32) (v4 : Int32) (v5 : Int32) (v6 : Int32) (v7 : Int32) (v8 : Int32) (M : mwM) (L : mwL) (H : Heap) (locs : List Loc) (ls : Array Slot), fX12_bodyAnew_b328 fu a1 (fX12_bodyAnew_h48 fu a1 f48) v2 v3 v4 v5 v6 v7 v8 M L = some (r0, M0, L0) → mw_W G ad NF TF FF M L H locs → lv_has ls 13 [(0, .ref (ad 821)), (1, .int a1), (2, .int v2), (3, .int v3), (4, .int v4), (5, .int v5), (6, .int v6), (7, .int v7), (8, .int v8)] → W p l e ({ frames := 2, cells := 0, slots := 0, locals := 48 }) s m [.ref (ad 821), .int a1].toArray below meth c H locs 0 0 (MQ below (mw_Qi G ad NF TF FF (mw_eqI r0 M0 L0)) [.ref (ad 821), .int a1].toArray s 0 0 (mw_fr G)) (F0 m 328 ls []) := by
        intro v2 v3 v4 v5 v6 v7 v8 M L H locs ls hD hw hl
        unfold fX12_bodyAnew_b328 at hD
        refine lv_iload C.1.1 C.1.2.1 dX12_bodyAnew_328 (lv_at hl 7 rfl) ?_
        refine lv_if_eq (tgt := 350) C.1.1 C.1.2.1 dX12_bodyAnew_330 (by decide) (fun c36 => ?_) (fun c36 => ?_)
        · replace hD := g_pos c36 hD
          refine lv_aload_n C.1.1 C.1.2.1 dX12_bodyAnew_350 rfl (lv_at hl 0 rfl) ?_
          refine mr_getI C hw kc_12 34 (by decide) tf_821 wd_2134 dX12_bodyAnew_351 (by decide) rfl ?_
          refine lv_iload C.1.1 C.1.2.1 dX12_bodyAnew_354 (lv_at hl 5 rfl) ?_
          refine lv_bipush (v := 15) C.1.1 C.1.2.1 dX12_bodyAnew_356 (by decide) ?_
          refine lv_iadd C.1.1 C.1.2.1 dX12_bodyAnew_358 ?_
          refine lv_icmp_ne (tgt := 372) C.1.1 C.1.2.1 dX12_bodyAnew_359 (by decide) (fun c37 => ?_) (fun c37 => ?_)
          · replace hD := g_neg c37 hD
            exact hb372 v2 v3 v4 v5 v6 v7 v8 M L _ _ ls hD hw (lv_sub hl [0, 1, 2, 3, 4, 5, 6, 7, 8] rfl)
          · replace hD := g_pos c37 hD
            refine lv_iload C.1.1 C.1.2.1 dX12_bodyAnew_362 (lv_at hl 4 rfl) ?_
            refine lv_iconst (v := 5) C.1.1 C.1.2.1 dX12_bodyAnew_364 (by decide) ?_
            refine lv_icmp_ge (tgt := 372) C.1.1 C.1.2.1 dX12_bodyAnew_365 (by decide) (fun c38 => ?_) (fun c38 => ?_)
            · replace hD := g_pos c38 hD
              exact hb372 v2 v3 v4 v5 v6 v7 v8 M L _ _ ls hD hw (lv_sub hl [0, 1, 2, 3, 4, 5, 6, 7, 8] rfl)
            · replace hD := g_neg c38 hD
              refine lv_iconst (v := 1) C.1.1 C.1.2.1 dX12_bodyAnew_368 (by decide) ?_
              refine lv_goto (tgt := 373) C.1.1 C.1.2.1 dX12_bodyAnew_369 (by decide) ?_
              exact hb373 v2 v3 v4 v5 v6 v7 v8 1 M L _ _ ls hD hw (lv_sub hl [0, 1, 2, 3, 4, 5, 6, 7, 8] rfl)
        · replace hD := g_neg c36 hD
          refine lv_aload_n C.1.1 C.1.2.1 dX12_bodyAnew_333 rfl (lv_at hl 0 rfl) ?_
          refine mr_getI C hw kc_12 34 (by decide) tf_821 wd_2134 dX12_bodyAnew_334 (by decide) rfl ?_
          refine lv_iload C.1.1 C.1.2.1 dX12_bodyAnew_337 (lv_at hl 5 rfl) ?_
          refine lv_icmp_ne (tgt := 346) C.1.1 C.1.2.1 dX12_bodyAnew_339 (by decide) (fun c39 => ?_) (fun c39 => ?_)
          · replace hD := g_neg c39 hD
            refine lv_iconst (v := 0) C.1.1 C.1.2.1 dX12_bodyAnew_346 (by decide) ?_
            refine lv_goto (tgt := 373) C.1.1 C.1.2.1 dX12_bodyAnew_347 (by decide) ?_
            exact hb373 v2 v3 v4 v5 v6 v7 v8 0 M L _ _ ls hD hw (lv_sub hl [0, 1, 2, 3, 4, 5, 6, 7, 8] rfl)
          · replace hD := g_pos c39 hD
            refine lv_iconst (v := 1) C.1.1 C.1.2.1 dX12_bodyAnew_342 (by decide) ?_
            refine lv_goto (tgt := 373) C.1.1 C.1.2.1 dX12_bodyAnew_343 (by decide) ?_
            exact hb373 v2 v3 v4 v5 v6 v7 v8 1 M L _ _ ls hD hw (lv_sub hl [0, 1, 2, 3, 4, 5, 6, 7, 8] rfl)
      have hb278 : ∀ (v2 : Int32) (v3 : Int32) (v4 : Int32) (v5 : Int32) (v6 : Int32) (v7 : Int32) (v8 : Int32) (v10 : Int32) (s0 : Int32) (s1 : Int32) (M : mwM) (L : mwL) (H : Heap) (locs : List Loc) (ls : Array Slot), fX12_bodyAnew_b278 fu a1 (fX12_bodyAnew_h48 fu a1 f48) v2 v3 v4 v5 v6 v7 v8 v10 s0 s1 M L = some (r0, M0, L0) → mw_W G ad NF TF FF M L H locs → lv_has ls 13 [(0, .ref (ad 821)), (1, .int a1), (2, .int v2), (3, .int v3), (4, .int v4), (5, .int v5), (6, .int v6), (7, .int v7), (8, .int v8), (10, .int v10)] → W p l e ({ frames := 2, cells := 0, slots := 0, locals := 48 }) s m [.ref (ad 821), .int a1].toArray below meth c H locs 0 0 (MQ below (mw_Qi G ad NF TF FF (mw_eqI r0 M0 L0)) [.ref (ad 821), .int a1].toArray s 0 0 (mw_fr G)) (F0 m 278 ls [.int s1, .int s0]) := by
        intro v2 v3 v4 v5 v6 v7 v8 v10 s0 s1 M L H locs ls hD hw hl
        unfold fX12_bodyAnew_b278 at hD
        refine lv_iadd C.1.1 C.1.2.1 dX12_bodyAnew_278 ?_
        obtain ⟨x27, ex27, hD⟩ := g_let hD
        refine W.eq (g2 := F0 m 279 ls (.int x27 :: [])) (by rw [ex27]) ?_
        refine lv_istore (lv' := [(11, .int x27), (0, .ref (ad 821)), (1, .int a1), (2, .int v2), (3, .int v3), (4, .int v4), (5, .int v5), (6, .int v6), (7, .int v7), (8, .int v8), (10, .int v10)]) C.1.1 C.1.2.1 dX12_bodyAnew_279 hl (by decide) rfl (fun ls hl => ?_)
        refine lv_aload_n C.1.1 C.1.2.1 dX12_bodyAnew_281 rfl (lv_at hl 1 rfl) ?_
        refine mr_getI C hw kc_12 34 (by decide) tf_821 wd_2134 dX12_bodyAnew_282 (by decide) rfl ?_
        refine lv_iload C.1.1 C.1.2.1 dX12_bodyAnew_285 (lv_at hl 10 rfl) ?_
        refine lv_icmp_le (tgt := 328) C.1.1 C.1.2.1 dX12_bodyAnew_287 (by decide) (fun c28 => ?_) (fun c28 => ?_)
        · replace hD := g_pos c28 hD
          exact hb328 v2 v3 v4 v5 v6 v7 v8 M L _ _ ls hD hw (lv_sub hl [1, 2, 3, 4, 5, 6, 7, 8, 9] rfl)
        · replace hD := g_neg c28 hD
          refine lv_aload_n C.1.1 C.1.2.1 dX12_bodyAnew_290 rfl (lv_at hl 1 rfl) ?_
          refine mr_getI C hw kc_12 34 (by decide) tf_821 wd_2134 dX12_bodyAnew_291 (by decide) rfl ?_
          refine lv_iload C.1.1 C.1.2.1 dX12_bodyAnew_294 (lv_at hl 0 rfl) ?_
          refine lv_icmp_ne (tgt := 328) C.1.1 C.1.2.1 dX12_bodyAnew_296 (by decide) (fun c29 => ?_) (fun c29 => ?_)
          · replace hD := g_neg c29 hD
            exact hb328 v2 v3 v4 v5 v6 v7 v8 M L _ _ ls hD hw (lv_sub hl [1, 2, 3, 4, 5, 6, 7, 8, 9] rfl)
          · replace hD := g_pos c29 hD
            refine lv_aload_n C.1.1 C.1.2.1 dX12_bodyAnew_299 rfl (lv_at hl 1 rfl) ?_
            refine lv_iload C.1.1 C.1.2.1 dX12_bodyAnew_300 (lv_at hl 7 rfl) ?_
            refine lv_iload C.1.1 C.1.2.1 dX12_bodyAnew_302 (lv_at hl 8 rfl) ?_
            refine lv_iload C.1.1 C.1.2.1 dX12_bodyAnew_304 (lv_at hl 0 rfl) ?_
            obtain ⟨M30, L31, h1, hD⟩ := g_b2 hD
            refine md_cvV (As := [.int v6, .int v7, .int x27]) (rest := []) C hw (tX12_find l G ad fu v6 v7 x27 M L h1) kc_12 (by decide) tf_821 wd_3715 cwX12_find ⟨Nat.le_of_ble_eq_true rfl, Nat.le_of_ble_eq_true rfl⟩ rfl hl.1 (Nat.le_of_ble_eq_true rfl) dX12_bodyAnew_306 rfl rfl ⟨Nat.zero_le _, Nat.zero_le _⟩ rfl (fun H locs hw => ?_)
            refine lv_iload C.1.1 C.1.2.1 dX12_bodyAnew_309 (lv_at hl 0 rfl) ?_
            refine lv_bipush (v := 8) C.1.1 C.1.2.1 dX12_bodyAnew_311 (by decide) ?_
            refine lv_aload_n C.1.1 C.1.2.1 dX12_bodyAnew_313 rfl (lv_at hl 1 rfl) ?_
            refine mr_getI C hw kc_12 42 (by decide) tf_821 wd_2142 dX12_bodyAnew_314 (by decide) rfl ?_
            refine lv_aload_n C.1.1 C.1.2.1 dX12_bodyAnew_317 rfl (lv_at hl 1 rfl) ?_
            refine mr_getI C hw kc_12 43 (by decide) tf_821 wd_2143 dX12_bodyAnew_318 (by decide) rfl ?_
            obtain ⟨r34, M32, L33, h1, hD⟩ := g_b3 hD
            refine md_csI (As := [.int (M30 821 42), .int (M30 821 43)]) (rest := [.int 8, .int x27]) C hw (tX12_octetsOf l G ad fu (M30 821 42) (M30 821 43) M30 L31 h1) wd_3639 cwX12_octetsOf ⟨Nat.le_of_ble_eq_true rfl, Nat.le_of_ble_eq_true rfl⟩ rfl hl.1 (Nat.le_of_ble_eq_true rfl) dX12_bodyAnew_321 rfl rfl ⟨Nat.zero_le _, Nat.zero_le _⟩ rfl (fun H locs hw => ?_)
            refine lv_imul C.1.1 C.1.2.1 dX12_bodyAnew_324 ?_
            refine lv_iadd C.1.1 C.1.2.1 dX12_bodyAnew_325 ?_
            obtain ⟨x35, ex35, hD⟩ := g_let hD
            refine W.eq (g2 := F0 m 326 ls (.int x35 :: [])) (by rw [ex35]) ?_
            refine lv_istore (lv' := [(5, .int x35), (11, .int x27), (0, .ref (ad 821)), (1, .int a1), (2, .int v2), (3, .int v3), (4, .int v4), (6, .int v6), (7, .int v7), (8, .int v8), (10, .int v10)]) C.1.1 C.1.2.1 dX12_bodyAnew_326 hl (by decide) rfl (fun ls hl => ?_)
            exact hb328 v2 v3 v4 x35 v6 v7 v8 M32 L33 _ _ ls hD hw (lv_sub hl [2, 3, 4, 5, 6, 0, 7, 8, 9] rfl)
      have hb255 : ∀ (v2 : Int32) (v3 : Int32) (v4 : Int32) (v5 : Int32) (v6 : Int32) (v7 : Int32) (v8 : Int32) (v10 : Int32) (M : mwM) (L : mwL) (H : Heap) (locs : List Loc) (ls : Array Slot), fX12_bodyAnew_b255 fu a1 (fX12_bodyAnew_h48 fu a1 f48) v2 v3 v4 v5 v6 v7 v8 v10 M L = some (r0, M0, L0) → mw_W G ad NF TF FF M L H locs → lv_has ls 13 [(0, .ref (ad 821)), (1, .int a1), (2, .int v2), (3, .int v3), (4, .int v4), (5, .int v5), (6, .int v6), (7, .int v7), (8, .int v8), (10, .int v10)] → W p l e ({ frames := 2, cells := 0, slots := 0, locals := 48 }) s m [.ref (ad 821), .int a1].toArray below meth c H locs 0 0 (MQ below (mw_Qi G ad NF TF FF (mw_eqI r0 M0 L0)) [.ref (ad 821), .int a1].toArray s 0 0 (mw_fr G)) (F0 m 255 ls []) := by
        intro v2 v3 v4 v5 v6 v7 v8 v10 M L H locs ls hD hw hl
        unfold fX12_bodyAnew_b255 at hD
        refine lv_iload C.1.1 C.1.2.1 dX12_bodyAnew_255 (lv_at hl 9 rfl) ?_
        refine lv_iload C.1.1 C.1.2.1 dX12_bodyAnew_257 (lv_at hl 7 rfl) ?_
        refine lv_if_eq (tgt := 267) C.1.1 C.1.2.1 dX12_bodyAnew_259 (by decide) (fun c25 => ?_) (fun c25 => ?_)
        · replace hD := g_pos c25 hD
          refine lv_iload C.1.1 C.1.2.1 dX12_bodyAnew_267 (lv_at hl 6 rfl) ?_
          refine lv_if_eq (tgt := 277) C.1.1 C.1.2.1 dX12_bodyAnew_269 (by decide) (fun c26 => ?_) (fun c26 => ?_)
          · replace hD := g_pos c26 hD
            refine lv_iconst (v := 5) C.1.1 C.1.2.1 dX12_bodyAnew_277 (by decide) ?_
            exact hb278 v2 v3 v4 v5 v6 v7 v8 v10 v10 5 M L _ _ ls hD hw (lv_sub hl [0, 1, 2, 3, 4, 5, 6, 7, 8, 9] rfl)
          · replace hD := g_neg c26 hD
            refine lv_bipush (v := 6) C.1.1 C.1.2.1 dX12_bodyAnew_272 (by decide) ?_
            refine lv_goto (tgt := 278) C.1.1 C.1.2.1 dX12_bodyAnew_274 (by decide) ?_
            exact hb278 v2 v3 v4 v5 v6 v7 v8 v10 v10 6 M L _ _ ls hD hw (lv_sub hl [0, 1, 2, 3, 4, 5, 6, 7, 8, 9] rfl)
        · replace hD := g_neg c25 hD
          refine lv_bipush (v := 8) C.1.1 C.1.2.1 dX12_bodyAnew_262 (by decide) ?_
          refine lv_goto (tgt := 278) C.1.1 C.1.2.1 dX12_bodyAnew_264 (by decide) ?_
          exact hb278 v2 v3 v4 v5 v6 v7 v8 v10 v10 8 M L _ _ ls hD hw (lv_sub hl [0, 1, 2, 3, 4, 5, 6, 7, 8, 9] rfl)
      have hb231 : ∀ (v2 : Int32) (v3 : Int32) (v4 : Int32) (v5 : Int32) (v6 : Int32) (v7 : Int32) (v8 : Int32) (v9 : Int32) (v10 : Int32) (M : mwM) (L : mwL) (H : Heap) (locs : List Loc) (ls : Array Slot), fX12_bodyAnew_b231 fu a1 (fX12_bodyAnew_h48 fu a1 f48) v2 v3 v4 v5 v6 v7 v8 v9 v10 M L = some (r0, M0, L0) → mw_W G ad NF TF FF M L H locs → lv_has ls 13 [(0, .ref (ad 821)), (1, .int a1), (2, .int v2), (3, .int v3), (4, .int v4), (5, .int v5), (6, .int v6), (7, .int v7), (8, .int v8), (9, .int v9), (10, .int v10)] → W p l e ({ frames := 2, cells := 0, slots := 0, locals := 48 }) s m [.ref (ad 821), .int a1].toArray below meth c H locs 0 0 (MQ below (mw_Qi G ad NF TF FF (mw_eqI r0 M0 L0)) [.ref (ad 821), .int a1].toArray s 0 0 (mw_fr G)) (F0 m 231 ls []) := by
        intro v2 v3 v4 v5 v6 v7 v8 v9 v10 M L H locs ls hD hw hl
        unfold fX12_bodyAnew_b231 at hD
        refine lv_aload_n C.1.1 C.1.2.1 dX12_bodyAnew_231 rfl (lv_at hl 0 rfl) ?_
        refine mr_getI C hw kc_12 34 (by decide) tf_821 wd_2134 dX12_bodyAnew_232 (by decide) rfl ?_
        refine lv_iload C.1.1 C.1.2.1 dX12_bodyAnew_235 (lv_at hl 10 rfl) ?_
        refine lv_iconst (v := 2) C.1.1 C.1.2.1 dX12_bodyAnew_237 (by decide) ?_
        refine lv_iadd C.1.1 C.1.2.1 dX12_bodyAnew_238 ?_
        refine lv_icmp_ne (tgt := 255) C.1.1 C.1.2.1 dX12_bodyAnew_239 (by decide) (fun c22 => ?_) (fun c22 => ?_)
        · replace hD := g_neg c22 hD
          exact hb255 v2 v3 v4 v5 v6 v7 v8 v10 M L _ _ ls hD hw (lv_sub hl [0, 1, 2, 3, 4, 5, 6, 7, 8, 10] rfl)
        · replace hD := g_pos c22 hD
          refine lv_iload C.1.1 C.1.2.1 dX12_bodyAnew_242 (lv_at hl 7 rfl) ?_
          refine lv_if_eq (tgt := 255) C.1.1 C.1.2.1 dX12_bodyAnew_244 (by decide) (fun c23 => ?_) (fun c23 => ?_)
          · replace hD := g_pos c23 hD
            exact hb255 v2 v3 v4 v5 v6 v7 v8 v10 M L _ _ ls hD hw (lv_sub hl [0, 1, 2, 3, 4, 5, 6, 7, 8, 10] rfl)
          · replace hD := g_neg c23 hD
            refine lv_iload C.1.1 C.1.2.1 dX12_bodyAnew_247 (lv_at hl 9 rfl) ?_
            refine lv_iconst (v := 1) C.1.1 C.1.2.1 dX12_bodyAnew_249 (by decide) ?_
            refine lv_icmp_ne (tgt := 255) C.1.1 C.1.2.1 dX12_bodyAnew_250 (by decide) (fun c24 => ?_) (fun c24 => ?_)
            · replace hD := g_neg c24 hD
              exact hb255 v2 v3 v4 v5 v6 v7 v8 v10 M L _ _ ls hD hw (lv_sub hl [0, 1, 2, 3, 4, 5, 6, 7, 8, 10] rfl)
            · replace hD := g_pos c24 hD
              refine lv_iconst (v := 2) C.1.1 C.1.2.1 dX12_bodyAnew_253 (by decide) ?_
              exact mr_iret C hr hlocks hw rfl (Option.some.inj hD) dX12_bodyAnew_254
      have hb229 : ∀ (v2 : Int32) (v3 : Int32) (v4 : Int32) (v5 : Int32) (v6 : Int32) (v8 : Int32) (v9 : Int32) (v10 : Int32) (s0 : Int32) (M : mwM) (L : mwL) (H : Heap) (locs : List Loc) (ls : Array Slot), fX12_bodyAnew_b229 fu a1 (fX12_bodyAnew_h48 fu a1 f48) v2 v3 v4 v5 v6 v8 v9 v10 s0 M L = some (r0, M0, L0) → mw_W G ad NF TF FF M L H locs → lv_has ls 13 [(0, .ref (ad 821)), (1, .int a1), (2, .int v2), (3, .int v3), (4, .int v4), (5, .int v5), (6, .int v6), (8, .int v8), (9, .int v9), (10, .int v10)] → W p l e ({ frames := 2, cells := 0, slots := 0, locals := 48 }) s m [.ref (ad 821), .int a1].toArray below meth c H locs 0 0 (MQ below (mw_Qi G ad NF TF FF (mw_eqI r0 M0 L0)) [.ref (ad 821), .int a1].toArray s 0 0 (mw_fr G)) (F0 m 229 ls [.int s0]) := by
        intro v2 v3 v4 v5 v6 v8 v9 v10 s0 M L H locs ls hD hw hl
        unfold fX12_bodyAnew_b229 at hD
        refine lv_istore (lv' := [(7, .int s0), (0, .ref (ad 821)), (1, .int a1), (2, .int v2), (3, .int v3), (4, .int v4), (5, .int v5), (6, .int v6), (8, .int v8), (9, .int v9), (10, .int v10)]) C.1.1 C.1.2.1 dX12_bodyAnew_229 hl (by decide) rfl (fun ls hl => ?_)
        exact hb231 v2 v3 v4 v5 v6 s0 v8 v9 v10 M L _ _ ls hD hw (lv_sub hl [1, 2, 3, 4, 5, 6, 7, 0, 8, 9, 10] rfl)
      have hb196 : ∀ (v2 : Int32) (v3 : Int32) (v4 : Int32) (v5 : Int32) (v6 : Int32) (v7 : Int32) (v8 : Int32) (v9 : Int32) (s0 : Int32) (M : mwM) (L : mwL) (H : Heap) (locs : List Loc) (ls : Array Slot), fX12_bodyAnew_b196 fu a1 (fX12_bodyAnew_h48 fu a1 f48) v2 v3 v4 v5 v6 v7 v8 v9 s0 M L = some (r0, M0, L0) → mw_W G ad NF TF FF M L H locs → lv_has ls 13 [(0, .ref (ad 821)), (1, .int a1), (2, .int v2), (3, .int v3), (4, .int v4), (5, .int v5), (6, .int v6), (7, .int v7), (8, .int v8), (9, .int v9)] → W p l e ({ frames := 2, cells := 0, slots := 0, locals := 48 }) s m [.ref (ad 821), .int a1].toArray below meth c H locs 0 0 (MQ below (mw_Qi G ad NF TF FF (mw_eqI r0 M0 L0)) [.ref (ad 821), .int a1].toArray s 0 0 (mw_fr G)) (F0 m 196 ls [.int s0]) := by
        intro v2 v3 v4 v5 v6 v7 v8 v9 s0 M L H locs ls hD hw hl
        unfold fX12_bodyAnew_b196 at hD
        refine lv_istore (lv' := [(10, .int s0), (0, .ref (ad 821)), (1, .int a1), (2, .int v2), (3, .int v3), (4, .int v4), (5, .int v5), (6, .int v6), (7, .int v7), (8, .int v8), (9, .int v9)]) C.1.1 C.1.2.1 dX12_bodyAnew_196 hl (by decide) rfl (fun ls hl => ?_)
        refine lv_aload_n C.1.1 C.1.2.1 dX12_bodyAnew_198 rfl (lv_at hl 1 rfl) ?_
        refine mr_getI C hw kc_12 34 (by decide) tf_821 wd_2134 dX12_bodyAnew_199 (by decide) rfl ?_
        refine lv_bipush (v := 13) C.1.1 C.1.2.1 dX12_bodyAnew_202 (by decide) ?_
        refine lv_icmp_le (tgt := 231) C.1.1 C.1.2.1 dX12_bodyAnew_204 (by decide) (fun c19 => ?_) (fun c19 => ?_)
        · replace hD := g_pos c19 hD
          exact hb231 v2 v3 v4 v5 v6 v7 v8 v9 s0 M L _ _ ls hD hw (lv_sub hl [1, 2, 3, 4, 5, 6, 7, 8, 9, 10, 0] rfl)
        · replace hD := g_neg c19 hD
          refine lv_aload_n C.1.1 C.1.2.1 dX12_bodyAnew_207 rfl (lv_at hl 1 rfl) ?_
          refine mr_getI C hw kc_12 34 (by decide) tf_821 wd_2134 dX12_bodyAnew_208 (by decide) rfl ?_
          refine lv_iload C.1.1 C.1.2.1 dX12_bodyAnew_211 (lv_at hl 0 rfl) ?_
          refine lv_iconst (v := 1) C.1.1 C.1.2.1 dX12_bodyAnew_213 (by decide) ?_
          refine lv_iadd C.1.1 C.1.2.1 dX12_bodyAnew_214 ?_
          refine lv_icmp_ne (tgt := 231) C.1.1 C.1.2.1 dX12_bodyAnew_215 (by decide) (fun c20 => ?_) (fun c20 => ?_)
          · replace hD := g_neg c20 hD
            exact hb231 v2 v3 v4 v5 v6 v7 v8 v9 s0 M L _ _ ls hD hw (lv_sub hl [1, 2, 3, 4, 5, 6, 7, 8, 9, 10, 0] rfl)
          · replace hD := g_pos c20 hD
            refine lv_iload C.1.1 C.1.2.1 dX12_bodyAnew_218 (lv_at hl 10 rfl) ?_
            refine lv_iconst (v := 1) C.1.1 C.1.2.1 dX12_bodyAnew_220 (by decide) ?_
            refine lv_icmp_ne (tgt := 228) C.1.1 C.1.2.1 dX12_bodyAnew_221 (by decide) (fun c21 => ?_) (fun c21 => ?_)
            · replace hD := g_neg c21 hD
              refine lv_iconst (v := 0) C.1.1 C.1.2.1 dX12_bodyAnew_228 (by decide) ?_
              exact hb229 v2 v3 v4 v5 v6 v8 v9 s0 0 M L _ _ ls hD hw (lv_sub hl [1, 2, 3, 4, 5, 6, 7, 9, 10, 0] rfl)
            · replace hD := g_pos c21 hD
              refine lv_iconst (v := 1) C.1.1 C.1.2.1 dX12_bodyAnew_224 (by decide) ?_
              refine lv_goto (tgt := 229) C.1.1 C.1.2.1 dX12_bodyAnew_225 (by decide) ?_
              exact hb229 v2 v3 v4 v5 v6 v8 v9 s0 1 M L _ _ ls hD hw (lv_sub hl [1, 2, 3, 4, 5, 6, 7, 9, 10, 0] rfl)
      have hb184 : ∀ (v2 : Int32) (v3 : Int32) (v4 : Int32) (v5 : Int32) (v6 : Int32) (v7 : Int32) (v8 : Int32) (v9 : Int32) (M : mwM) (L : mwL) (H : Heap) (locs : List Loc) (ls : Array Slot), fX12_bodyAnew_b184 fu a1 (fX12_bodyAnew_h48 fu a1 f48) v2 v3 v4 v5 v6 v7 v8 v9 M L = some (r0, M0, L0) → mw_W G ad NF TF FF M L H locs → lv_has ls 13 [(0, .ref (ad 821)), (1, .int a1), (2, .int v2), (3, .int v3), (4, .int v4), (5, .int v5), (6, .int v6), (7, .int v7), (8, .int v8), (9, .int v9)] → W p l e ({ frames := 2, cells := 0, slots := 0, locals := 48 }) s m [.ref (ad 821), .int a1].toArray below meth c H locs 0 0 (MQ below (mw_Qi G ad NF TF FF (mw_eqI r0 M0 L0)) [.ref (ad 821), .int a1].toArray s 0 0 (mw_fr G)) (F0 m 184 ls []) := by
        intro v2 v3 v4 v5 v6 v7 v8 v9 M L H locs ls hD hw hl
        unfold fX12_bodyAnew_b184 at hD
        refine lv_iload C.1.1 C.1.2.1 dX12_bodyAnew_184 (lv_at hl 6 rfl) ?_
        refine lv_if_eq (tgt := 194) C.1.1 C.1.2.1 dX12_bodyAnew_186 (by decide) (fun c18 => ?_) (fun c18 => ?_)
        · replace hD := g_pos c18 hD
          refine lv_bipush (v := 14) C.1.1 C.1.2.1 dX12_bodyAnew_194 (by decide) ?_
          exact hb196 v2 v3 v4 v5 v6 v7 v8 v9 14 M L _ _ ls hD hw (lv_sub hl [0, 1, 2, 3, 4, 5, 6, 7, 8, 9] rfl)
        · replace hD := g_neg c18 hD
          refine lv_bipush (v := 33) C.1.1 C.1.2.1 dX12_bodyAnew_189 (by decide) ?_
          refine lv_goto (tgt := 196) C.1.1 C.1.2.1 dX12_bodyAnew_191 (by decide) ?_
          exact hb196 v2 v3 v4 v5 v6 v7 v8 v9 33 M L _ _ ls hD hw (lv_sub hl [0, 1, 2, 3, 4, 5, 6, 7, 8, 9] rfl)
      have hb182 : ∀ (v2 : Int32) (v3 : Int32) (v4 : Int32) (v5 : Int32) (v7 : Int32) (v8 : Int32) (v9 : Int32) (s0 : Int32) (M : mwM) (L : mwL) (H : Heap) (locs : List Loc) (ls : Array Slot), fX12_bodyAnew_b182 fu a1 (fX12_bodyAnew_h48 fu a1 f48) v2 v3 v4 v5 v7 v8 v9 s0 M L = some (r0, M0, L0) → mw_W G ad NF TF FF M L H locs → lv_has ls 13 [(0, .ref (ad 821)), (1, .int a1), (2, .int v2), (3, .int v3), (4, .int v4), (5, .int v5), (7, .int v7), (8, .int v8), (9, .int v9)] → W p l e ({ frames := 2, cells := 0, slots := 0, locals := 48 }) s m [.ref (ad 821), .int a1].toArray below meth c H locs 0 0 (MQ below (mw_Qi G ad NF TF FF (mw_eqI r0 M0 L0)) [.ref (ad 821), .int a1].toArray s 0 0 (mw_fr G)) (F0 m 182 ls [.int s0]) := by
        intro v2 v3 v4 v5 v7 v8 v9 s0 M L H locs ls hD hw hl
        unfold fX12_bodyAnew_b182 at hD
        refine lv_istore (lv' := [(6, .int s0), (0, .ref (ad 821)), (1, .int a1), (2, .int v2), (3, .int v3), (4, .int v4), (5, .int v5), (7, .int v7), (8, .int v8), (9, .int v9)]) C.1.1 C.1.2.1 dX12_bodyAnew_182 hl (by decide) rfl (fun ls hl => ?_)
        exact hb184 v2 v3 v4 v5 s0 v7 v8 v9 M L _ _ ls hD hw (lv_sub hl [1, 2, 3, 4, 5, 6, 0, 7, 8, 9] rfl)
      have hb135 : ∀ (v2 : Int32) (v5 : Int32) (v6 : Int32) (v7 : Int32) (v8 : Int32) (v9 : Int32) (s0 : Int32) (M : mwM) (L : mwL) (H : Heap) (locs : List Loc) (ls : Array Slot), fX12_bodyAnew_b135 fu a1 (fX12_bodyAnew_h48 fu a1 f48) v2 v5 v6 v7 v8 v9 s0 M L = some (r0, M0, L0) → mw_W G ad NF TF FF M L H locs → lv_has ls 13 [(0, .ref (ad 821)), (1, .int a1), (2, .int v2), (5, .int v5), (6, .int v6), (7, .int v7), (8, .int v8), (9, .int v9)] → W p l e ({ frames := 2, cells := 0, slots := 0, locals := 48 }) s m [.ref (ad 821), .int a1].toArray below meth c H locs 0 0 (MQ below (mw_Qi G ad NF TF FF (mw_eqI r0 M0 L0)) [.ref (ad 821), .int a1].toArray s 0 0 (mw_fr G)) (F0 m 135 ls [.int s0]) := by
        intro v2 v5 v6 v7 v8 v9 s0 M L H locs ls hD hw hl
        unfold fX12_bodyAnew_b135 at hD
        refine lv_istore (lv' := [(4, .int s0), (0, .ref (ad 821)), (1, .int a1), (2, .int v2), (5, .int v5), (6, .int v6), (7, .int v7), (8, .int v8), (9, .int v9)]) C.1.1 C.1.2.1 dX12_bodyAnew_135 hl (by decide) rfl (fun ls hl => ?_)
        refine lv_iload C.1.1 C.1.2.1 dX12_bodyAnew_137 (lv_at hl 8 rfl) ?_
        refine lv_istore_n (lv' := [(3, .int v9), (4, .int s0), (0, .ref (ad 821)), (1, .int a1), (2, .int v2), (5, .int v5), (6, .int v6), (7, .int v7), (8, .int v8), (9, .int v9)]) C.1.1 C.1.2.1 dX12_bodyAnew_139 rfl hl (by decide) rfl (fun ls hl => ?_)
        refine lv_aload_n C.1.1 C.1.2.1 dX12_bodyAnew_140 rfl (lv_at hl 2 rfl) ?_
        refine mr_getR C hw kc_12 33 (by decide) tf_821 ff_821_33 wd_2133 dX12_bodyAnew_141 (by decide) rfl ?_
        refine lv_aload_n C.1.1 C.1.2.1 dX12_bodyAnew_144 rfl (lv_at hl 2 rfl) ?_
        refine mr_getI C hw kc_12 34 (by decide) tf_821 wd_2134 dX12_bodyAnew_145 (by decide) rfl ?_
        refine lv_iload C.1.1 C.1.2.1 dX12_bodyAnew_148 (lv_at hl 9 rfl) ?_
        refine lv_i2b C.1.1 C.1.2.1 dX12_bodyAnew_150 rfl ?_
        obtain ⟨q13, hD⟩ := g_ck hD
        obtain ⟨M14, eM14, hD⟩ := g_let hD
        refine mr_bast C hw (by decide) tf_848 q13 dX12_bodyAnew_151 (fun H locs hw => ?_)
        replace hw : mw_W G ad NF TF FF M14 L H locs := by rw [eM14]; exact hw
        refine lv_aload_n C.1.1 C.1.2.1 dX12_bodyAnew_152 rfl (lv_at hl 2 rfl) ?_
        refine lv_dup C.1.1 C.1.2.1 dX12_bodyAnew_153 rfl ?_
        refine mr_getI C hw kc_12 34 (by decide) tf_821 wd_2134 dX12_bodyAnew_154 (by decide) rfl ?_
        refine lv_iconst (v := 1) C.1.1 C.1.2.1 dX12_bodyAnew_157 (by decide) ?_
        refine lv_iadd C.1.1 C.1.2.1 dX12_bodyAnew_158 ?_
        obtain ⟨M15, eM15, hD⟩ := g_let hD
        refine mr_putI C hw kc_12 34 (by decide) tf_821 wd_2134 dX12_bodyAnew_159 (by decide) rfl rfl rfl rfl (fun H locs hw => ?_)
        replace hw : mw_W G ad NF TF FF M15 L H locs := by rw [eM15]; exact hw
        refine lv_aload_n C.1.1 C.1.2.1 dX12_bodyAnew_162 rfl (lv_at hl 2 rfl) ?_
        refine mr_getI C hw kc_12 34 (by decide) tf_821 wd_2134 dX12_bodyAnew_163 (by decide) rfl ?_
        refine lv_bipush (v := 14) C.1.1 C.1.2.1 dX12_bodyAnew_166 (by decide) ?_
        refine lv_icmp_ne (tgt := 184) C.1.1 C.1.2.1 dX12_bodyAnew_168 (by decide) (fun c16 => ?_) (fun c16 => ?_)
        · replace hD := g_neg c16 hD
          exact hb184 v2 v9 s0 v5 v6 v7 v8 v9 M15 L _ _ ls hD hw (lv_sub hl [2, 3, 4, 0, 1, 5, 6, 7, 8, 9] rfl)
        · replace hD := g_pos c16 hD
          refine lv_iload C.1.1 C.1.2.1 dX12_bodyAnew_171 (lv_at hl 9 rfl) ?_
          refine lv_iconst (v := 1) C.1.1 C.1.2.1 dX12_bodyAnew_173 (by decide) ?_
          refine lv_icmp_ne (tgt := 181) C.1.1 C.1.2.1 dX12_bodyAnew_174 (by decide) (fun c17 => ?_) (fun c17 => ?_)
          · replace hD := g_neg c17 hD
            refine lv_iconst (v := 0) C.1.1 C.1.2.1 dX12_bodyAnew_181 (by decide) ?_
            exact hb182 v2 v9 s0 v5 v7 v8 v9 0 M15 L _ _ ls hD hw (lv_sub hl [2, 3, 4, 0, 1, 5, 7, 8, 9] rfl)
          · replace hD := g_pos c17 hD
            refine lv_iconst (v := 1) C.1.1 C.1.2.1 dX12_bodyAnew_177 (by decide) ?_
            refine lv_goto (tgt := 182) C.1.1 C.1.2.1 dX12_bodyAnew_178 (by decide) ?_
            exact hb182 v2 v9 s0 v5 v7 v8 v9 1 M15 L _ _ ls hD hw (lv_sub hl [2, 3, 4, 0, 1, 5, 7, 8, 9] rfl)
      unfold fX12_bodyAnew_i48 at hD
      refine lv_iload C.1.1 C.1.2.1 dX12_bodyAnew_48 (lv_at hl 8 rfl) ?_
      refine lv_iload_n C.1.1 C.1.2.1 dX12_bodyAnew_50 rfl (lv_at hl 2 rfl) ?_
      refine lv_icmp_gt (tgt := 396) C.1.1 C.1.2.1 dX12_bodyAnew_51 (by decide) (fun c1 => ?_) (fun c1 => ?_)
      · replace hD := g_pos c1 hD
        refine lv_iconst (v := (-1)) C.1.1 C.1.2.1 dX12_bodyAnew_396 (by decide) ?_
        exact mr_iret C hr hlocks hw rfl (Option.some.inj hD) dX12_bodyAnew_397
      · replace hD := g_neg c1 hD
        refine lv_aload_n C.1.1 C.1.2.1 dX12_bodyAnew_54 rfl (lv_at hl 0 rfl) ?_
        refine lv_iload_n C.1.1 C.1.2.1 dX12_bodyAnew_55 rfl (lv_at hl 1 rfl) ?_
        refine lv_iload C.1.1 C.1.2.1 dX12_bodyAnew_56 (lv_at hl 8 rfl) ?_
        obtain ⟨r4, M2, L3, h1, hD⟩ := g_b3 hD
        refine md_cvI (As := [.int a1, .int v8]) (rest := []) C hw (tX12_bitAt l G ad fu a1 v8 M L h1) kc_12 (by decide) tf_821 wd_3711 cwX12_bitAt ⟨Nat.le_of_ble_eq_true rfl, Nat.le_of_ble_eq_true rfl⟩ rfl hl.1 (Nat.le_of_ble_eq_true rfl) dX12_bodyAnew_58 rfl rfl ⟨Nat.zero_le _, Nat.zero_le _⟩ rfl (fun H locs hw => ?_)
        refine lv_istore (lv' := [(9, .int r4), (0, .ref (ad 821)), (1, .int a1), (2, .int v2), (3, .int v3), (4, .int v4), (5, .int v5), (6, .int v6), (7, .int v7), (8, .int v8)]) C.1.1 C.1.2.1 dX12_bodyAnew_61 hl (by decide) rfl (fun ls hl => ?_)
        refine lv_aload_n C.1.1 C.1.2.1 dX12_bodyAnew_63 rfl (lv_at hl 1 rfl) ?_
        refine lv_iload C.1.1 C.1.2.1 dX12_bodyAnew_64 (lv_at hl 0 rfl) ?_
        obtain ⟨M5, L6, h1, hD⟩ := g_b2 hD
        refine md_cvV (As := [.int r4]) (rest := []) C hw (tX12_check l G ad fu r4 M2 L3 h1) kc_12 (by decide) tf_821 wd_3671 cwX12_check ⟨Nat.le_of_ble_eq_true rfl, Nat.le_of_ble_eq_true rfl⟩ rfl hl.1 (Nat.le_of_ble_eq_true rfl) dX12_bodyAnew_66 rfl rfl ⟨Nat.zero_le _, Nat.zero_le _⟩ rfl (fun H locs hw => ?_)
        refine lv_iload C.1.1 C.1.2.1 dX12_bodyAnew_69 (lv_at hl 5 rfl) ?_
        refine lv_iconst (v := 5) C.1.1 C.1.2.1 dX12_bodyAnew_71 (by decide) ?_
        refine lv_icmp_ne (tgt := 121) C.1.1 C.1.2.1 dX12_bodyAnew_72 (by decide) (fun c7 => ?_) (fun c7 => ?_)
        · replace hD := g_neg c7 hD
          refine lv_iload C.1.1 C.1.2.1 dX12_bodyAnew_121 (lv_at hl 0 rfl) ?_
          refine lv_iload_n C.1.1 C.1.2.1 dX12_bodyAnew_123 rfl (lv_at hl 4 rfl) ?_
          refine lv_icmp_ne (tgt := 134) C.1.1 C.1.2.1 dX12_bodyAnew_124 (by decide) (fun c8 => ?_) (fun c8 => ?_)
          · replace hD := g_neg c8 hD
            refine lv_iconst (v := 1) C.1.1 C.1.2.1 dX12_bodyAnew_134 (by decide) ?_
            exact hb135 v2 v5 v6 v7 v8 r4 1 M5 L6 _ _ ls hD hw (lv_sub hl [1, 2, 3, 6, 7, 8, 9, 0] rfl)
          · replace hD := g_pos c8 hD
            refine lv_iload C.1.1 C.1.2.1 dX12_bodyAnew_127 (lv_at hl 5 rfl) ?_
            refine lv_iconst (v := 1) C.1.1 C.1.2.1 dX12_bodyAnew_129 (by decide) ?_
            refine lv_iadd C.1.1 C.1.2.1 dX12_bodyAnew_130 ?_
            refine lv_goto (tgt := 135) C.1.1 C.1.2.1 dX12_bodyAnew_131 (by decide) ?_
            exact hb135 v2 v5 v6 v7 v8 r4 (v4 + 1) M5 L6 _ _ ls hD hw (lv_sub hl [1, 2, 3, 6, 7, 8, 9, 0] rfl)
        · replace hD := g_pos c7 hD
          refine lv_iload C.1.1 C.1.2.1 dX12_bodyAnew_75 (lv_at hl 0 rfl) ?_
          refine lv_iload_n C.1.1 C.1.2.1 dX12_bodyAnew_77 rfl (lv_at hl 4 rfl) ?_
          refine lv_icmp_ne (tgt := 83) C.1.1 C.1.2.1 dX12_bodyAnew_78 (by decide) (fun c9 => ?_) (fun c9 => ?_)
          · replace hD := g_neg c9 hD
            refine lv_iconst (v := 1) C.1.1 C.1.2.1 dX12_bodyAnew_83 (by decide) ?_
            refine lv_istore (lv' := [(4, .int 1), (9, .int r4), (0, .ref (ad 821)), (1, .int a1), (2, .int v2), (3, .int v3), (5, .int v5), (6, .int v6), (7, .int v7), (8, .int v8)]) C.1.1 C.1.2.1 dX12_bodyAnew_84 hl (by decide) rfl (fun ls hl => ?_)
            refine lv_iload C.1.1 C.1.2.1 dX12_bodyAnew_86 (lv_at hl 1 rfl) ?_
            refine lv_istore_n (lv' := [(3, .int r4), (4, .int 1), (9, .int r4), (0, .ref (ad 821)), (1, .int a1), (2, .int v2), (5, .int v5), (6, .int v6), (7, .int v7), (8, .int v8)]) C.1.1 C.1.2.1 dX12_bodyAnew_88 rfl hl (by decide) rfl (fun ls hl => ?_)
            refine lv_aload_n C.1.1 C.1.2.1 dX12_bodyAnew_89 rfl (lv_at hl 3 rfl) ?_
            refine lv_dup C.1.1 C.1.2.1 dX12_bodyAnew_90 rfl ?_
            refine mr_getI C hw kc_12 46 (by decide) tf_821 wd_2146 dX12_bodyAnew_91 (by decide) rfl ?_
            refine lv_iconst (v := 1) C.1.1 C.1.2.1 dX12_bodyAnew_94 (by decide) ?_
            refine lv_iadd C.1.1 C.1.2.1 dX12_bodyAnew_95 ?_
            obtain ⟨M10, eM10, hD⟩ := g_let hD
            refine mr_putI C hw kc_12 46 (by decide) tf_821 wd_2146 dX12_bodyAnew_96 (by decide) rfl rfl rfl rfl (fun H locs hw => ?_)
            replace hw : mw_W G ad NF TF FF M10 L6 H locs := by rw [eM10]; exact hw
            refine lv_aload_n C.1.1 C.1.2.1 dX12_bodyAnew_99 rfl (lv_at hl 3 rfl) ?_
            refine mr_getI C hw kc_12 34 (by decide) tf_821 wd_2134 dX12_bodyAnew_100 (by decide) rfl ?_
            refine lv_iload C.1.1 C.1.2.1 dX12_bodyAnew_103 (lv_at hl 6 rfl) ?_
            refine lv_bipush (v := 15) C.1.1 C.1.2.1 dX12_bodyAnew_105 (by decide) ?_
            refine lv_iadd C.1.1 C.1.2.1 dX12_bodyAnew_107 ?_
            refine lv_icmp_ne (tgt := 390) C.1.1 C.1.2.1 dX12_bodyAnew_108 (by decide) (fun c11 => ?_) (fun c11 => ?_)
            · replace hD := g_neg c11 hD
              exact hb390 v2 r4 1 v5 v6 v7 v8 M10 L6 _ _ ls hD hw (lv_sub hl [3, 4, 5, 0, 1, 6, 7, 8, 9] rfl)
            · replace hD := g_pos c11 hD
              refine lv_aload_n C.1.1 C.1.2.1 dX12_bodyAnew_111 rfl (lv_at hl 3 rfl) ?_
              refine lv_iload C.1.1 C.1.2.1 dX12_bodyAnew_112 (lv_at hl 9 rfl) ?_
              refine lv_iconst (v := 1) C.1.1 C.1.2.1 dX12_bodyAnew_114 (by decide) ?_
              refine lv_iadd C.1.1 C.1.2.1 dX12_bodyAnew_115 ?_
              obtain ⟨M12, eM12, hD⟩ := g_let hD
              refine mr_putI C hw kc_12 45 (by decide) tf_821 wd_2145 dX12_bodyAnew_116 (by decide) rfl rfl rfl rfl (fun H locs hw => ?_)
              replace hw : mw_W G ad NF TF FF M12 L6 H locs := by rw [eM12]; exact hw
              refine lv_iconst (v := (-1)) C.1.1 C.1.2.1 dX12_bodyAnew_119 (by decide) ?_
              exact mr_iret C hr hlocks hw rfl (Option.some.inj hD) dX12_bodyAnew_120
          · replace hD := g_pos c9 hD
            refine lv_iconst (v := 1) C.1.1 C.1.2.1 dX12_bodyAnew_81 (by decide) ?_
            exact mr_iret C hr hlocks hw rfl (Option.some.inj hD) dX12_bodyAnew_82
  unfold DX12_bodyAnew at hD
  refine lv_aload_n C.1.1 C.1.2.1 dX12_bodyAnew_0 rfl (lv_at hl 0 rfl) ?_
  refine mr_getR C hw kc_12 19 (by decide) tf_821 ff_821_19 wd_2119 dX12_bodyAnew_1 (by decide) rfl ?_
  refine lv_iload_n C.1.1 C.1.2.1 dX12_bodyAnew_4 rfl (lv_at hl 1 rfl) ?_
  obtain ⟨q43, hD⟩ := g_ck hD
  refine mr_iald C hw (by decide) tf_836 q43 dX12_bodyAnew_5 ?_
  refine lv_iconst (v := 1) C.1.1 C.1.2.1 dX12_bodyAnew_6 (by decide) ?_
  refine lv_isub C.1.1 C.1.2.1 dX12_bodyAnew_7 ?_
  obtain ⟨x44, ex44, hD⟩ := g_let hD
  refine W.eq (g2 := F0 m 8 ls (.int x44 :: [])) (by rw [ex44]) ?_
  refine lv_istore_n (lv' := [(2, .int x44), (0, .ref (ad 821)), (1, .int a1)]) C.1.1 C.1.2.1 dX12_bodyAnew_8 rfl hl (by decide) rfl (fun ls hl => ?_)
  refine lv_iconst (v := 1) C.1.1 C.1.2.1 dX12_bodyAnew_9 (by decide) ?_
  refine lv_istore_n (lv' := [(3, .int 1), (2, .int x44), (0, .ref (ad 821)), (1, .int a1)]) C.1.1 C.1.2.1 dX12_bodyAnew_10 rfl hl (by decide) rfl (fun ls hl => ?_)
  refine lv_iconst (v := 0) C.1.1 C.1.2.1 dX12_bodyAnew_11 (by decide) ?_
  refine lv_istore (lv' := [(4, .int 0), (3, .int 1), (2, .int x44), (0, .ref (ad 821)), (1, .int a1)]) C.1.1 C.1.2.1 dX12_bodyAnew_12 hl (by decide) rfl (fun ls hl => ?_)
  refine lv_sipush (v := 20000) C.1.1 C.1.2.1 dX12_bodyAnew_14 (by decide) ?_
  refine lv_istore (lv' := [(5, .int 20000), (4, .int 0), (3, .int 1), (2, .int x44), (0, .ref (ad 821)), (1, .int a1)]) C.1.1 C.1.2.1 dX12_bodyAnew_17 hl (by decide) rfl (fun ls hl => ?_)
  refine lv_iconst (v := 0) C.1.1 C.1.2.1 dX12_bodyAnew_19 (by decide) ?_
  refine lv_istore (lv' := [(6, .int 0), (5, .int 20000), (4, .int 0), (3, .int 1), (2, .int x44), (0, .ref (ad 821)), (1, .int a1)]) C.1.1 C.1.2.1 dX12_bodyAnew_20 hl (by decide) rfl (fun ls hl => ?_)
  refine lv_iconst (v := 0) C.1.1 C.1.2.1 dX12_bodyAnew_22 (by decide) ?_
  refine lv_istore (lv' := [(7, .int 0), (6, .int 0), (5, .int 20000), (4, .int 0), (3, .int 1), (2, .int x44), (0, .ref (ad 821)), (1, .int a1)]) C.1.1 C.1.2.1 dX12_bodyAnew_23 hl (by decide) rfl (fun ls hl => ?_)
  refine lv_aload_n C.1.1 C.1.2.1 dX12_bodyAnew_25 rfl (lv_at hl 6 rfl) ?_
  refine lv_iconst (v := (-1)) C.1.1 C.1.2.1 dX12_bodyAnew_26 (by decide) ?_
  obtain ⟨M45, eM45, hD⟩ := g_let hD
  refine mr_putI C hw kc_12 45 (by decide) tf_821 wd_2145 dX12_bodyAnew_27 (by decide) rfl rfl rfl rfl (fun H locs hw => ?_)
  replace hw : mw_W G ad NF TF FF M45 L H locs := by rw [eM45]; exact hw
  refine lv_aload_n C.1.1 C.1.2.1 dX12_bodyAnew_30 rfl (lv_at hl 6 rfl) ?_
  refine lv_iconst (v := 0) C.1.1 C.1.2.1 dX12_bodyAnew_31 (by decide) ?_
  obtain ⟨M46, eM46, hD⟩ := g_let hD
  refine mr_putI C hw kc_12 46 (by decide) tf_821 wd_2146 dX12_bodyAnew_32 (by decide) rfl rfl rfl rfl (fun H locs hw => ?_)
  replace hw : mw_W G ad NF TF FF M46 L H locs := by rw [eM46]; exact hw
  refine lv_aload_n C.1.1 C.1.2.1 dX12_bodyAnew_35 rfl (lv_at hl 6 rfl) ?_
  refine lv_iconst (v := 0) C.1.1 C.1.2.1 dX12_bodyAnew_36 (by decide) ?_
  obtain ⟨M47, eM47, hD⟩ := g_let hD
  refine mr_putI C hw kc_12 34 (by decide) tf_821 wd_2134 dX12_bodyAnew_37 (by decide) rfl rfl rfl rfl (fun H locs hw => ?_)
  replace hw : mw_W G ad NF TF FF M47 L H locs := by rw [eM47]; exact hw
  refine lv_aload_n C.1.1 C.1.2.1 dX12_bodyAnew_40 rfl (lv_at hl 6 rfl) ?_
  refine lv_iconst (v := 0) C.1.1 C.1.2.1 dX12_bodyAnew_41 (by decide) ?_
  obtain ⟨M48, eM48, hD⟩ := g_let hD
  refine mr_putI C hw kc_12 41 (by decide) tf_821 wd_2141 dX12_bodyAnew_42 (by decide) rfl rfl rfl rfl (fun H locs hw => ?_)
  replace hw : mw_W G ad NF TF FF M48 L H locs := by rw [eM48]; exact hw
  refine lv_iconst (v := 0) C.1.1 C.1.2.1 dX12_bodyAnew_45 (by decide) ?_
  refine lv_istore (lv' := [(8, .int 0), (7, .int 0), (6, .int 0), (5, .int 20000), (4, .int 0), (3, .int 1), (2, .int x44), (0, .ref (ad 821)), (1, .int a1)]) C.1.1 C.1.2.1 dX12_bodyAnew_46 hl (by decide) rfl (fun ls hl => ?_)
  exact hh48 fu x44 1 0 20000 0 0 0 M48 L _ _ ls hD hw (lv_sub hl [7, 8, 6, 5, 4, 3, 2, 1, 0] rfl)
