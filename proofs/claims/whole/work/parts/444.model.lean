theorem dX19_arrive_0 : decode cX19_arrive 0 = .ok (.iconst 0, 1) := by decide +kernel
theorem dX19_arrive_1 : decode cX19_arrive 1 = .ok (.istore_n 2, 1) := by decide +kernel
theorem dX19_arrive_2 : decode cX19_arrive 2 = .ok (.iload_n 2, 1) := by decide +kernel
theorem dX19_arrive_3 : decode cX19_arrive 3 = .ok (.aload_n 0, 1) := by decide +kernel
theorem dX19_arrive_4 : decode cX19_arrive 4 = .ok (.getfield 606, 3) := by decide +kernel
theorem dX19_arrive_7 : decode cX19_arrive 7 = .ok (.if_icmp .ge 19, 3) := by decide +kernel
theorem dX19_arrive_10 : decode cX19_arrive 10 = .ok (.aload_n 0, 1) := by decide +kernel
theorem dX19_arrive_11 : decode cX19_arrive 11 = .ok (.getfield 242, 3) := by decide +kernel
theorem dX19_arrive_14 : decode cX19_arrive 14 = .ok (.iload_n 2, 1) := by decide +kernel
theorem dX19_arrive_15 : decode cX19_arrive 15 = .ok (.iaload, 1) := by decide +kernel
theorem dX19_arrive_16 : decode cX19_arrive 16 = .ok (.iload_n 1, 1) := by decide +kernel
theorem dX19_arrive_17 : decode cX19_arrive 17 = .ok (.if_icmp .eq 9, 3) := by decide +kernel
theorem dX19_arrive_20 : decode cX19_arrive 20 = .ok (.iinc 2 1, 3) := by decide +kernel
theorem dX19_arrive_23 : decode cX19_arrive 23 = .ok (.goto (-21), 3) := by decide +kernel
theorem dX19_arrive_26 : decode cX19_arrive 26 = .ok (.iload_n 2, 1) := by decide +kernel
theorem dX19_arrive_27 : decode cX19_arrive 27 = .ok (.aload_n 0, 1) := by decide +kernel
theorem dX19_arrive_28 : decode cX19_arrive 28 = .ok (.getfield 606, 3) := by decide +kernel
theorem dX19_arrive_31 : decode cX19_arrive 31 = .ok (.if_icmp .ne 4, 3) := by decide +kernel
theorem dX19_arrive_34 : decode cX19_arrive 34 = .ok (.return_, 1) := by decide +kernel
theorem dX19_arrive_35 : decode cX19_arrive 35 = .ok (.aload_n 0, 1) := by decide +kernel
theorem dX19_arrive_36 : decode cX19_arrive 36 = .ok (.getfield 239, 3) := by decide +kernel
theorem dX19_arrive_39 : decode cX19_arrive 39 = .ok (.iload_n 2, 1) := by decide +kernel
theorem dX19_arrive_40 : decode cX19_arrive 40 = .ok (.iaload, 1) := by decide +kernel
theorem dX19_arrive_41 : decode cX19_arrive 41 = .ok (.istore_n 3, 1) := by decide +kernel
theorem dX19_arrive_42 : decode cX19_arrive 42 = .ok (.aload_n 0, 1) := by decide +kernel
theorem dX19_arrive_43 : decode cX19_arrive 43 = .ok (.dup, 1) := by decide +kernel
theorem dX19_arrive_44 : decode cX19_arrive 44 = .ok (.getfield 606, 3) := by decide +kernel
theorem dX19_arrive_47 : decode cX19_arrive 47 = .ok (.iconst 1, 1) := by decide +kernel
theorem dX19_arrive_48 : decode cX19_arrive 48 = .ok (.isub, 1) := by decide +kernel
theorem dX19_arrive_49 : decode cX19_arrive 49 = .ok (.putfield 606, 3) := by decide +kernel
theorem dX19_arrive_52 : decode cX19_arrive 52 = .ok (.iload_n 2, 1) := by decide +kernel
theorem dX19_arrive_53 : decode cX19_arrive 53 = .ok (.istore 4, 2) := by decide +kernel
theorem dX19_arrive_55 : decode cX19_arrive 55 = .ok (.iload 4, 2) := by decide +kernel
theorem dX19_arrive_57 : decode cX19_arrive 57 = .ok (.aload_n 0, 1) := by decide +kernel
theorem dX19_arrive_58 : decode cX19_arrive 58 = .ok (.getfield 606, 3) := by decide +kernel
theorem dX19_arrive_61 : decode cX19_arrive 61 = .ok (.if_icmp .ge 41, 3) := by decide +kernel
theorem dX19_arrive_64 : decode cX19_arrive 64 = .ok (.aload_n 0, 1) := by decide +kernel
theorem dX19_arrive_65 : decode cX19_arrive 65 = .ok (.getfield 239, 3) := by decide +kernel
theorem dX19_arrive_68 : decode cX19_arrive 68 = .ok (.iload 4, 2) := by decide +kernel
theorem dX19_arrive_70 : decode cX19_arrive 70 = .ok (.aload_n 0, 1) := by decide +kernel
theorem dX19_arrive_71 : decode cX19_arrive 71 = .ok (.getfield 239, 3) := by decide +kernel
theorem dX19_arrive_74 : decode cX19_arrive 74 = .ok (.iload 4, 2) := by decide +kernel
theorem dX19_arrive_76 : decode cX19_arrive 76 = .ok (.iconst 1, 1) := by decide +kernel
theorem dX19_arrive_77 : decode cX19_arrive 77 = .ok (.iadd, 1) := by decide +kernel
theorem dX19_arrive_78 : decode cX19_arrive 78 = .ok (.iaload, 1) := by decide +kernel
theorem dX19_arrive_79 : decode cX19_arrive 79 = .ok (.iastore, 1) := by decide +kernel
theorem dX19_arrive_80 : decode cX19_arrive 80 = .ok (.aload_n 0, 1) := by decide +kernel
theorem dX19_arrive_81 : decode cX19_arrive 81 = .ok (.getfield 242, 3) := by decide +kernel
theorem dX19_arrive_84 : decode cX19_arrive 84 = .ok (.iload 4, 2) := by decide +kernel
theorem dX19_arrive_86 : decode cX19_arrive 86 = .ok (.aload_n 0, 1) := by decide +kernel
theorem dX19_arrive_87 : decode cX19_arrive 87 = .ok (.getfield 242, 3) := by decide +kernel
theorem dX19_arrive_90 : decode cX19_arrive 90 = .ok (.iload 4, 2) := by decide +kernel
theorem dX19_arrive_92 : decode cX19_arrive 92 = .ok (.iconst 1, 1) := by decide +kernel
theorem dX19_arrive_93 : decode cX19_arrive 93 = .ok (.iadd, 1) := by decide +kernel
theorem dX19_arrive_94 : decode cX19_arrive 94 = .ok (.iaload, 1) := by decide +kernel
theorem dX19_arrive_95 : decode cX19_arrive 95 = .ok (.iastore, 1) := by decide +kernel
theorem dX19_arrive_96 : decode cX19_arrive 96 = .ok (.iinc 4 1, 3) := by decide +kernel
theorem dX19_arrive_99 : decode cX19_arrive 99 = .ok (.goto (-44), 3) := by decide +kernel
theorem dX19_arrive_102 : decode cX19_arrive 102 = .ok (.aload_n 0, 1) := by decide +kernel
theorem dX19_arrive_103 : decode cX19_arrive 103 = .ok (.getfield 198, 3) := by decide +kernel
theorem dX19_arrive_106 : decode cX19_arrive 106 = .ok (.iload_n 3, 1) := by decide +kernel
theorem dX19_arrive_107 : decode cX19_arrive 107 = .ok (.invokevirtual 710, 3) := by decide +kernel
theorem dX19_arrive_110 : decode cX19_arrive 110 = .ok (.istore 4, 2) := by decide +kernel
theorem dX19_arrive_112 : decode cX19_arrive 112 = .ok (.aload_n 0, 1) := by decide +kernel
theorem dX19_arrive_113 : decode cX19_arrive 113 = .ok (.getfield 198, 3) := by decide +kernel
theorem dX19_arrive_116 : decode cX19_arrive 116 = .ok (.iconst 0, 1) := by decide +kernel
theorem dX19_arrive_117 : decode cX19_arrive 117 = .ok (.invokevirtual 713, 3) := by decide +kernel
theorem dX19_arrive_120 : decode cX19_arrive 120 = .ok (.aload_n 0, 1) := by decide +kernel
theorem dX19_arrive_121 : decode cX19_arrive 121 = .ok (.getfield 612, 3) := by decide +kernel
theorem dX19_arrive_124 : decode cX19_arrive 124 = .ok (.if_icmp .ne 4, 3) := by decide +kernel
theorem dX19_arrive_127 : decode cX19_arrive 127 = .ok (.return_, 1) := by decide +kernel
theorem dX19_arrive_128 : decode cX19_arrive 128 = .ok (.aload_n 0, 1) := by decide +kernel
theorem dX19_arrive_129 : decode cX19_arrive 129 = .ok (.dup, 1) := by decide +kernel
theorem dX19_arrive_130 : decode cX19_arrive 130 = .ok (.getfield 612, 3) := by decide +kernel
theorem dX19_arrive_133 : decode cX19_arrive 133 = .ok (.iconst 1, 1) := by decide +kernel
theorem dX19_arrive_134 : decode cX19_arrive 134 = .ok (.iadd, 1) := by decide +kernel
theorem dX19_arrive_135 : decode cX19_arrive 135 = .ok (.putfield 612, 3) := by decide +kernel
theorem dX19_arrive_138 : decode cX19_arrive 138 = .ok (.aload_n 0, 1) := by decide +kernel
theorem dX19_arrive_139 : decode cX19_arrive 139 = .ok (.getfield 198, 3) := by decide +kernel
theorem dX19_arrive_142 : decode cX19_arrive 142 = .ok (.invokevirtual 716, 3) := by decide +kernel
theorem dX19_arrive_145 : decode cX19_arrive 145 = .ok (.istore 5, 2) := by decide +kernel
theorem dX19_arrive_147 : decode cX19_arrive 147 = .ok (.iconst 0, 1) := by decide +kernel
theorem dX19_arrive_148 : decode cX19_arrive 148 = .ok (.istore 6, 2) := by decide +kernel
theorem dX19_arrive_150 : decode cX19_arrive 150 = .ok (.iload 6, 2) := by decide +kernel
theorem dX19_arrive_152 : decode cX19_arrive 152 = .ok (.iload 5, 2) := by decide +kernel
theorem dX19_arrive_154 : decode cX19_arrive 154 = .ok (.if_icmp .ge 29, 3) := by decide +kernel
theorem dX19_arrive_157 : decode cX19_arrive 157 = .ok (.aload_n 0, 1) := by decide +kernel
theorem dX19_arrive_158 : decode cX19_arrive 158 = .ok (.getfield 252, 3) := by decide +kernel
theorem dX19_arrive_161 : decode cX19_arrive 161 = .ok (.iload 6, 2) := by decide +kernel
theorem dX19_arrive_163 : decode cX19_arrive 163 = .ok (.aload_n 0, 1) := by decide +kernel
theorem dX19_arrive_164 : decode cX19_arrive 164 = .ok (.getfield 198, 3) := by decide +kernel
theorem dX19_arrive_167 : decode cX19_arrive 167 = .ok (.iload 6, 2) := by decide +kernel
theorem dX19_arrive_169 : decode cX19_arrive 169 = .ok (.invokevirtual 718, 3) := by decide +kernel
theorem dX19_arrive_172 : decode cX19_arrive 172 = .ok (.sipush 255, 3) := by decide +kernel
theorem dX19_arrive_175 : decode cX19_arrive 175 = .ok (.iand, 1) := by decide +kernel
theorem dX19_arrive_176 : decode cX19_arrive 176 = .ok (.iastore, 1) := by decide +kernel
theorem dX19_arrive_177 : decode cX19_arrive 177 = .ok (.iinc 6 1, 3) := by decide +kernel
theorem dX19_arrive_180 : decode cX19_arrive 180 = .ok (.goto (-30), 3) := by decide +kernel
theorem dX19_arrive_183 : decode cX19_arrive 183 = .ok (.aload_n 0, 1) := by decide +kernel
theorem dX19_arrive_184 : decode cX19_arrive 184 = .ok (.getfield 198, 3) := by decide +kernel
theorem dX19_arrive_187 : decode cX19_arrive 187 = .ok (.iload_n 3, 1) := by decide +kernel
theorem dX19_arrive_188 : decode cX19_arrive 188 = .ok (.iconst 1, 1) := by decide +kernel
theorem dX19_arrive_189 : decode cX19_arrive 189 = .ok (.invokevirtual 720, 3) := by decide +kernel
theorem dX19_arrive_192 : decode cX19_arrive 192 = .ok (.istore 6, 2) := by decide +kernel
theorem dX19_arrive_194 : decode cX19_arrive 194 = .ok (.aload_n 0, 1) := by decide +kernel
theorem dX19_arrive_195 : decode cX19_arrive 195 = .ok (.getfield 236, 3) := by decide +kernel
theorem dX19_arrive_198 : decode cX19_arrive 198 = .ok (.iload 6, 2) := by decide +kernel
theorem dX19_arrive_200 : decode cX19_arrive 200 = .ok (.baload, 1) := by decide +kernel
theorem dX19_arrive_201 : decode cX19_arrive 201 = .ok (.ifCond .eq 31, 3) := by decide +kernel
theorem dX19_arrive_204 : decode cX19_arrive 204 = .ok (.aload_n 0, 1) := by decide +kernel
theorem dX19_arrive_205 : decode cX19_arrive 205 = .ok (.aload_n 0, 1) := by decide +kernel
theorem dX19_arrive_206 : decode cX19_arrive 206 = .ok (.getfield 233, 3) := by decide +kernel
theorem dX19_arrive_209 : decode cX19_arrive 209 = .ok (.iload 6, 2) := by decide +kernel
theorem dX19_arrive_211 : decode cX19_arrive 211 = .ok (.iaload, 1) := by decide +kernel
theorem dX19_arrive_212 : decode cX19_arrive 212 = .ok (.iload 5, 2) := by decide +kernel
theorem dX19_arrive_214 : decode cX19_arrive 214 = .ok (.invokevirtual 723, 3) := by decide +kernel
theorem dX19_arrive_217 : decode cX19_arrive 217 = .ok (.aload_n 0, 1) := by decide +kernel
theorem dX19_arrive_218 : decode cX19_arrive 218 = .ok (.aload_n 0, 1) := by decide +kernel
theorem dX19_arrive_219 : decode cX19_arrive 219 = .ok (.getfield 233, 3) := by decide +kernel
theorem dX19_arrive_222 : decode cX19_arrive 222 = .ok (.iload 6, 2) := by decide +kernel
theorem dX19_arrive_224 : decode cX19_arrive 224 = .ok (.iaload, 1) := by decide +kernel
theorem dX19_arrive_225 : decode cX19_arrive 225 = .ok (.iconst 0, 1) := by decide +kernel
theorem dX19_arrive_226 : decode cX19_arrive 226 = .ok (.invokevirtual 726, 3) := by decide +kernel
theorem dX19_arrive_229 : decode cX19_arrive 229 = .ok (.goto 68, 3) := by decide +kernel
theorem dX19_arrive_232 : decode cX19_arrive 232 = .ok (.aload_n 0, 1) := by decide +kernel
theorem dX19_arrive_233 : decode cX19_arrive 233 = .ok (.getfield 245, 3) := by decide +kernel
theorem dX19_arrive_236 : decode cX19_arrive 236 = .ok (.aload_n 0, 1) := by decide +kernel
theorem dX19_arrive_237 : decode cX19_arrive 237 = .ok (.getfield 233, 3) := by decide +kernel
theorem dX19_arrive_240 : decode cX19_arrive 240 = .ok (.iload 6, 2) := by decide +kernel
theorem dX19_arrive_242 : decode cX19_arrive 242 = .ok (.iaload, 1) := by decide +kernel
theorem dX19_arrive_243 : decode cX19_arrive 243 = .ok (.if_icmp .ne 54, 3) := by decide +kernel
theorem dX19_arrive_246 : decode cX19_arrive 246 = .ok (.aload_n 0, 1) := by decide +kernel
theorem dX19_arrive_247 : decode cX19_arrive 247 = .ok (.iload 5, 2) := by decide +kernel
theorem dX19_arrive_249 : decode cX19_arrive 249 = .ok (.putfield 618, 3) := by decide +kernel
theorem dX19_arrive_252 : decode cX19_arrive 252 = .ok (.iconst 0, 1) := by decide +kernel
theorem dX19_arrive_253 : decode cX19_arrive 253 = .ok (.istore 7, 2) := by decide +kernel
theorem dX19_arrive_255 : decode cX19_arrive 255 = .ok (.iload 7, 2) := by decide +kernel
theorem dX19_arrive_257 : decode cX19_arrive 257 = .ok (.iload 5, 2) := by decide +kernel
theorem dX19_arrive_259 : decode cX19_arrive 259 = .ok (.if_icmp .ge 23, 3) := by decide +kernel
theorem dX19_arrive_262 : decode cX19_arrive 262 = .ok (.aload_n 0, 1) := by decide +kernel
theorem dX19_arrive_263 : decode cX19_arrive 263 = .ok (.getfield 249, 3) := by decide +kernel
theorem dX19_arrive_266 : decode cX19_arrive 266 = .ok (.iload 7, 2) := by decide +kernel
theorem dX19_arrive_268 : decode cX19_arrive 268 = .ok (.aload_n 0, 1) := by decide +kernel
theorem dX19_arrive_269 : decode cX19_arrive 269 = .ok (.getfield 252, 3) := by decide +kernel
theorem dX19_arrive_272 : decode cX19_arrive 272 = .ok (.iload 7, 2) := by decide +kernel
theorem dX19_arrive_274 : decode cX19_arrive 274 = .ok (.iaload, 1) := by decide +kernel
theorem dX19_arrive_275 : decode cX19_arrive 275 = .ok (.iastore, 1) := by decide +kernel
theorem dX19_arrive_276 : decode cX19_arrive 276 = .ok (.iinc 7 1, 3) := by decide +kernel
theorem dX19_arrive_279 : decode cX19_arrive 279 = .ok (.goto (-24), 3) := by decide +kernel
theorem dX19_arrive_282 : decode cX19_arrive 282 = .ok (.aload_n 0, 1) := by decide +kernel
theorem dX19_arrive_283 : decode cX19_arrive 283 = .ok (.getfield 273, 3) := by decide +kernel
theorem dX19_arrive_286 : decode cX19_arrive 286 = .ok (.iconst 3, 1) := by decide +kernel
theorem dX19_arrive_287 : decode cX19_arrive 287 = .ok (.dup2, 1) := by decide +kernel
theorem dX19_arrive_288 : decode cX19_arrive 288 = .ok (.iaload, 1) := by decide +kernel
theorem dX19_arrive_289 : decode cX19_arrive 289 = .ok (.iconst 1, 1) := by decide +kernel
theorem dX19_arrive_290 : decode cX19_arrive 290 = .ok (.iadd, 1) := by decide +kernel
theorem dX19_arrive_291 : decode cX19_arrive 291 = .ok (.iastore, 1) := by decide +kernel
theorem dX19_arrive_292 : decode cX19_arrive 292 = .ok (.aload_n 0, 1) := by decide +kernel
theorem dX19_arrive_293 : decode cX19_arrive 293 = .ok (.iconst (-1), 1) := by decide +kernel
theorem dX19_arrive_294 : decode cX19_arrive 294 = .ok (.putfield 245, 3) := by decide +kernel
theorem dX19_arrive_297 : decode cX19_arrive 297 = .ok (.return_, 1) := by decide +kernel
theorem cwX19_arrive : mw_cwV yX19_arrive cX19_arrive 8 (none) 1 := ⟨⟨wd_13, wd_3931, by decide +kernel⟩, wd_3930, sl_291⟩
set_option maxHeartbeats 4000000 in
set_option maxRecDepth 100000 in
theorem tX19_arrive (l : Launch) (G : mwG) (ad : Nat → Nat) (fu : Nat) (a1 : Int32) (M : mwM) (L : mwL) {M0 : mwM} {L0 : mwL} (hD : DX19_arrive fu a1 M L = some (M0, L0)) : Met l yX19_arrive (Cond.code yX19_arrive cX19_arrive 8 (none) :: GT) ({ frames := 7, cells := 0, slots := 0, locals := 176 }) (mw_Pre G ad NF TF FF M L [.ref (ad 732), .int a1]) (mw_Qv G ad NF TF FF (mw_eqV M0 L0)) 0 0 (mw_fr G) := by
  refine mw_enter (by decide) (Nat.le_of_ble_eq_true rfl) ?_
  intro p e s m below meth c ls C hr hlocks hnm hw hl
  have hl : lv_has ls 8 [(0, .ref (ad 732)), (1, .int a1)] := hl
  have hb297 : ∀ (M : mwM) (L : mwL) (H : Heap) (locs : List Loc) (ls : Array Slot), fX19_arrive_b297 fu a1 M L = some (M0, L0) → mw_W G ad NF TF FF M L H locs → lv_has ls 8 [] → W p l e ({ frames := 7, cells := 0, slots := 0, locals := 176 }) s m [.ref (ad 732), .int a1].toArray below meth c H locs 0 0 (MQ below (mw_Qv G ad NF TF FF (mw_eqV M0 L0)) [.ref (ad 732), .int a1].toArray s 0 0 (mw_fr G)) (F0 m 297 ls []) := by
    intro M L H locs ls hD hw hl
    unfold fX19_arrive_b297 at hD
    exact mr_vret C hr hlocks hw (Option.some.inj hD) dX19_arrive_297
  have hh255 : ∀ (f : Nat) (v5 : Int32) (v7 : Int32) (M : mwM) (L : mwL) (H : Heap) (locs : List Loc) (ls : Array Slot), fX19_arrive_h255 fu a1 f (v5, v7, M, L) = some (M0, L0) → mw_W G ad NF TF FF M L H locs → lv_has ls 8 [(0, .ref (ad 732)), (5, .int v5), (7, .int v7)] → W p l e ({ frames := 7, cells := 0, slots := 0, locals := 176 }) s m [.ref (ad 732), .int a1].toArray below meth c H locs 0 0 (MQ below (mw_Qv G ad NF TF FF (mw_eqV M0 L0)) [.ref (ad 732), .int a1].toArray s 0 0 (mw_fr G)) (F0 m 255 ls []) := by
    intro f
    induction f with
    | zero => intro v5 v7 M L H locs ls hD; cases hD
    | succ f255 ih255 =>
      intro v5 v7 M L H locs ls hD hw hl
      replace hD : fX19_arrive_i255 fu a1 (fX19_arrive_h255 fu a1 f255) v5 v7 M L = some (M0, L0) := hD
      unfold fX19_arrive_i255 at hD
      refine lv_iload C.1.1 C.1.2.1 dX19_arrive_255 (lv_at hl 2 rfl) ?_
      refine lv_iload C.1.1 C.1.2.1 dX19_arrive_257 (lv_at hl 1 rfl) ?_
      refine lv_icmp_ge (tgt := 282) C.1.1 C.1.2.1 dX19_arrive_259 (by decide) (fun c49 => ?_) (fun c49 => ?_)
      · replace hD := g_pos c49 hD
        refine lv_aload_n C.1.1 C.1.2.1 dX19_arrive_282 rfl (lv_at hl 0 rfl) ?_
        refine mr_getR C hw kc_19 109 (by decide) tf_732 ff_732_109 wd_2890 dX19_arrive_283 (by decide) rfl ?_
        refine lv_iconst (v := 3) C.1.1 C.1.2.1 dX19_arrive_286 (by decide) ?_
        refine lv_dup2_11 C.1.1 C.1.2.1 dX19_arrive_287 rfl rfl ?_
        refine mr_iald C hw (by decide) tf_939 (show vp_in 3 5 from by unfold vp_in; decide) dX19_arrive_288 ?_
        refine lv_iconst (v := 1) C.1.1 C.1.2.1 dX19_arrive_289 (by decide) ?_
        refine lv_iadd C.1.1 C.1.2.1 dX19_arrive_290 ?_
        obtain ⟨M52, eM52, hD⟩ := g_let hD
        refine mr_iast C hw (by decide) tf_939 (show vp_in 3 5 from by unfold vp_in; decide) dX19_arrive_291 (fun H locs hw => ?_)
        replace hw : mw_W G ad NF TF FF M52 L H locs := by rw [eM52]; exact hw
        refine lv_aload_n C.1.1 C.1.2.1 dX19_arrive_292 rfl (lv_at hl 0 rfl) ?_
        refine lv_iconst (v := (-1)) C.1.1 C.1.2.1 dX19_arrive_293 (by decide) ?_
        obtain ⟨M53, eM53, hD⟩ := g_let hD
        refine mr_putI C hw kc_19 97 (by decide) tf_732 wd_2878 dX19_arrive_294 (by decide) rfl rfl rfl rfl (fun H locs hw => ?_)
        replace hw : mw_W G ad NF TF FF M53 L H locs := by rw [eM53]; exact hw
        exact hb297 M53 L _ _ ls hD hw (lv_sub hl [] rfl)
      · replace hD := g_neg c49 hD
        refine lv_aload_n C.1.1 C.1.2.1 dX19_arrive_262 rfl (lv_at hl 0 rfl) ?_
        refine mr_getR C hw kc_19 99 (by decide) tf_732 ff_732_99 wd_2880 dX19_arrive_263 (by decide) rfl ?_
        refine lv_iload C.1.1 C.1.2.1 dX19_arrive_266 (lv_at hl 2 rfl) ?_
        refine lv_aload_n C.1.1 C.1.2.1 dX19_arrive_268 rfl (lv_at hl 0 rfl) ?_
        refine mr_getR C hw kc_19 100 (by decide) tf_732 ff_732_100 wd_2881 dX19_arrive_269 (by decide) rfl ?_
        refine lv_iload C.1.1 C.1.2.1 dX19_arrive_272 (lv_at hl 2 rfl) ?_
        obtain ⟨q54, hD⟩ := g_ck hD
        refine mr_iald C hw (by decide) tf_932 q54 dX19_arrive_274 ?_
        obtain ⟨q55, hD⟩ := g_ck hD
        obtain ⟨M56, eM56, hD⟩ := g_let hD
        refine mr_iast C hw (by decide) tf_931 q55 dX19_arrive_275 (fun H locs hw => ?_)
        replace hw : mw_W G ad NF TF FF M56 L H locs := by rw [eM56]; exact hw
        obtain ⟨x57, ex57, hD⟩ := g_let hD
        refine lv_iinc (v := x57) (lv' := [(7, .int x57), (0, .ref (ad 732)), (5, .int v5)]) C.1.1 C.1.2.1 dX19_arrive_276 hl (k := 2) rfl (by rw [ex57]; rfl) (by decide) rfl (fun ls hl => ?_)
        refine lv_goto (tgt := 255) C.1.1 C.1.2.1 dX19_arrive_279 (by decide) ?_
        exact ih255 v5 x57 M56 L _ _ ls hD hw (lv_sub hl [1, 2, 0] rfl)
  have hh150 : ∀ (f : Nat) (v3 : Int32) (v5 : Int32) (v6 : Int32) (M : mwM) (L : mwL) (H : Heap) (locs : List Loc) (ls : Array Slot), fX19_arrive_h150 fu a1 f (v3, v5, v6, M, L) = some (M0, L0) → mw_W G ad NF TF FF M L H locs → lv_has ls 8 [(0, .ref (ad 732)), (3, .int v3), (5, .int v5), (6, .int v6)] → W p l e ({ frames := 7, cells := 0, slots := 0, locals := 176 }) s m [.ref (ad 732), .int a1].toArray below meth c H locs 0 0 (MQ below (mw_Qv G ad NF TF FF (mw_eqV M0 L0)) [.ref (ad 732), .int a1].toArray s 0 0 (mw_fr G)) (F0 m 150 ls []) := by
    intro f
    induction f with
    | zero => intro v3 v5 v6 M L H locs ls hD; cases hD
    | succ f150 ih150 =>
      intro v3 v5 v6 M L H locs ls hD hw hl
      replace hD : fX19_arrive_i150 fu a1 (fX19_arrive_h150 fu a1 f150) v3 v5 v6 M L = some (M0, L0) := hD
      unfold fX19_arrive_i150 at hD
      refine lv_iload C.1.1 C.1.2.1 dX19_arrive_150 (lv_at hl 3 rfl) ?_
      refine lv_iload C.1.1 C.1.2.1 dX19_arrive_152 (lv_at hl 2 rfl) ?_
      refine lv_icmp_ge (tgt := 183) C.1.1 C.1.2.1 dX19_arrive_154 (by decide) (fun c28 => ?_) (fun c28 => ?_)
      · replace hD := g_pos c28 hD
        refine lv_aload_n C.1.1 C.1.2.1 dX19_arrive_183 rfl (lv_at hl 0 rfl) ?_
        refine mr_getR C hw kc_19 79 (by decide) tf_732 ff_732_79 wd_2860 dX19_arrive_184 (by decide) rfl ?_
        refine lv_iload_n C.1.1 C.1.2.1 dX19_arrive_187 rfl (lv_at hl 1 rfl) ?_
        refine lv_iconst (v := 1) C.1.1 C.1.2.1 dX19_arrive_188 (by decide) ?_
        obtain ⟨r31, M29, L30, h1, hD⟩ := g_b3 hD
        refine md_cvI (As := [.int v3, .int 1]) (rest := []) C hw (tX17_frame l G ad fu v3 1 M L h1) kc_17 (by decide) tf_869 wd_3984 cwX17_frame ⟨Nat.le_of_ble_eq_true rfl, Nat.le_of_ble_eq_true rfl⟩ rfl hl.1 (Nat.le_of_ble_eq_true rfl) dX19_arrive_189 rfl rfl ⟨Nat.zero_le _, Nat.zero_le _⟩ rfl (fun H locs hw => ?_)
        refine lv_istore (lv' := [(6, .int r31), (0, .ref (ad 732)), (3, .int v3), (5, .int v5)]) C.1.1 C.1.2.1 dX19_arrive_192 hl (by decide) rfl (fun ls hl => ?_)
        refine lv_aload_n C.1.1 C.1.2.1 dX19_arrive_194 rfl (lv_at hl 1 rfl) ?_
        refine mr_getR C hw kc_19 90 (by decide) tf_732 ff_732_90 wd_2871 dX19_arrive_195 (by decide) rfl ?_
        refine lv_iload C.1.1 C.1.2.1 dX19_arrive_198 (lv_at hl 0 rfl) ?_
        obtain ⟨q32, hD⟩ := g_ck hD
        refine mr_zald C hw (by decide) tf_928 q32 dX19_arrive_200 ?_
        refine lv_if_eq (tgt := 232) C.1.1 C.1.2.1 dX19_arrive_201 (by decide) (fun c33 => ?_) (fun c33 => ?_)
        · replace hD := g_pos c33 hD
          refine lv_aload_n C.1.1 C.1.2.1 dX19_arrive_232 rfl (lv_at hl 1 rfl) ?_
          refine mr_getI C hw kc_19 97 (by decide) tf_732 wd_2878 dX19_arrive_233 (by decide) rfl ?_
          refine lv_aload_n C.1.1 C.1.2.1 dX19_arrive_236 rfl (lv_at hl 1 rfl) ?_
          refine mr_getR C hw kc_19 89 (by decide) tf_732 ff_732_89 wd_2870 dX19_arrive_237 (by decide) rfl ?_
          refine lv_iload C.1.1 C.1.2.1 dX19_arrive_240 (lv_at hl 0 rfl) ?_
          obtain ⟨q34, hD⟩ := g_ck hD
          refine mr_iald C hw (by decide) tf_927 q34 dX19_arrive_242 ?_
          refine lv_icmp_ne (tgt := 297) C.1.1 C.1.2.1 dX19_arrive_243 (by decide) (fun c35 => ?_) (fun c35 => ?_)
          · replace hD := g_neg c35 hD
            exact hb297 M29 L30 _ _ ls hD hw (lv_sub hl [] rfl)
          · replace hD := g_pos c35 hD
            refine lv_aload_n C.1.1 C.1.2.1 dX19_arrive_246 rfl (lv_at hl 1 rfl) ?_
            refine lv_iload C.1.1 C.1.2.1 dX19_arrive_247 (lv_at hl 3 rfl) ?_
            obtain ⟨M36, eM36, hD⟩ := g_let hD
            refine mr_putI C hw kc_19 98 (by decide) tf_732 wd_2879 dX19_arrive_249 (by decide) rfl rfl rfl rfl (fun H locs hw => ?_)
            replace hw : mw_W G ad NF TF FF M36 L30 H locs := by rw [eM36]; exact hw
            refine lv_iconst (v := 0) C.1.1 C.1.2.1 dX19_arrive_252 (by decide) ?_
            refine lv_istore (lv' := [(7, .int 0), (6, .int r31), (0, .ref (ad 732)), (3, .int v3), (5, .int v5)]) C.1.1 C.1.2.1 dX19_arrive_253 hl (by decide) rfl (fun ls hl => ?_)
            exact hh255 fu v5 0 M36 L30 _ _ ls hD hw (lv_sub hl [2, 4, 0] rfl)
        · replace hD := g_neg c33 hD
          refine lv_aload_n C.1.1 C.1.2.1 dX19_arrive_204 rfl (lv_at hl 1 rfl) ?_
          refine lv_aload_n C.1.1 C.1.2.1 dX19_arrive_205 rfl (lv_at hl 1 rfl) ?_
          refine mr_getR C hw kc_19 89 (by decide) tf_732 ff_732_89 wd_2870 dX19_arrive_206 (by decide) rfl ?_
          refine lv_iload C.1.1 C.1.2.1 dX19_arrive_209 (lv_at hl 0 rfl) ?_
          obtain ⟨q37, hD⟩ := g_ck hD
          refine mr_iald C hw (by decide) tf_927 q37 dX19_arrive_211 ?_
          refine lv_iload C.1.1 C.1.2.1 dX19_arrive_212 (lv_at hl 3 rfl) ?_
          obtain ⟨M38, L39, h1, hD⟩ := g_b2 hD
          refine md_cvV (As := [.int (M29 927 r31.toNatClampNeg), .int v5]) (rest := []) C hw (tX19_serve l G ad fu (M29 927 r31.toNatClampNeg) v5 M29 L30 h1) kc_19 (by decide) tf_732 wd_3988 cwX19_serve ⟨Nat.le_of_ble_eq_true rfl, Nat.le_of_ble_eq_true rfl⟩ rfl hl.1 (Nat.le_of_ble_eq_true rfl) dX19_arrive_214 rfl rfl ⟨Nat.zero_le _, Nat.zero_le _⟩ rfl (fun H locs hw => ?_)
          refine lv_aload_n C.1.1 C.1.2.1 dX19_arrive_217 rfl (lv_at hl 1 rfl) ?_
          refine lv_aload_n C.1.1 C.1.2.1 dX19_arrive_218 rfl (lv_at hl 1 rfl) ?_
          refine mr_getR C hw kc_19 89 (by decide) tf_732 ff_732_89 wd_2870 dX19_arrive_219 (by decide) rfl ?_
          refine lv_iload C.1.1 C.1.2.1 dX19_arrive_222 (lv_at hl 0 rfl) ?_
          obtain ⟨q40, hD⟩ := g_ck hD
          refine mr_iald C hw (by decide) tf_927 q40 dX19_arrive_224 ?_
          refine lv_iconst (v := 0) C.1.1 C.1.2.1 dX19_arrive_225 (by decide) ?_
          obtain ⟨M41, L42, h1, hD⟩ := g_b2 hD
          refine md_cvV (As := [.int (M38 927 r31.toNatClampNeg), .int 0]) (rest := []) C hw (tX19_say l G ad fu (M38 927 r31.toNatClampNeg) 0 M38 L39 h1) kc_19 (by decide) tf_732 wd_4042 cwX19_say ⟨Nat.le_of_ble_eq_true rfl, Nat.le_of_ble_eq_true rfl⟩ rfl hl.1 (Nat.le_of_ble_eq_true rfl) dX19_arrive_226 rfl rfl ⟨Nat.zero_le _, Nat.zero_le _⟩ rfl (fun H locs hw => ?_)
          refine lv_goto (tgt := 297) C.1.1 C.1.2.1 dX19_arrive_229 (by decide) ?_
          exact hb297 M41 L42 _ _ ls hD hw (lv_sub hl [] rfl)
      · replace hD := g_neg c28 hD
        refine lv_aload_n C.1.1 C.1.2.1 dX19_arrive_157 rfl (lv_at hl 0 rfl) ?_
        refine mr_getR C hw kc_19 100 (by decide) tf_732 ff_732_100 wd_2881 dX19_arrive_158 (by decide) rfl ?_
        refine lv_iload C.1.1 C.1.2.1 dX19_arrive_161 (lv_at hl 3 rfl) ?_
        refine lv_aload_n C.1.1 C.1.2.1 dX19_arrive_163 rfl (lv_at hl 0 rfl) ?_
        refine mr_getR C hw kc_19 79 (by decide) tf_732 ff_732_79 wd_2860 dX19_arrive_164 (by decide) rfl ?_
        refine lv_iload C.1.1 C.1.2.1 dX19_arrive_167 (lv_at hl 3 rfl) ?_
        obtain ⟨r45, M43, L44, h1, hD⟩ := g_b3 hD
        refine md_cvI (As := [.int v6]) (rest := [.int v6, .ref (ad 932)]) C hw (tX17_got l G ad fu v6 M L h1) kc_17 (by decide) tf_869 wd_3980 cwX17_got ⟨Nat.le_of_ble_eq_true rfl, Nat.le_of_ble_eq_true rfl⟩ rfl hl.1 (Nat.le_of_ble_eq_true rfl) dX19_arrive_169 rfl rfl ⟨Nat.zero_le _, Nat.zero_le _⟩ rfl (fun H locs hw => ?_)
        refine lv_sipush (v := 255) C.1.1 C.1.2.1 dX19_arrive_172 (by decide) ?_
        refine lv_iand C.1.1 C.1.2.1 dX19_arrive_175 ?_
        obtain ⟨q46, hD⟩ := g_ck hD
        obtain ⟨M47, eM47, hD⟩ := g_let hD
        refine mr_iast C hw (by decide) tf_932 q46 dX19_arrive_176 (fun H locs hw => ?_)
        replace hw : mw_W G ad NF TF FF M47 L44 H locs := by rw [eM47]; exact hw
        obtain ⟨x48, ex48, hD⟩ := g_let hD
        refine lv_iinc (v := x48) (lv' := [(6, .int x48), (0, .ref (ad 732)), (3, .int v3), (5, .int v5)]) C.1.1 C.1.2.1 dX19_arrive_177 hl (k := 3) rfl (by rw [ex48]; rfl) (by decide) rfl (fun ls hl => ?_)
        refine lv_goto (tgt := 150) C.1.1 C.1.2.1 dX19_arrive_180 (by decide) ?_
        exact ih150 v3 v5 x48 M47 L44 _ _ ls hD hw (lv_sub hl [1, 2, 3, 0] rfl)
  have hh55 : ∀ (f : Nat) (v3 : Int32) (v4 : Int32) (M : mwM) (L : mwL) (H : Heap) (locs : List Loc) (ls : Array Slot), fX19_arrive_h55 fu a1 f (v3, v4, M, L) = some (M0, L0) → mw_W G ad NF TF FF M L H locs → lv_has ls 8 [(0, .ref (ad 732)), (3, .int v3), (4, .int v4)] → W p l e ({ frames := 7, cells := 0, slots := 0, locals := 176 }) s m [.ref (ad 732), .int a1].toArray below meth c H locs 0 0 (MQ below (mw_Qv G ad NF TF FF (mw_eqV M0 L0)) [.ref (ad 732), .int a1].toArray s 0 0 (mw_fr G)) (F0 m 55 ls []) := by
    intro f
    induction f with
    | zero => intro v3 v4 M L H locs ls hD; cases hD
    | succ f55 ih55 =>
      intro v3 v4 M L H locs ls hD hw hl
      replace hD : fX19_arrive_i55 fu a1 (fX19_arrive_h55 fu a1 f55) v3 v4 M L = some (M0, L0) := hD
      unfold fX19_arrive_i55 at hD
      refine lv_iload C.1.1 C.1.2.1 dX19_arrive_55 (lv_at hl 2 rfl) ?_
      refine lv_aload_n C.1.1 C.1.2.1 dX19_arrive_57 rfl (lv_at hl 0 rfl) ?_
      refine mr_getI C hw kc_19 91 (by decide) tf_732 wd_2872 dX19_arrive_58 (by decide) rfl ?_
      refine lv_icmp_ge (tgt := 102) C.1.1 C.1.2.1 dX19_arrive_61 (by decide) (fun c9 => ?_) (fun c9 => ?_)
      · replace hD := g_pos c9 hD
        refine lv_aload_n C.1.1 C.1.2.1 dX19_arrive_102 rfl (lv_at hl 0 rfl) ?_
        refine mr_getR C hw kc_19 79 (by decide) tf_732 ff_732_79 wd_2860 dX19_arrive_103 (by decide) rfl ?_
        refine lv_iload_n C.1.1 C.1.2.1 dX19_arrive_106 rfl (lv_at hl 1 rfl) ?_
        obtain ⟨r12, M10, L11, h1, hD⟩ := g_b3 hD
        refine md_cvI (As := [.int v3]) (rest := []) C hw (tX17_receive l G ad fu v3 M L h1) kc_17 (by decide) tf_869 wd_3932 cwX17_receive ⟨Nat.le_of_ble_eq_true rfl, Nat.le_of_ble_eq_true rfl⟩ rfl hl.1 (Nat.le_of_ble_eq_true rfl) dX19_arrive_107 rfl rfl ⟨Nat.zero_le _, Nat.zero_le _⟩ rfl (fun H locs hw => ?_)
        refine lv_istore (lv' := [(4, .int r12), (0, .ref (ad 732)), (3, .int v3)]) C.1.1 C.1.2.1 dX19_arrive_110 hl (by decide) rfl (fun ls hl => ?_)
        refine lv_aload_n C.1.1 C.1.2.1 dX19_arrive_112 rfl (lv_at hl 1 rfl) ?_
        refine mr_getR C hw kc_19 79 (by decide) tf_732 ff_732_79 wd_2860 dX19_arrive_113 (by decide) rfl ?_
        refine lv_iconst (v := 0) C.1.1 C.1.2.1 dX19_arrive_116 (by decide) ?_
        obtain ⟨r15, M13, L14, h1, hD⟩ := g_b3 hD
        refine md_cvI (As := [.int 0]) (rest := []) C hw (tX17_ended l G ad fu 0 M10 L11 h1) kc_17 (by decide) tf_869 wd_3972 cwX17_ended ⟨Nat.le_of_ble_eq_true rfl, Nat.le_of_ble_eq_true rfl⟩ rfl hl.1 (Nat.le_of_ble_eq_true rfl) dX19_arrive_117 rfl rfl ⟨Nat.zero_le _, Nat.zero_le _⟩ rfl (fun H locs hw => ?_)
        refine lv_aload_n C.1.1 C.1.2.1 dX19_arrive_120 rfl (lv_at hl 1 rfl) ?_
        refine mr_getI C hw kc_19 95 (by decide) tf_732 wd_2876 dX19_arrive_121 (by decide) rfl ?_
        refine lv_icmp_ne (tgt := 128) C.1.1 C.1.2.1 dX19_arrive_124 (by decide) (fun c16 => ?_) (fun c16 => ?_)
        · replace hD := g_neg c16 hD
          refine lv_aload_n C.1.1 C.1.2.1 dX19_arrive_128 rfl (lv_at hl 1 rfl) ?_
          refine lv_dup C.1.1 C.1.2.1 dX19_arrive_129 rfl ?_
          refine mr_getI C hw kc_19 95 (by decide) tf_732 wd_2876 dX19_arrive_130 (by decide) rfl ?_
          refine lv_iconst (v := 1) C.1.1 C.1.2.1 dX19_arrive_133 (by decide) ?_
          refine lv_iadd C.1.1 C.1.2.1 dX19_arrive_134 ?_
          obtain ⟨M17, eM17, hD⟩ := g_let hD
          refine mr_putI C hw kc_19 95 (by decide) tf_732 wd_2876 dX19_arrive_135 (by decide) rfl rfl rfl rfl (fun H locs hw => ?_)
          replace hw : mw_W G ad NF TF FF M17 L14 H locs := by rw [eM17]; exact hw
          refine lv_aload_n C.1.1 C.1.2.1 dX19_arrive_138 rfl (lv_at hl 1 rfl) ?_
          refine mr_getR C hw kc_19 79 (by decide) tf_732 ff_732_79 wd_2860 dX19_arrive_139 (by decide) rfl ?_
          obtain ⟨r20, M18, L19, h1, hD⟩ := g_b3 hD
          refine md_cvI (As := []) (rest := []) C hw (tX17_length l G ad fu M17 L14 h1) kc_17 (by decide) tf_869 wd_3976 cwX17_length ⟨Nat.le_of_ble_eq_true rfl, Nat.le_of_ble_eq_true rfl⟩ rfl hl.1 (Nat.le_of_ble_eq_true rfl) dX19_arrive_142 rfl rfl ⟨Nat.zero_le _, Nat.zero_le _⟩ rfl (fun H locs hw => ?_)
          refine lv_istore (lv' := [(5, .int r20), (4, .int r12), (0, .ref (ad 732)), (3, .int v3)]) C.1.1 C.1.2.1 dX19_arrive_145 hl (by decide) rfl (fun ls hl => ?_)
          refine lv_iconst (v := 0) C.1.1 C.1.2.1 dX19_arrive_147 (by decide) ?_
          refine lv_istore (lv' := [(6, .int 0), (5, .int r20), (4, .int r12), (0, .ref (ad 732)), (3, .int v3)]) C.1.1 C.1.2.1 dX19_arrive_148 hl (by decide) rfl (fun ls hl => ?_)
          exact hh150 fu v3 r20 0 M18 L19 _ _ ls hD hw (lv_sub hl [3, 4, 1, 0] rfl)
        · replace hD := g_pos c16 hD
          exact mr_vret C hr hlocks hw (Option.some.inj hD) dX19_arrive_127
      · replace hD := g_neg c9 hD
        refine lv_aload_n C.1.1 C.1.2.1 dX19_arrive_64 rfl (lv_at hl 0 rfl) ?_
        refine mr_getR C hw kc_19 92 (by decide) tf_732 ff_732_92 wd_2873 dX19_arrive_65 (by decide) rfl ?_
        refine lv_iload C.1.1 C.1.2.1 dX19_arrive_68 (lv_at hl 2 rfl) ?_
        refine lv_aload_n C.1.1 C.1.2.1 dX19_arrive_70 rfl (lv_at hl 0 rfl) ?_
        refine mr_getR C hw kc_19 92 (by decide) tf_732 ff_732_92 wd_2873 dX19_arrive_71 (by decide) rfl ?_
        refine lv_iload C.1.1 C.1.2.1 dX19_arrive_74 (lv_at hl 2 rfl) ?_
        refine lv_iconst (v := 1) C.1.1 C.1.2.1 dX19_arrive_76 (by decide) ?_
        refine lv_iadd C.1.1 C.1.2.1 dX19_arrive_77 ?_
        obtain ⟨q21, hD⟩ := g_ck hD
        refine mr_iald C hw (by decide) tf_929 q21 dX19_arrive_78 ?_
        obtain ⟨q22, hD⟩ := g_ck hD
        obtain ⟨M23, eM23, hD⟩ := g_let hD
        refine mr_iast C hw (by decide) tf_929 q22 dX19_arrive_79 (fun H locs hw => ?_)
        replace hw : mw_W G ad NF TF FF M23 L H locs := by rw [eM23]; exact hw
        refine lv_aload_n C.1.1 C.1.2.1 dX19_arrive_80 rfl (lv_at hl 0 rfl) ?_
        refine mr_getR C hw kc_19 93 (by decide) tf_732 ff_732_93 wd_2874 dX19_arrive_81 (by decide) rfl ?_
        refine lv_iload C.1.1 C.1.2.1 dX19_arrive_84 (lv_at hl 2 rfl) ?_
        refine lv_aload_n C.1.1 C.1.2.1 dX19_arrive_86 rfl (lv_at hl 0 rfl) ?_
        refine mr_getR C hw kc_19 93 (by decide) tf_732 ff_732_93 wd_2874 dX19_arrive_87 (by decide) rfl ?_
        refine lv_iload C.1.1 C.1.2.1 dX19_arrive_90 (lv_at hl 2 rfl) ?_
        refine lv_iconst (v := 1) C.1.1 C.1.2.1 dX19_arrive_92 (by decide) ?_
        refine lv_iadd C.1.1 C.1.2.1 dX19_arrive_93 ?_
        obtain ⟨q24, hD⟩ := g_ck hD
        refine mr_iald C hw (by decide) tf_930 q24 dX19_arrive_94 ?_
        obtain ⟨q25, hD⟩ := g_ck hD
        obtain ⟨M26, eM26, hD⟩ := g_let hD
        refine mr_iast C hw (by decide) tf_930 q25 dX19_arrive_95 (fun H locs hw => ?_)
        replace hw : mw_W G ad NF TF FF M26 L H locs := by rw [eM26]; exact hw
        obtain ⟨x27, ex27, hD⟩ := g_let hD
        refine lv_iinc (v := x27) (lv' := [(4, .int x27), (0, .ref (ad 732)), (3, .int v3)]) C.1.1 C.1.2.1 dX19_arrive_96 hl (k := 2) rfl (by rw [ex27]; rfl) (by decide) rfl (fun ls hl => ?_)
        refine lv_goto (tgt := 55) C.1.1 C.1.2.1 dX19_arrive_99 (by decide) ?_
        exact ih55 v3 x27 M26 L _ _ ls hD hw (lv_sub hl [1, 2, 0] rfl)
  have hb26 : ∀ (v2 : Int32) (M : mwM) (L : mwL) (H : Heap) (locs : List Loc) (ls : Array Slot), fX19_arrive_b26 fu a1 v2 M L = some (M0, L0) → mw_W G ad NF TF FF M L H locs → lv_has ls 8 [(0, .ref (ad 732)), (2, .int v2)] → W p l e ({ frames := 7, cells := 0, slots := 0, locals := 176 }) s m [.ref (ad 732), .int a1].toArray below meth c H locs 0 0 (MQ below (mw_Qv G ad NF TF FF (mw_eqV M0 L0)) [.ref (ad 732), .int a1].toArray s 0 0 (mw_fr G)) (F0 m 26 ls []) := by
    intro v2 M L H locs ls hD hw hl
    unfold fX19_arrive_b26 at hD
    refine lv_iload_n C.1.1 C.1.2.1 dX19_arrive_26 rfl (lv_at hl 1 rfl) ?_
    refine lv_aload_n C.1.1 C.1.2.1 dX19_arrive_27 rfl (lv_at hl 0 rfl) ?_
    refine mr_getI C hw kc_19 91 (by decide) tf_732 wd_2872 dX19_arrive_28 (by decide) rfl ?_
    refine lv_icmp_ne (tgt := 35) C.1.1 C.1.2.1 dX19_arrive_31 (by decide) (fun c5 => ?_) (fun c5 => ?_)
    · replace hD := g_neg c5 hD
      refine lv_aload_n C.1.1 C.1.2.1 dX19_arrive_35 rfl (lv_at hl 0 rfl) ?_
      refine mr_getR C hw kc_19 92 (by decide) tf_732 ff_732_92 wd_2873 dX19_arrive_36 (by decide) rfl ?_
      refine lv_iload_n C.1.1 C.1.2.1 dX19_arrive_39 rfl (lv_at hl 1 rfl) ?_
      obtain ⟨q6, hD⟩ := g_ck hD
      refine mr_iald C hw (by decide) tf_929 q6 dX19_arrive_40 ?_
      obtain ⟨x7, ex7, hD⟩ := g_let hD
      refine W.eq (g2 := F0 m 41 ls (.int x7 :: [])) (by rw [ex7]) ?_
      refine lv_istore_n (lv' := [(3, .int x7), (0, .ref (ad 732)), (2, .int v2)]) C.1.1 C.1.2.1 dX19_arrive_41 rfl hl (by decide) rfl (fun ls hl => ?_)
      refine lv_aload_n C.1.1 C.1.2.1 dX19_arrive_42 rfl (lv_at hl 1 rfl) ?_
      refine lv_dup C.1.1 C.1.2.1 dX19_arrive_43 rfl ?_
      refine mr_getI C hw kc_19 91 (by decide) tf_732 wd_2872 dX19_arrive_44 (by decide) rfl ?_
      refine lv_iconst (v := 1) C.1.1 C.1.2.1 dX19_arrive_47 (by decide) ?_
      refine lv_isub C.1.1 C.1.2.1 dX19_arrive_48 ?_
      obtain ⟨M8, eM8, hD⟩ := g_let hD
      refine mr_putI C hw kc_19 91 (by decide) tf_732 wd_2872 dX19_arrive_49 (by decide) rfl rfl rfl rfl (fun H locs hw => ?_)
      replace hw : mw_W G ad NF TF FF M8 L H locs := by rw [eM8]; exact hw
      refine lv_iload_n C.1.1 C.1.2.1 dX19_arrive_52 rfl (lv_at hl 2 rfl) ?_
      refine lv_istore (lv' := [(4, .int v2), (3, .int x7), (0, .ref (ad 732)), (2, .int v2)]) C.1.1 C.1.2.1 dX19_arrive_53 hl (by decide) rfl (fun ls hl => ?_)
      exact hh55 fu x7 v2 M8 L _ _ ls hD hw (lv_sub hl [2, 1, 0] rfl)
    · replace hD := g_pos c5 hD
      exact mr_vret C hr hlocks hw (Option.some.inj hD) dX19_arrive_34
  have hh2 : ∀ (f : Nat) (v2 : Int32) (M : mwM) (L : mwL) (H : Heap) (locs : List Loc) (ls : Array Slot), fX19_arrive_h2 fu a1 f (v2, M, L) = some (M0, L0) → mw_W G ad NF TF FF M L H locs → lv_has ls 8 [(0, .ref (ad 732)), (1, .int a1), (2, .int v2)] → W p l e ({ frames := 7, cells := 0, slots := 0, locals := 176 }) s m [.ref (ad 732), .int a1].toArray below meth c H locs 0 0 (MQ below (mw_Qv G ad NF TF FF (mw_eqV M0 L0)) [.ref (ad 732), .int a1].toArray s 0 0 (mw_fr G)) (F0 m 2 ls []) := by
    intro f
    induction f with
    | zero => intro v2 M L H locs ls hD; cases hD
    | succ f2 ih2 =>
      intro v2 M L H locs ls hD hw hl
      replace hD : fX19_arrive_i2 fu a1 (fX19_arrive_h2 fu a1 f2) v2 M L = some (M0, L0) := hD
      unfold fX19_arrive_i2 at hD
      refine lv_iload_n C.1.1 C.1.2.1 dX19_arrive_2 rfl (lv_at hl 2 rfl) ?_
      refine lv_aload_n C.1.1 C.1.2.1 dX19_arrive_3 rfl (lv_at hl 0 rfl) ?_
      refine mr_getI C hw kc_19 91 (by decide) tf_732 wd_2872 dX19_arrive_4 (by decide) rfl ?_
      refine lv_icmp_ge (tgt := 26) C.1.1 C.1.2.1 dX19_arrive_7 (by decide) (fun c1 => ?_) (fun c1 => ?_)
      · replace hD := g_pos c1 hD
        exact hb26 v2 M L _ _ ls hD hw (lv_sub hl [0, 2] rfl)
      · replace hD := g_neg c1 hD
        refine lv_aload_n C.1.1 C.1.2.1 dX19_arrive_10 rfl (lv_at hl 0 rfl) ?_
        refine mr_getR C hw kc_19 93 (by decide) tf_732 ff_732_93 wd_2874 dX19_arrive_11 (by decide) rfl ?_
        refine lv_iload_n C.1.1 C.1.2.1 dX19_arrive_14 rfl (lv_at hl 2 rfl) ?_
        obtain ⟨q2, hD⟩ := g_ck hD
        refine mr_iald C hw (by decide) tf_930 q2 dX19_arrive_15 ?_
        refine lv_iload_n C.1.1 C.1.2.1 dX19_arrive_16 rfl (lv_at hl 1 rfl) ?_
        refine lv_icmp_eq (tgt := 26) C.1.1 C.1.2.1 dX19_arrive_17 (by decide) (fun c3 => ?_) (fun c3 => ?_)
        · replace hD := g_pos c3 hD
          exact hb26 v2 M L _ _ ls hD hw (lv_sub hl [0, 2] rfl)
        · replace hD := g_neg c3 hD
          obtain ⟨x4, ex4, hD⟩ := g_let hD
          refine lv_iinc (v := x4) (lv' := [(2, .int x4), (0, .ref (ad 732)), (1, .int a1)]) C.1.1 C.1.2.1 dX19_arrive_20 hl (k := 2) rfl (by rw [ex4]; rfl) (by decide) rfl (fun ls hl => ?_)
          refine lv_goto (tgt := 2) C.1.1 C.1.2.1 dX19_arrive_23 (by decide) ?_
          exact ih2 x4 M L _ _ ls hD hw (lv_sub hl [1, 2, 0] rfl)
  unfold DX19_arrive at hD
  refine lv_iconst (v := 0) C.1.1 C.1.2.1 dX19_arrive_0 (by decide) ?_
  refine lv_istore_n (lv' := [(2, .int 0), (0, .ref (ad 732)), (1, .int a1)]) C.1.1 C.1.2.1 dX19_arrive_1 rfl hl (by decide) rfl (fun ls hl => ?_)
  exact hh2 fu 0 M L _ _ ls hD hw (lv_sub hl [1, 2, 0] rfl)

theorem dX19_lookAt_0 : decode cX19_lookAt 0 = .ok (.aload_n 0, 1) := by decide +kernel
theorem dX19_lookAt_1 : decode cX19_lookAt 1 = .ok (.getfield 184, 3) := by decide +kernel
theorem dX19_lookAt_4 : decode cX19_lookAt 4 = .ok (.iload_n 1, 1) := by decide +kernel
theorem dX19_lookAt_5 : decode cX19_lookAt 5 = .ok (.iconst (-1), 1) := by decide +kernel
theorem dX19_lookAt_6 : decode cX19_lookAt 6 = .ok (.iconst 0, 1) := by decide +kernel
theorem dX19_lookAt_7 : decode cX19_lookAt 7 = .ok (.invokevirtual 682, 3) := by decide +kernel
theorem dX19_lookAt_10 : decode cX19_lookAt 10 = .ok (.istore_n 2, 1) := by decide +kernel
theorem dX19_lookAt_11 : decode cX19_lookAt 11 = .ok (.aload_n 0, 1) := by decide +kernel
theorem dX19_lookAt_12 : decode cX19_lookAt 12 = .ok (.getfield 224, 3) := by decide +kernel
theorem dX19_lookAt_15 : decode cX19_lookAt 15 = .ok (.iload_n 1, 1) := by decide +kernel
theorem dX19_lookAt_16 : decode cX19_lookAt 16 = .ok (.iaload, 1) := by decide +kernel
theorem dX19_lookAt_17 : decode cX19_lookAt 17 = .ok (.iload_n 2, 1) := by decide +kernel
theorem dX19_lookAt_18 : decode cX19_lookAt 18 = .ok (.if_icmp .ge 199, 3) := by decide +kernel
theorem dX19_lookAt_21 : decode cX19_lookAt 21 = .ok (.aload_n 0, 1) := by decide +kernel
theorem dX19_lookAt_22 : decode cX19_lookAt 22 = .ok (.getfield 224, 3) := by decide +kernel
theorem dX19_lookAt_25 : decode cX19_lookAt 25 = .ok (.iload_n 1, 1) := by decide +kernel
theorem dX19_lookAt_26 : decode cX19_lookAt 26 = .ok (.iaload, 1) := by decide +kernel
theorem dX19_lookAt_27 : decode cX19_lookAt 27 = .ok (.istore_n 3, 1) := by decide +kernel
theorem dX19_lookAt_28 : decode cX19_lookAt 28 = .ok (.aload_n 0, 1) := by decide +kernel
theorem dX19_lookAt_29 : decode cX19_lookAt 29 = .ok (.getfield 224, 3) := by decide +kernel
theorem dX19_lookAt_32 : decode cX19_lookAt 32 = .ok (.iload_n 1, 1) := by decide +kernel
theorem dX19_lookAt_33 : decode cX19_lookAt 33 = .ok (.dup2, 1) := by decide +kernel
theorem dX19_lookAt_34 : decode cX19_lookAt 34 = .ok (.iaload, 1) := by decide +kernel
theorem dX19_lookAt_35 : decode cX19_lookAt 35 = .ok (.iconst 1, 1) := by decide +kernel
theorem dX19_lookAt_36 : decode cX19_lookAt 36 = .ok (.iadd, 1) := by decide +kernel
theorem dX19_lookAt_37 : decode cX19_lookAt 37 = .ok (.iastore, 1) := by decide +kernel
theorem dX19_lookAt_38 : decode cX19_lookAt 38 = .ok (.aload_n 0, 1) := by decide +kernel
theorem dX19_lookAt_39 : decode cX19_lookAt 39 = .ok (.getfield 184, 3) := by decide +kernel
theorem dX19_lookAt_42 : decode cX19_lookAt 42 = .ok (.iload_n 1, 1) := by decide +kernel
theorem dX19_lookAt_43 : decode cX19_lookAt 43 = .ok (.iload_n 3, 1) := by decide +kernel
theorem dX19_lookAt_44 : decode cX19_lookAt 44 = .ok (.iconst 0, 1) := by decide +kernel
theorem dX19_lookAt_45 : decode cX19_lookAt 45 = .ok (.invokevirtual 682, 3) := by decide +kernel
theorem dX19_lookAt_48 : decode cX19_lookAt 48 = .ok (.istore 4, 2) := by decide +kernel
theorem dX19_lookAt_50 : decode cX19_lookAt 50 = .ok (.aload_n 0, 1) := by decide +kernel
theorem dX19_lookAt_51 : decode cX19_lookAt 51 = .ok (.getfield 184, 3) := by decide +kernel
theorem dX19_lookAt_54 : decode cX19_lookAt 54 = .ok (.iload_n 1, 1) := by decide +kernel
theorem dX19_lookAt_55 : decode cX19_lookAt 55 = .ok (.iload_n 3, 1) := by decide +kernel
theorem dX19_lookAt_56 : decode cX19_lookAt 56 = .ok (.iconst 1, 1) := by decide +kernel
theorem dX19_lookAt_57 : decode cX19_lookAt 57 = .ok (.invokevirtual 682, 3) := by decide +kernel
theorem dX19_lookAt_60 : decode cX19_lookAt 60 = .ok (.ifCond .ne (-49), 3) := by decide +kernel
theorem dX19_lookAt_63 : decode cX19_lookAt 63 = .ok (.aload_n 0, 1) := by decide +kernel
theorem dX19_lookAt_64 : decode cX19_lookAt 64 = .ok (.getfield 184, 3) := by decide +kernel
theorem dX19_lookAt_67 : decode cX19_lookAt 67 = .ok (.iload_n 1, 1) := by decide +kernel
theorem dX19_lookAt_68 : decode cX19_lookAt 68 = .ok (.iload_n 3, 1) := by decide +kernel
theorem dX19_lookAt_69 : decode cX19_lookAt 69 = .ok (.iconst 3, 1) := by decide +kernel
theorem dX19_lookAt_70 : decode cX19_lookAt 70 = .ok (.invokevirtual 682, 3) := by decide +kernel
theorem dX19_lookAt_73 : decode cX19_lookAt 73 = .ok (.bipush 8, 2) := by decide +kernel
theorem dX19_lookAt_75 : decode cX19_lookAt 75 = .ok (.if_icmp .eq 6, 3) := by decide +kernel
theorem dX19_lookAt_78 : decode cX19_lookAt 78 = .ok (.goto (-67), 3) := by decide +kernel
theorem dX19_lookAt_81 : decode cX19_lookAt 81 = .ok (.iconst 0, 1) := by decide +kernel
theorem dX19_lookAt_82 : decode cX19_lookAt 82 = .ok (.istore 5, 2) := by decide +kernel
theorem dX19_lookAt_84 : decode cX19_lookAt 84 = .ok (.iload 5, 2) := by decide +kernel
theorem dX19_lookAt_86 : decode cX19_lookAt 86 = .ok (.bipush 8, 2) := by decide +kernel
theorem dX19_lookAt_88 : decode cX19_lookAt 88 = .ok (.if_icmp .ge 27, 3) := by decide +kernel
theorem dX19_lookAt_91 : decode cX19_lookAt 91 = .ok (.aload_n 0, 1) := by decide +kernel
theorem dX19_lookAt_92 : decode cX19_lookAt 92 = .ok (.getfield 230, 3) := by decide +kernel
theorem dX19_lookAt_95 : decode cX19_lookAt 95 = .ok (.iload 5, 2) := by decide +kernel
theorem dX19_lookAt_97 : decode cX19_lookAt 97 = .ok (.aload_n 0, 1) := by decide +kernel
theorem dX19_lookAt_98 : decode cX19_lookAt 98 = .ok (.getfield 184, 3) := by decide +kernel
theorem dX19_lookAt_101 : decode cX19_lookAt 101 = .ok (.iload_n 1, 1) := by decide +kernel
theorem dX19_lookAt_102 : decode cX19_lookAt 102 = .ok (.iload_n 3, 1) := by decide +kernel
theorem dX19_lookAt_103 : decode cX19_lookAt 103 = .ok (.iload 5, 2) := by decide +kernel
theorem dX19_lookAt_105 : decode cX19_lookAt 105 = .ok (.invokevirtual 685, 3) := by decide +kernel
theorem dX19_lookAt_108 : decode cX19_lookAt 108 = .ok (.iastore, 1) := by decide +kernel
theorem dX19_lookAt_109 : decode cX19_lookAt 109 = .ok (.iinc 5 1, 3) := by decide +kernel
theorem dX19_lookAt_112 : decode cX19_lookAt 112 = .ok (.goto (-28), 3) := by decide +kernel
theorem dX19_lookAt_115 : decode cX19_lookAt 115 = .ok (.iload 4, 2) := by decide +kernel
theorem dX19_lookAt_117 : decode cX19_lookAt 117 = .ok (.sipush 1536, 3) := by decide +kernel
theorem dX19_lookAt_120 : decode cX19_lookAt 120 = .ok (.if_icmp .ge 57, 3) := by decide +kernel
theorem dX19_lookAt_123 : decode cX19_lookAt 123 = .ok (.iconst 0, 1) := by decide +kernel
theorem dX19_lookAt_124 : decode cX19_lookAt 124 = .ok (.istore 5, 2) := by decide +kernel
theorem dX19_lookAt_126 : decode cX19_lookAt 126 = .ok (.iload 5, 2) := by decide +kernel
theorem dX19_lookAt_128 : decode cX19_lookAt 128 = .ok (.aload_n 0, 1) := by decide +kernel
theorem dX19_lookAt_129 : decode cX19_lookAt 129 = .ok (.getfield 568, 3) := by decide +kernel
theorem dX19_lookAt_132 : decode cX19_lookAt 132 = .ok (.if_icmp .ge 42, 3) := by decide +kernel
theorem dX19_lookAt_135 : decode cX19_lookAt 135 = .ok (.iload_n 1, 1) := by decide +kernel
theorem dX19_lookAt_136 : decode cX19_lookAt 136 = .ok (.aload_n 0, 1) := by decide +kernel
theorem dX19_lookAt_137 : decode cX19_lookAt 137 = .ok (.getfield 435, 3) := by decide +kernel
theorem dX19_lookAt_140 : decode cX19_lookAt 140 = .ok (.if_icmp .ge 34, 3) := by decide +kernel
theorem dX19_lookAt_143 : decode cX19_lookAt 143 = .ok (.iload 4, 2) := by decide +kernel
theorem dX19_lookAt_145 : decode cX19_lookAt 145 = .ok (.bipush 64, 2) := by decide +kernel
theorem dX19_lookAt_147 : decode cX19_lookAt 147 = .ok (.bipush 8, 2) := by decide +kernel
theorem dX19_lookAt_149 : decode cX19_lookAt 149 = .ok (.aload_n 0, 1) := by decide +kernel
theorem dX19_lookAt_150 : decode cX19_lookAt 150 = .ok (.getfield 165, 3) := by decide +kernel
theorem dX19_lookAt_153 : decode cX19_lookAt 153 = .ok (.iload 5, 2) := by decide +kernel
theorem dX19_lookAt_155 : decode cX19_lookAt 155 = .ok (.iaload, 1) := by decide +kernel
theorem dX19_lookAt_156 : decode cX19_lookAt 156 = .ok (.imul, 1) := by decide +kernel
theorem dX19_lookAt_157 : decode cX19_lookAt 157 = .ok (.iadd, 1) := by decide +kernel
theorem dX19_lookAt_158 : decode cX19_lookAt 158 = .ok (.if_icmp .ne 10, 3) := by decide +kernel
theorem dX19_lookAt_161 : decode cX19_lookAt 161 = .ok (.aload_n 0, 1) := by decide +kernel
theorem dX19_lookAt_162 : decode cX19_lookAt 162 = .ok (.iload_n 1, 1) := by decide +kernel
theorem dX19_lookAt_163 : decode cX19_lookAt 163 = .ok (.iload 5, 2) := by decide +kernel
theorem dX19_lookAt_165 : decode cX19_lookAt 165 = .ok (.invokevirtual 688, 3) := by decide +kernel
theorem dX19_lookAt_168 : decode cX19_lookAt 168 = .ok (.iinc 5 1, 3) := by decide +kernel
theorem dX19_lookAt_171 : decode cX19_lookAt 171 = .ok (.goto (-45), 3) := by decide +kernel
theorem dX19_lookAt_174 : decode cX19_lookAt 174 = .ok (.goto 40, 3) := by decide +kernel
theorem dX19_lookAt_177 : decode cX19_lookAt 177 = .ok (.iload_n 1, 1) := by decide +kernel
theorem dX19_lookAt_178 : decode cX19_lookAt 178 = .ok (.aload_n 0, 1) := by decide +kernel
theorem dX19_lookAt_179 : decode cX19_lookAt 179 = .ok (.getfield 435, 3) := by decide +kernel
theorem dX19_lookAt_182 : decode cX19_lookAt 182 = .ok (.if_icmp .ne 14, 3) := by decide +kernel
theorem dX19_lookAt_185 : decode cX19_lookAt 185 = .ok (.iload 4, 2) := by decide +kernel
theorem dX19_lookAt_187 : decode cX19_lookAt 187 = .ok (.iconst 2, 1) := by decide +kernel
theorem dX19_lookAt_188 : decode cX19_lookAt 188 = .ok (.irem, 1) := by decide +kernel
theorem dX19_lookAt_189 : decode cX19_lookAt 189 = .ok (.iconst 1, 1) := by decide +kernel
theorem dX19_lookAt_190 : decode cX19_lookAt 190 = .ok (.if_icmp .ne 24, 3) := by decide +kernel
theorem dX19_lookAt_193 : decode cX19_lookAt 193 = .ok (.goto 15, 3) := by decide +kernel
theorem dX19_lookAt_196 : decode cX19_lookAt 196 = .ok (.iload 4, 2) := by decide +kernel
theorem dX19_lookAt_198 : decode cX19_lookAt 198 = .ok (.sipush 1536, 3) := by decide +kernel
theorem dX19_lookAt_201 : decode cX19_lookAt 201 = .ok (.iconst 2, 1) := by decide +kernel
theorem dX19_lookAt_202 : decode cX19_lookAt 202 = .ok (.iload_n 1, 1) := by decide +kernel
theorem dX19_lookAt_203 : decode cX19_lookAt 203 = .ok (.imul, 1) := by decide +kernel
theorem dX19_lookAt_204 : decode cX19_lookAt 204 = .ok (.iadd, 1) := by decide +kernel
theorem dX19_lookAt_205 : decode cX19_lookAt 205 = .ok (.if_icmp .ne 9, 3) := by decide +kernel
theorem dX19_lookAt_208 : decode cX19_lookAt 208 = .ok (.aload_n 0, 1) := by decide +kernel
theorem dX19_lookAt_209 : decode cX19_lookAt 209 = .ok (.iload 4, 2) := by decide +kernel
theorem dX19_lookAt_211 : decode cX19_lookAt 211 = .ok (.invokevirtual 692, 3) := by decide +kernel
theorem dX19_lookAt_214 : decode cX19_lookAt 214 = .ok (.goto (-203), 3) := by decide +kernel
theorem dX19_lookAt_217 : decode cX19_lookAt 217 = .ok (.return_, 1) := by decide +kernel
theorem cwX19_lookAt : mw_cwV yX19_lookAt cX19_lookAt 6 (none) 1 := ⟨⟨wd_13, wd_3857, by decide +kernel⟩, wd_3856, sl_277⟩
set_option maxHeartbeats 4000000 in
set_option maxRecDepth 100000 in
theorem tX19_lookAt (l : Launch) (G : mwG) (ad : Nat → Nat) (fu : Nat) (a1 : Int32) (M : mwM) (L : mwL) {M0 : mwM} {L0 : mwL} (hD : DX19_lookAt fu a1 M L = some (M0, L0)) : Met l yX19_lookAt (Cond.code yX19_lookAt cX19_lookAt 6 (none) :: GT) ({ frames := 8, cells := 0, slots := 0, locals := 204 }) (mw_Pre G ad NF TF FF M L [.ref (ad 732), .int a1]) (mw_Qv G ad NF TF FF (mw_eqV M0 L0)) 0 0 (mw_fr G) := by
  refine mw_enter (by decide) (Nat.le_of_ble_eq_true rfl) ?_
  intro p e s m below meth c ls C hr hlocks hnm hw hl
  have hl : lv_has ls 6 [(0, .ref (ad 732)), (1, .int a1)] := hl
  have hh11 : ∀ (f : Nat) (v2 : Int32) (M : mwM) (L : mwL) (H : Heap) (locs : List Loc) (ls : Array Slot), fX19_lookAt_h11 fu a1 f (v2, M, L) = some (M0, L0) → mw_W G ad NF TF FF M L H locs → lv_has ls 6 [(0, .ref (ad 732)), (1, .int a1), (2, .int v2)] → W p l e ({ frames := 8, cells := 0, slots := 0, locals := 204 }) s m [.ref (ad 732), .int a1].toArray below meth c H locs 0 0 (MQ below (mw_Qv G ad NF TF FF (mw_eqV M0 L0)) [.ref (ad 732), .int a1].toArray s 0 0 (mw_fr G)) (F0 m 11 ls []) := by
    intro f
    induction f with
    | zero => intro v2 M L H locs ls hD; cases hD
    | succ f11 ih11 =>
      intro v2 M L H locs ls hD hw hl
      replace hD : fX19_lookAt_i11 fu a1 (fX19_lookAt_h11 fu a1 f11) v2 M L = some (M0, L0) := hD
      have hb214 : ∀ (v2 : Int32) (M : mwM) (L : mwL) (H : Heap) (locs : List Loc) (ls : Array Slot), fX19_lookAt_b214 fu a1 (fX19_lookAt_h11 fu a1 f11) v2 M L = some (M0, L0) → mw_W G ad NF TF FF M L H locs → lv_has ls 6 [(0, .ref (ad 732)), (1, .int a1), (2, .int v2)] → W p l e ({ frames := 8, cells := 0, slots := 0, locals := 204 }) s m [.ref (ad 732), .int a1].toArray below meth c H locs 0 0 (MQ below (mw_Qv G ad NF TF FF (mw_eqV M0 L0)) [.ref (ad 732), .int a1].toArray s 0 0 (mw_fr G)) (F0 m 214 ls []) := by
        intro v2 M L H locs ls hD hw hl
        unfold fX19_lookAt_b214 at hD
        refine lv_goto (tgt := 11) C.1.1 C.1.2.1 dX19_lookAt_214 (by decide) ?_
        exact ih11 v2 M L _ _ ls hD hw (lv_sub hl [0, 1, 2] rfl)
      have hb208 : ∀ (v2 : Int32) (v4 : Int32) (M : mwM) (L : mwL) (H : Heap) (locs : List Loc) (ls : Array Slot), fX19_lookAt_b208 fu a1 (fX19_lookAt_h11 fu a1 f11) v2 v4 M L = some (M0, L0) → mw_W G ad NF TF FF M L H locs → lv_has ls 6 [(0, .ref (ad 732)), (1, .int a1), (2, .int v2), (4, .int v4)] → W p l e ({ frames := 8, cells := 0, slots := 0, locals := 204 }) s m [.ref (ad 732), .int a1].toArray below meth c H locs 0 0 (MQ below (mw_Qv G ad NF TF FF (mw_eqV M0 L0)) [.ref (ad 732), .int a1].toArray s 0 0 (mw_fr G)) (F0 m 208 ls []) := by
        intro v2 v4 M L H locs ls hD hw hl
        unfold fX19_lookAt_b208 at hD
        refine lv_aload_n C.1.1 C.1.2.1 dX19_lookAt_208 rfl (lv_at hl 0 rfl) ?_
        refine lv_iload C.1.1 C.1.2.1 dX19_lookAt_209 (lv_at hl 3 rfl) ?_
        obtain ⟨M38, L39, h1, hD⟩ := g_b2 hD
        refine md_cvV (As := [.int v4]) (rest := []) C hw (tX19_arrive l G ad fu v4 M L h1) kc_19 (by decide) tf_732 wd_3928 cwX19_arrive ⟨Nat.le_of_ble_eq_true rfl, Nat.le_of_ble_eq_true rfl⟩ rfl hl.1 (Nat.le_of_ble_eq_true rfl) dX19_lookAt_211 rfl rfl ⟨Nat.zero_le _, Nat.zero_le _⟩ rfl (fun H locs hw => ?_)
        exact hb214 v2 M38 L39 _ _ ls hD hw (lv_sub hl [0, 1, 2] rfl)
      have hb174 : ∀ (v2 : Int32) (M : mwM) (L : mwL) (H : Heap) (locs : List Loc) (ls : Array Slot), fX19_lookAt_b174 fu a1 (fX19_lookAt_h11 fu a1 f11) v2 M L = some (M0, L0) → mw_W G ad NF TF FF M L H locs → lv_has ls 6 [(0, .ref (ad 732)), (1, .int a1), (2, .int v2)] → W p l e ({ frames := 8, cells := 0, slots := 0, locals := 204 }) s m [.ref (ad 732), .int a1].toArray below meth c H locs 0 0 (MQ below (mw_Qv G ad NF TF FF (mw_eqV M0 L0)) [.ref (ad 732), .int a1].toArray s 0 0 (mw_fr G)) (F0 m 174 ls []) := by
        intro v2 M L H locs ls hD hw hl
        unfold fX19_lookAt_b174 at hD
        refine lv_goto (tgt := 214) C.1.1 C.1.2.1 dX19_lookAt_174 (by decide) ?_
        exact hb214 v2 M L _ _ ls hD hw (lv_sub hl [0, 1, 2] rfl)
      have hh126 : ∀ (f : Nat) (v2 : Int32) (v4 : Int32) (v5 : Int32) (M : mwM) (L : mwL) (H : Heap) (locs : List Loc) (ls : Array Slot), fX19_lookAt_h126 fu a1 (fX19_lookAt_h11 fu a1 f11) f (v2, v4, v5, M, L) = some (M0, L0) → mw_W G ad NF TF FF M L H locs → lv_has ls 6 [(0, .ref (ad 732)), (1, .int a1), (2, .int v2), (4, .int v4), (5, .int v5)] → W p l e ({ frames := 8, cells := 0, slots := 0, locals := 204 }) s m [.ref (ad 732), .int a1].toArray below meth c H locs 0 0 (MQ below (mw_Qv G ad NF TF FF (mw_eqV M0 L0)) [.ref (ad 732), .int a1].toArray s 0 0 (mw_fr G)) (F0 m 126 ls []) := by
        intro f
        induction f with
        | zero => intro v2 v4 v5 M L H locs ls hD; cases hD
        | succ f126 ih126 =>
          intro v2 v4 v5 M L H locs ls hD hw hl
          replace hD : fX19_lookAt_i126 fu a1 (fX19_lookAt_h11 fu a1 f11) (fX19_lookAt_h126 fu a1 (fX19_lookAt_h11 fu a1 f11) f126) v2 v4 v5 M L = some (M0, L0) := hD
          have hb168 : ∀ (v2 : Int32) (v4 : Int32) (v5 : Int32) (M : mwM) (L : mwL) (H : Heap) (locs : List Loc) (ls : Array Slot), fX19_lookAt_b168 fu a1 (fX19_lookAt_h11 fu a1 f11) (fX19_lookAt_h126 fu a1 (fX19_lookAt_h11 fu a1 f11) f126) v2 v4 v5 M L = some (M0, L0) → mw_W G ad NF TF FF M L H locs → lv_has ls 6 [(0, .ref (ad 732)), (1, .int a1), (2, .int v2), (4, .int v4), (5, .int v5)] → W p l e ({ frames := 8, cells := 0, slots := 0, locals := 204 }) s m [.ref (ad 732), .int a1].toArray below meth c H locs 0 0 (MQ below (mw_Qv G ad NF TF FF (mw_eqV M0 L0)) [.ref (ad 732), .int a1].toArray s 0 0 (mw_fr G)) (F0 m 168 ls []) := by
            intro v2 v4 v5 M L H locs ls hD hw hl
            unfold fX19_lookAt_b168 at hD
            obtain ⟨x37, ex37, hD⟩ := g_let hD
            refine lv_iinc (v := x37) (lv' := [(5, .int x37), (0, .ref (ad 732)), (1, .int a1), (2, .int v2), (4, .int v4)]) C.1.1 C.1.2.1 dX19_lookAt_168 hl (k := 4) rfl (by rw [ex37]; rfl) (by decide) rfl (fun ls hl => ?_)
            refine lv_goto (tgt := 126) C.1.1 C.1.2.1 dX19_lookAt_171 (by decide) ?_
            exact ih126 v2 v4 x37 M L _ _ ls hD hw (lv_sub hl [1, 2, 3, 4, 0] rfl)
          unfold fX19_lookAt_i126 at hD
          refine lv_iload C.1.1 C.1.2.1 dX19_lookAt_126 (lv_at hl 4 rfl) ?_
          refine lv_aload_n C.1.1 C.1.2.1 dX19_lookAt_128 rfl (lv_at hl 0 rfl) ?_
          refine mr_getI C hw kc_19 67 (by decide) tf_732 wd_2848 dX19_lookAt_129 (by decide) rfl ?_
          refine lv_icmp_ge (tgt := 174) C.1.1 C.1.2.1 dX19_lookAt_132 (by decide) (fun c31 => ?_) (fun c31 => ?_)
          · replace hD := g_pos c31 hD
            exact hb174 v2 M L _ _ ls hD hw (lv_sub hl [0, 1, 2] rfl)
          · replace hD := g_neg c31 hD
            refine lv_iload_n C.1.1 C.1.2.1 dX19_lookAt_135 rfl (lv_at hl 1 rfl) ?_
            refine lv_aload_n C.1.1 C.1.2.1 dX19_lookAt_136 rfl (lv_at hl 0 rfl) ?_
            refine mr_getI C hw kc_19 19 (by decide) tf_732 wd_2800 dX19_lookAt_137 (by decide) rfl ?_
            refine lv_icmp_ge (tgt := 174) C.1.1 C.1.2.1 dX19_lookAt_140 (by decide) (fun c32 => ?_) (fun c32 => ?_)
            · replace hD := g_pos c32 hD
              exact hb174 v2 M L _ _ ls hD hw (lv_sub hl [0, 1, 2] rfl)
            · replace hD := g_neg c32 hD
              refine lv_iload C.1.1 C.1.2.1 dX19_lookAt_143 (lv_at hl 3 rfl) ?_
              refine lv_bipush (v := 64) C.1.1 C.1.2.1 dX19_lookAt_145 (by decide) ?_
              refine lv_bipush (v := 8) C.1.1 C.1.2.1 dX19_lookAt_147 (by decide) ?_
              refine lv_aload_n C.1.1 C.1.2.1 dX19_lookAt_149 rfl (lv_at hl 0 rfl) ?_
              refine mr_getR C hw kc_19 73 (by decide) tf_732 ff_732_73 wd_2854 dX19_lookAt_150 (by decide) rfl ?_
              refine lv_iload C.1.1 C.1.2.1 dX19_lookAt_153 (lv_at hl 4 rfl) ?_
              obtain ⟨q33, hD⟩ := g_ck hD
              refine mr_iald C hw (by decide) tf_784 q33 dX19_lookAt_155 ?_
              refine lv_imul C.1.1 C.1.2.1 dX19_lookAt_156 ?_
              refine lv_iadd C.1.1 C.1.2.1 dX19_lookAt_157 ?_
              refine lv_icmp_ne (tgt := 168) C.1.1 C.1.2.1 dX19_lookAt_158 (by decide) (fun c34 => ?_) (fun c34 => ?_)
              · replace hD := g_neg c34 hD
                exact hb168 v2 v4 v5 M L _ _ ls hD hw (lv_sub hl [0, 1, 2, 3, 4] rfl)
              · replace hD := g_pos c34 hD
                refine lv_aload_n C.1.1 C.1.2.1 dX19_lookAt_161 rfl (lv_at hl 0 rfl) ?_
                refine lv_iload_n C.1.1 C.1.2.1 dX19_lookAt_162 rfl (lv_at hl 1 rfl) ?_
                refine lv_iload C.1.1 C.1.2.1 dX19_lookAt_163 (lv_at hl 4 rfl) ?_
                obtain ⟨M35, L36, h1, hD⟩ := g_b2 hD
                refine md_cvV (As := [.int a1, .int v5]) (rest := []) C hw (tX19_come l G ad fu a1 v5 M L h1) kc_19 (by decide) tf_732 wd_3870 cwX19_come ⟨Nat.le_of_ble_eq_true rfl, Nat.le_of_ble_eq_true rfl⟩ rfl hl.1 (Nat.le_of_ble_eq_true rfl) dX19_lookAt_165 rfl rfl ⟨Nat.zero_le _, Nat.zero_le _⟩ rfl (fun H locs hw => ?_)
                exact hb168 v2 v4 v5 M35 L36 _ _ ls hD hw (lv_sub hl [0, 1, 2, 3, 4] rfl)
      have hh84 : ∀ (f : Nat) (v2 : Int32) (v3 : Int32) (v4 : Int32) (v5 : Int32) (M : mwM) (L : mwL) (H : Heap) (locs : List Loc) (ls : Array Slot), fX19_lookAt_h84 fu a1 (fX19_lookAt_h11 fu a1 f11) f (v2, v3, v4, v5, M, L) = some (M0, L0) → mw_W G ad NF TF FF M L H locs → lv_has ls 6 [(0, .ref (ad 732)), (1, .int a1), (2, .int v2), (3, .int v3), (4, .int v4), (5, .int v5)] → W p l e ({ frames := 8, cells := 0, slots := 0, locals := 204 }) s m [.ref (ad 732), .int a1].toArray below meth c H locs 0 0 (MQ below (mw_Qv G ad NF TF FF (mw_eqV M0 L0)) [.ref (ad 732), .int a1].toArray s 0 0 (mw_fr G)) (F0 m 84 ls []) := by
        intro f
        induction f with
        | zero => intro v2 v3 v4 v5 M L H locs ls hD; cases hD
        | succ f84 ih84 =>
          intro v2 v3 v4 v5 M L H locs ls hD hw hl
          replace hD : fX19_lookAt_i84 fu a1 (fX19_lookAt_h11 fu a1 f11) (fX19_lookAt_h84 fu a1 (fX19_lookAt_h11 fu a1 f11) f84) v2 v3 v4 v5 M L = some (M0, L0) := hD
          unfold fX19_lookAt_i84 at hD
          refine lv_iload C.1.1 C.1.2.1 dX19_lookAt_84 (lv_at hl 5 rfl) ?_
          refine lv_bipush (v := 8) C.1.1 C.1.2.1 dX19_lookAt_86 (by decide) ?_
          refine lv_icmp_ge (tgt := 115) C.1.1 C.1.2.1 dX19_lookAt_88 (by decide) (fun c19 => ?_) (fun c19 => ?_)
          · replace hD := g_pos c19 hD
            refine lv_iload C.1.1 C.1.2.1 dX19_lookAt_115 (lv_at hl 4 rfl) ?_
            refine lv_sipush (v := 1536) C.1.1 C.1.2.1 dX19_lookAt_117 (by decide) ?_
            refine lv_icmp_ge (tgt := 177) C.1.1 C.1.2.1 dX19_lookAt_120 (by decide) (fun c20 => ?_) (fun c20 => ?_)
            · replace hD := g_pos c20 hD
              refine lv_iload_n C.1.1 C.1.2.1 dX19_lookAt_177 rfl (lv_at hl 1 rfl) ?_
              refine lv_aload_n C.1.1 C.1.2.1 dX19_lookAt_178 rfl (lv_at hl 0 rfl) ?_
              refine mr_getI C hw kc_19 19 (by decide) tf_732 wd_2800 dX19_lookAt_179 (by decide) rfl ?_
              refine lv_icmp_ne (tgt := 196) C.1.1 C.1.2.1 dX19_lookAt_182 (by decide) (fun c21 => ?_) (fun c21 => ?_)
              · replace hD := g_neg c21 hD
                refine lv_iload C.1.1 C.1.2.1 dX19_lookAt_196 (lv_at hl 4 rfl) ?_
                refine lv_sipush (v := 1536) C.1.1 C.1.2.1 dX19_lookAt_198 (by decide) ?_
                refine lv_iconst (v := 2) C.1.1 C.1.2.1 dX19_lookAt_201 (by decide) ?_
                refine lv_iload_n C.1.1 C.1.2.1 dX19_lookAt_202 rfl (lv_at hl 1 rfl) ?_
                refine lv_imul C.1.1 C.1.2.1 dX19_lookAt_203 ?_
                refine lv_iadd C.1.1 C.1.2.1 dX19_lookAt_204 ?_
                refine lv_icmp_ne (tgt := 214) C.1.1 C.1.2.1 dX19_lookAt_205 (by decide) (fun c22 => ?_) (fun c22 => ?_)
                · replace hD := g_neg c22 hD
                  exact hb214 v2 M L _ _ ls hD hw (lv_sub hl [0, 1, 2] rfl)
                · replace hD := g_pos c22 hD
                  exact hb208 v2 v4 M L _ _ ls hD hw (lv_sub hl [0, 1, 2, 4] rfl)
              · replace hD := g_pos c21 hD
                refine lv_iload C.1.1 C.1.2.1 dX19_lookAt_185 (lv_at hl 4 rfl) ?_
                refine lv_iconst (v := 2) C.1.1 C.1.2.1 dX19_lookAt_187 (by decide) ?_
                refine lv_irem C.1.1 C.1.2.1 dX19_lookAt_188 (by decide) ?_
                refine lv_iconst (v := 1) C.1.1 C.1.2.1 dX19_lookAt_189 (by decide) ?_
                refine lv_icmp_ne (tgt := 214) C.1.1 C.1.2.1 dX19_lookAt_190 (by decide) (fun c24 => ?_) (fun c24 => ?_)
                · replace hD := g_neg c24 hD
                  exact hb214 v2 M L _ _ ls hD hw (lv_sub hl [0, 1, 2] rfl)
                · replace hD := g_pos c24 hD
                  refine lv_goto (tgt := 208) C.1.1 C.1.2.1 dX19_lookAt_193 (by decide) ?_
                  exact hb208 v2 v4 M L _ _ ls hD hw (lv_sub hl [0, 1, 2, 4] rfl)
            · replace hD := g_neg c20 hD
              refine lv_iconst (v := 0) C.1.1 C.1.2.1 dX19_lookAt_123 (by decide) ?_
              refine lv_istore (lv' := [(5, .int 0), (0, .ref (ad 732)), (1, .int a1), (2, .int v2), (3, .int v3), (4, .int v4)]) C.1.1 C.1.2.1 dX19_lookAt_124 hl (by decide) rfl (fun ls hl => ?_)
              exact hh126 fu v2 v4 0 M L _ _ ls hD hw (lv_sub hl [1, 2, 3, 5, 0] rfl)
          · replace hD := g_neg c19 hD
            refine lv_aload_n C.1.1 C.1.2.1 dX19_lookAt_91 rfl (lv_at hl 0 rfl) ?_
            refine mr_getR C hw kc_19 87 (by decide) tf_732 ff_732_87 wd_2868 dX19_lookAt_92 (by decide) rfl ?_
            refine lv_iload C.1.1 C.1.2.1 dX19_lookAt_95 (lv_at hl 5 rfl) ?_
            refine lv_aload_n C.1.1 C.1.2.1 dX19_lookAt_97 rfl (lv_at hl 0 rfl) ?_
            refine mr_getR C hw kc_19 77 (by decide) tf_732 ff_732_77 wd_2858 dX19_lookAt_98 (by decide) rfl ?_
            refine lv_iload_n C.1.1 C.1.2.1 dX19_lookAt_101 rfl (lv_at hl 1 rfl) ?_
            refine lv_iload_n C.1.1 C.1.2.1 dX19_lookAt_102 rfl (lv_at hl 3 rfl) ?_
            refine lv_iload C.1.1 C.1.2.1 dX19_lookAt_103 (lv_at hl 5 rfl) ?_
            obtain ⟨r27, M25, L26, h1, hD⟩ := g_b3 hD
            refine md_cvI (As := [.int a1, .int v3, .int v5]) (rest := [.int v5, .ref (ad 926)]) C hw (tX12_takenOctet l G ad fu a1 v3 v5 M L h1) kc_12 (by decide) tf_821 wd_3866 cwX12_takenOctet ⟨Nat.le_of_ble_eq_true rfl, Nat.le_of_ble_eq_true rfl⟩ rfl hl.1 (Nat.le_of_ble_eq_true rfl) dX19_lookAt_105 rfl rfl ⟨Nat.zero_le _, Nat.zero_le _⟩ rfl (fun H locs hw => ?_)
            obtain ⟨q28, hD⟩ := g_ck hD
            obtain ⟨M29, eM29, hD⟩ := g_let hD
            refine mr_iast C hw (by decide) tf_926 q28 dX19_lookAt_108 (fun H locs hw => ?_)
            replace hw : mw_W G ad NF TF FF M29 L26 H locs := by rw [eM29]; exact hw
            obtain ⟨x30, ex30, hD⟩ := g_let hD
            refine lv_iinc (v := x30) (lv' := [(5, .int x30), (0, .ref (ad 732)), (1, .int a1), (2, .int v2), (3, .int v3), (4, .int v4)]) C.1.1 C.1.2.1 dX19_lookAt_109 hl (k := 5) rfl (by rw [ex30]; rfl) (by decide) rfl (fun ls hl => ?_)
            refine lv_goto (tgt := 84) C.1.1 C.1.2.1 dX19_lookAt_112 (by decide) ?_
            exact ih84 v2 v3 v4 x30 M29 L26 _ _ ls hD hw (lv_sub hl [1, 2, 3, 4, 5, 0] rfl)
      unfold fX19_lookAt_i11 at hD
      refine lv_aload_n C.1.1 C.1.2.1 dX19_lookAt_11 rfl (lv_at hl 0 rfl) ?_
      refine mr_getR C hw kc_19 85 (by decide) tf_732 ff_732_85 wd_2866 dX19_lookAt_12 (by decide) rfl ?_
      refine lv_iload_n C.1.1 C.1.2.1 dX19_lookAt_15 rfl (lv_at hl 1 rfl) ?_
      obtain ⟨q1, hD⟩ := g_ck hD
      refine mr_iald C hw (by decide) tf_924 q1 dX19_lookAt_16 ?_
      refine lv_iload_n C.1.1 C.1.2.1 dX19_lookAt_17 rfl (lv_at hl 2 rfl) ?_
      refine lv_icmp_ge (tgt := 217) C.1.1 C.1.2.1 dX19_lookAt_18 (by decide) (fun c2 => ?_) (fun c2 => ?_)
      · replace hD := g_pos c2 hD
        exact mr_vret C hr hlocks hw (Option.some.inj hD) dX19_lookAt_217
      · replace hD := g_neg c2 hD
        refine lv_aload_n C.1.1 C.1.2.1 dX19_lookAt_21 rfl (lv_at hl 0 rfl) ?_
        refine mr_getR C hw kc_19 85 (by decide) tf_732 ff_732_85 wd_2866 dX19_lookAt_22 (by decide) rfl ?_
        refine lv_iload_n C.1.1 C.1.2.1 dX19_lookAt_25 rfl (lv_at hl 1 rfl) ?_
        obtain ⟨q3, hD⟩ := g_ck hD
        refine mr_iald C hw (by decide) tf_924 q3 dX19_lookAt_26 ?_
        obtain ⟨x4, ex4, hD⟩ := g_let hD
        refine W.eq (g2 := F0 m 27 ls (.int x4 :: [])) (by rw [ex4]) ?_
        refine lv_istore_n (lv' := [(3, .int x4), (0, .ref (ad 732)), (1, .int a1), (2, .int v2)]) C.1.1 C.1.2.1 dX19_lookAt_27 rfl hl (by decide) rfl (fun ls hl => ?_)
        refine lv_aload_n C.1.1 C.1.2.1 dX19_lookAt_28 rfl (lv_at hl 1 rfl) ?_
        refine mr_getR C hw kc_19 85 (by decide) tf_732 ff_732_85 wd_2866 dX19_lookAt_29 (by decide) rfl ?_
        refine lv_iload_n C.1.1 C.1.2.1 dX19_lookAt_32 rfl (lv_at hl 2 rfl) ?_
        refine lv_dup2_11 C.1.1 C.1.2.1 dX19_lookAt_33 rfl rfl ?_
        obtain ⟨q5, hD⟩ := g_ck hD
        refine mr_iald C hw (by decide) tf_924 q5 dX19_lookAt_34 ?_
        refine lv_iconst (v := 1) C.1.1 C.1.2.1 dX19_lookAt_35 (by decide) ?_
        refine lv_iadd C.1.1 C.1.2.1 dX19_lookAt_36 ?_
        obtain ⟨q6, hD⟩ := g_ck hD
        obtain ⟨M7, eM7, hD⟩ := g_let hD
        refine mr_iast C hw (by decide) tf_924 q6 dX19_lookAt_37 (fun H locs hw => ?_)
        replace hw : mw_W G ad NF TF FF M7 L H locs := by rw [eM7]; exact hw
        refine lv_aload_n C.1.1 C.1.2.1 dX19_lookAt_38 rfl (lv_at hl 1 rfl) ?_
        refine mr_getR C hw kc_19 77 (by decide) tf_732 ff_732_77 wd_2858 dX19_lookAt_39 (by decide) rfl ?_
        refine lv_iload_n C.1.1 C.1.2.1 dX19_lookAt_42 rfl (lv_at hl 2 rfl) ?_
        refine lv_iload_n C.1.1 C.1.2.1 dX19_lookAt_43 rfl (lv_at hl 0 rfl) ?_
        refine lv_iconst (v := 0) C.1.1 C.1.2.1 dX19_lookAt_44 (by decide) ?_
        obtain ⟨r10, M8, L9, h1, hD⟩ := g_b3 hD
        refine md_cvI (As := [.int a1, .int x4, .int 0]) (rest := []) C hw (tX12_taken l G ad fu a1 x4 0 M7 L h1) kc_12 (by decide) tf_821 wd_3858 cwX12_taken ⟨Nat.le_of_ble_eq_true rfl, Nat.le_of_ble_eq_true rfl⟩ rfl hl.1 (Nat.le_of_ble_eq_true rfl) dX19_lookAt_45 rfl rfl ⟨Nat.zero_le _, Nat.zero_le _⟩ rfl (fun H locs hw => ?_)
        refine lv_istore (lv' := [(4, .int r10), (3, .int x4), (0, .ref (ad 732)), (1, .int a1), (2, .int v2)]) C.1.1 C.1.2.1 dX19_lookAt_48 hl (by decide) rfl (fun ls hl => ?_)
        refine lv_aload_n C.1.1 C.1.2.1 dX19_lookAt_50 rfl (lv_at hl 2 rfl) ?_
        refine mr_getR C hw kc_19 77 (by decide) tf_732 ff_732_77 wd_2858 dX19_lookAt_51 (by decide) rfl ?_
        refine lv_iload_n C.1.1 C.1.2.1 dX19_lookAt_54 rfl (lv_at hl 3 rfl) ?_
        refine lv_iload_n C.1.1 C.1.2.1 dX19_lookAt_55 rfl (lv_at hl 1 rfl) ?_
        refine lv_iconst (v := 1) C.1.1 C.1.2.1 dX19_lookAt_56 (by decide) ?_
        obtain ⟨r13, M11, L12, h1, hD⟩ := g_b3 hD
        refine md_cvI (As := [.int a1, .int x4, .int 1]) (rest := []) C hw (tX12_taken l G ad fu a1 x4 1 M8 L9 h1) kc_12 (by decide) tf_821 wd_3858 cwX12_taken ⟨Nat.le_of_ble_eq_true rfl, Nat.le_of_ble_eq_true rfl⟩ rfl hl.1 (Nat.le_of_ble_eq_true rfl) dX19_lookAt_57 rfl rfl ⟨Nat.zero_le _, Nat.zero_le _⟩ rfl (fun H locs hw => ?_)
        refine lv_if_ne (tgt := 11) C.1.1 C.1.2.1 dX19_lookAt_60 (by decide) (fun c14 => ?_) (fun c14 => ?_)
        · replace hD := g_neg c14 hD
          exact ih11 v2 M11 L12 _ _ ls hD hw (lv_sub hl [2, 3, 4] rfl)
        · replace hD := g_pos c14 hD
          refine lv_aload_n C.1.1 C.1.2.1 dX19_lookAt_63 rfl (lv_at hl 2 rfl) ?_
          refine mr_getR C hw kc_19 77 (by decide) tf_732 ff_732_77 wd_2858 dX19_lookAt_64 (by decide) rfl ?_
          refine lv_iload_n C.1.1 C.1.2.1 dX19_lookAt_67 rfl (lv_at hl 3 rfl) ?_
          refine lv_iload_n C.1.1 C.1.2.1 dX19_lookAt_68 rfl (lv_at hl 1 rfl) ?_
          refine lv_iconst (v := 3) C.1.1 C.1.2.1 dX19_lookAt_69 (by decide) ?_
          obtain ⟨r17, M15, L16, h1, hD⟩ := g_b3 hD
          refine md_cvI (As := [.int a1, .int x4, .int 3]) (rest := []) C hw (tX12_taken l G ad fu a1 x4 3 M11 L12 h1) kc_12 (by decide) tf_821 wd_3858 cwX12_taken ⟨Nat.le_of_ble_eq_true rfl, Nat.le_of_ble_eq_true rfl⟩ rfl hl.1 (Nat.le_of_ble_eq_true rfl) dX19_lookAt_70 rfl rfl ⟨Nat.zero_le _, Nat.zero_le _⟩ rfl (fun H locs hw => ?_)
          refine lv_bipush (v := 8) C.1.1 C.1.2.1 dX19_lookAt_73 (by decide) ?_
          refine lv_icmp_eq (tgt := 81) C.1.1 C.1.2.1 dX19_lookAt_75 (by decide) (fun c18 => ?_) (fun c18 => ?_)
          · replace hD := g_pos c18 hD
            refine lv_iconst (v := 0) C.1.1 C.1.2.1 dX19_lookAt_81 (by decide) ?_
            refine lv_istore (lv' := [(5, .int 0), (4, .int r10), (3, .int x4), (0, .ref (ad 732)), (1, .int a1), (2, .int v2)]) C.1.1 C.1.2.1 dX19_lookAt_82 hl (by decide) rfl (fun ls hl => ?_)
            exact hh84 fu v2 x4 r10 0 M15 L16 _ _ ls hD hw (lv_sub hl [3, 4, 5, 2, 1, 0] rfl)
          · replace hD := g_neg c18 hD
            refine lv_goto (tgt := 11) C.1.1 C.1.2.1 dX19_lookAt_78 (by decide) ?_
            exact ih11 v2 M15 L16 _ _ ls hD hw (lv_sub hl [2, 3, 4] rfl)
  unfold DX19_lookAt at hD
  refine lv_aload_n C.1.1 C.1.2.1 dX19_lookAt_0 rfl (lv_at hl 0 rfl) ?_
  refine mr_getR C hw kc_19 77 (by decide) tf_732 ff_732_77 wd_2858 dX19_lookAt_1 (by decide) rfl ?_
  refine lv_iload_n C.1.1 C.1.2.1 dX19_lookAt_4 rfl (lv_at hl 1 rfl) ?_
  refine lv_iconst (v := (-1)) C.1.1 C.1.2.1 dX19_lookAt_5 (by decide) ?_
  refine lv_iconst (v := 0) C.1.1 C.1.2.1 dX19_lookAt_6 (by decide) ?_
  obtain ⟨r42, M40, L41, h1, hD⟩ := g_b3 hD
  refine md_cvI (As := [.int a1, .int ((-1)), .int 0]) (rest := []) C hw (tX12_taken l G ad fu a1 ((-1)) 0 M L h1) kc_12 (by decide) tf_821 wd_3858 cwX12_taken ⟨Nat.le_of_ble_eq_true rfl, Nat.le_of_ble_eq_true rfl⟩ rfl hl.1 (Nat.le_of_ble_eq_true rfl) dX19_lookAt_7 rfl rfl ⟨Nat.zero_le _, Nat.zero_le _⟩ rfl (fun H locs hw => ?_)
  refine lv_istore_n (lv' := [(2, .int r42), (0, .ref (ad 732)), (1, .int a1)]) C.1.1 C.1.2.1 dX19_lookAt_10 rfl hl (by decide) rfl (fun ls hl => ?_)
  exact hh11 fu r42 M40 L41 _ _ ls hD hw (lv_sub hl [1, 2, 0] rfl)

theorem dX19_transferred_0 : decode cX19_transferred 0 = .ok (.aload_n 0, 1) := by decide +kernel
theorem dX19_transferred_1 : decode cX19_transferred 1 = .ok (.getfield 198, 3) := by decide +kernel
theorem dX19_transferred_4 : decode cX19_transferred 4 = .ok (.aload_n 0, 1) := by decide +kernel
theorem dX19_transferred_5 : decode cX19_transferred 5 = .ok (.getfield 600, 3) := by decide +kernel
theorem dX19_transferred_8 : decode cX19_transferred 8 = .ok (.i2l, 1) := by decide +kernel
theorem dX19_transferred_9 : decode cX19_transferred 9 = .ok (.invokevirtual 738, 3) := by decide +kernel
theorem dX19_transferred_12 : decode cX19_transferred 12 = .ok (.istore_n 1, 1) := by decide +kernel
theorem dX19_transferred_13 : decode cX19_transferred 13 = .ok (.aload_n 0, 1) := by decide +kernel
theorem dX19_transferred_14 : decode cX19_transferred 14 = .ok (.getfield 198, 3) := by decide +kernel
theorem dX19_transferred_17 : decode cX19_transferred 17 = .ok (.iconst 0, 1) := by decide +kernel
theorem dX19_transferred_18 : decode cX19_transferred 18 = .ok (.iconst 0, 1) := by decide +kernel
theorem dX19_transferred_19 : decode cX19_transferred 19 = .ok (.invokevirtual 720, 3) := by decide +kernel
theorem dX19_transferred_22 : decode cX19_transferred 22 = .ok (.istore_n 2, 1) := by decide +kernel
theorem dX19_transferred_23 : decode cX19_transferred 23 = .ok (.aload_n 0, 1) := by decide +kernel
theorem dX19_transferred_24 : decode cX19_transferred 24 = .ok (.getfield 609, 3) := by decide +kernel
theorem dX19_transferred_27 : decode cX19_transferred 27 = .ok (.iload_n 2, 1) := by decide +kernel
theorem dX19_transferred_28 : decode cX19_transferred 28 = .ok (.if_icmp .ge 262, 3) := by decide +kernel
theorem dX19_transferred_31 : decode cX19_transferred 31 = .ok (.aload_n 0, 1) := by decide +kernel
theorem dX19_transferred_32 : decode cX19_transferred 32 = .ok (.dup, 1) := by decide +kernel
theorem dX19_transferred_33 : decode cX19_transferred 33 = .ok (.getfield 609, 3) := by decide +kernel
theorem dX19_transferred_36 : decode cX19_transferred 36 = .ok (.iconst 1, 1) := by decide +kernel
theorem dX19_transferred_37 : decode cX19_transferred 37 = .ok (.iadd, 1) := by decide +kernel
theorem dX19_transferred_38 : decode cX19_transferred 38 = .ok (.putfield 609, 3) := by decide +kernel
theorem dX19_transferred_41 : decode cX19_transferred 41 = .ok (.aload_n 0, 1) := by decide +kernel
theorem dX19_transferred_42 : decode cX19_transferred 42 = .ok (.getfield 198, 3) := by decide +kernel
theorem dX19_transferred_45 : decode cX19_transferred 45 = .ok (.aload_n 0, 1) := by decide +kernel
theorem dX19_transferred_46 : decode cX19_transferred 46 = .ok (.getfield 609, 3) := by decide +kernel
theorem dX19_transferred_49 : decode cX19_transferred 49 = .ok (.iconst 0, 1) := by decide +kernel
theorem dX19_transferred_50 : decode cX19_transferred 50 = .ok (.invokevirtual 720, 3) := by decide +kernel
theorem dX19_transferred_53 : decode cX19_transferred 53 = .ok (.istore_n 3, 1) := by decide +kernel
theorem dX19_transferred_54 : decode cX19_transferred 54 = .ok (.aload_n 0, 1) := by decide +kernel
theorem dX19_transferred_55 : decode cX19_transferred 55 = .ok (.getfield 198, 3) := by decide +kernel
theorem dX19_transferred_58 : decode cX19_transferred 58 = .ok (.aload_n 0, 1) := by decide +kernel
theorem dX19_transferred_59 : decode cX19_transferred 59 = .ok (.getfield 609, 3) := by decide +kernel
theorem dX19_transferred_62 : decode cX19_transferred 62 = .ok (.iconst 1, 1) := by decide +kernel
theorem dX19_transferred_63 : decode cX19_transferred 63 = .ok (.invokevirtual 720, 3) := by decide +kernel
theorem dX19_transferred_66 : decode cX19_transferred 66 = .ok (.istore 4, 2) := by decide +kernel
theorem dX19_transferred_68 : decode cX19_transferred 68 = .ok (.aload_n 0, 1) := by decide +kernel
theorem dX19_transferred_69 : decode cX19_transferred 69 = .ok (.getfield 230, 3) := by decide +kernel
theorem dX19_transferred_72 : decode cX19_transferred 72 = .ok (.iconst 0, 1) := by decide +kernel
theorem dX19_transferred_73 : decode cX19_transferred 73 = .ok (.iload_n 3, 1) := by decide +kernel
theorem dX19_transferred_74 : decode cX19_transferred 74 = .ok (.bipush 16, 2) := by decide +kernel
theorem dX19_transferred_76 : decode cX19_transferred 76 = .ok (.imul, 1) := by decide +kernel
theorem dX19_transferred_77 : decode cX19_transferred 77 = .ok (.aload_n 0, 1) := by decide +kernel
theorem dX19_transferred_78 : decode cX19_transferred 78 = .ok (.getfield 198, 3) := by decide +kernel
theorem dX19_transferred_81 : decode cX19_transferred 81 = .ok (.aload_n 0, 1) := by decide +kernel
theorem dX19_transferred_82 : decode cX19_transferred 82 = .ok (.getfield 609, 3) := by decide +kernel
theorem dX19_transferred_85 : decode cX19_transferred 85 = .ok (.iconst 2, 1) := by decide +kernel
theorem dX19_transferred_86 : decode cX19_transferred 86 = .ok (.invokevirtual 720, 3) := by decide +kernel
theorem dX19_transferred_89 : decode cX19_transferred 89 = .ok (.bipush 16, 2) := by decide +kernel
theorem dX19_transferred_91 : decode cX19_transferred 91 = .ok (.irem, 1) := by decide +kernel
theorem dX19_transferred_92 : decode cX19_transferred 92 = .ok (.iadd, 1) := by decide +kernel
theorem dX19_transferred_93 : decode cX19_transferred 93 = .ok (.iastore, 1) := by decide +kernel
theorem dX19_transferred_94 : decode cX19_transferred 94 = .ok (.iconst 1, 1) := by decide +kernel
theorem dX19_transferred_95 : decode cX19_transferred 95 = .ok (.istore 5, 2) := by decide +kernel
theorem dX19_transferred_97 : decode cX19_transferred 97 = .ok (.iload 5, 2) := by decide +kernel
theorem dX19_transferred_99 : decode cX19_transferred 99 = .ok (.bipush 8, 2) := by decide +kernel
theorem dX19_transferred_101 : decode cX19_transferred 101 = .ok (.if_icmp .ge 83, 3) := by decide +kernel
theorem dX19_transferred_104 : decode cX19_transferred 104 = .ok (.aload_n 0, 1) := by decide +kernel
theorem dX19_transferred_105 : decode cX19_transferred 105 = .ok (.getfield 230, 3) := by decide +kernel
theorem dX19_transferred_108 : decode cX19_transferred 108 = .ok (.iload 5, 2) := by decide +kernel
theorem dX19_transferred_110 : decode cX19_transferred 110 = .ok (.iload_n 3, 1) := by decide +kernel
theorem dX19_transferred_111 : decode cX19_transferred 111 = .ok (.iconst 3, 1) := by decide +kernel
theorem dX19_transferred_112 : decode cX19_transferred 112 = .ok (.if_icmp .ne 49, 3) := by decide +kernel
theorem dX19_transferred_115 : decode cX19_transferred 115 = .ok (.iload 5, 2) := by decide +kernel
theorem dX19_transferred_117 : decode cX19_transferred 117 = .ok (.iconst 1, 1) := by decide +kernel
theorem dX19_transferred_118 : decode cX19_transferred 118 = .ok (.if_icmp .ne 18, 3) := by decide +kernel
theorem dX19_transferred_121 : decode cX19_transferred 121 = .ok (.aload_n 0, 1) := by decide +kernel
theorem dX19_transferred_122 : decode cX19_transferred 122 = .ok (.getfield 198, 3) := by decide +kernel
theorem dX19_transferred_125 : decode cX19_transferred 125 = .ok (.aload_n 0, 1) := by decide +kernel
theorem dX19_transferred_126 : decode cX19_transferred 126 = .ok (.getfield 609, 3) := by decide +kernel
theorem dX19_transferred_129 : decode cX19_transferred 129 = .ok (.iconst 3, 1) := by decide +kernel
theorem dX19_transferred_130 : decode cX19_transferred 130 = .ok (.invokevirtual 720, 3) := by decide +kernel
theorem dX19_transferred_133 : decode cX19_transferred 133 = .ok (.goto 44, 3) := by decide +kernel
theorem dX19_transferred_136 : decode cX19_transferred 136 = .ok (.iload 5, 2) := by decide +kernel
theorem dX19_transferred_138 : decode cX19_transferred 138 = .ok (.iconst 2, 1) := by decide +kernel
theorem dX19_transferred_139 : decode cX19_transferred 139 = .ok (.if_icmp .ne 18, 3) := by decide +kernel
theorem dX19_transferred_142 : decode cX19_transferred 142 = .ok (.aload_n 0, 1) := by decide +kernel
theorem dX19_transferred_143 : decode cX19_transferred 143 = .ok (.getfield 198, 3) := by decide +kernel
theorem dX19_transferred_146 : decode cX19_transferred 146 = .ok (.aload_n 0, 1) := by decide +kernel
theorem dX19_transferred_147 : decode cX19_transferred 147 = .ok (.getfield 609, 3) := by decide +kernel
theorem dX19_transferred_150 : decode cX19_transferred 150 = .ok (.iconst 5, 1) := by decide +kernel
theorem dX19_transferred_151 : decode cX19_transferred 151 = .ok (.invokevirtual 720, 3) := by decide +kernel
theorem dX19_transferred_154 : decode cX19_transferred 154 = .ok (.goto 23, 3) := by decide +kernel
theorem dX19_transferred_157 : decode cX19_transferred 157 = .ok (.iconst 0, 1) := by decide +kernel
theorem dX19_transferred_158 : decode cX19_transferred 158 = .ok (.goto 19, 3) := by decide +kernel
theorem dX19_transferred_161 : decode cX19_transferred 161 = .ok (.aload_n 0, 1) := by decide +kernel
theorem dX19_transferred_162 : decode cX19_transferred 162 = .ok (.getfield 198, 3) := by decide +kernel
theorem dX19_transferred_165 : decode cX19_transferred 165 = .ok (.aload_n 0, 1) := by decide +kernel
theorem dX19_transferred_166 : decode cX19_transferred 166 = .ok (.getfield 609, 3) := by decide +kernel
theorem dX19_transferred_169 : decode cX19_transferred 169 = .ok (.bipush 7, 2) := by decide +kernel
theorem dX19_transferred_171 : decode cX19_transferred 171 = .ok (.iload 5, 2) := by decide +kernel
theorem dX19_transferred_173 : decode cX19_transferred 173 = .ok (.iadd, 1) := by decide +kernel
theorem dX19_transferred_174 : decode cX19_transferred 174 = .ok (.invokevirtual 720, 3) := by decide +kernel
theorem dX19_transferred_177 : decode cX19_transferred 177 = .ok (.iastore, 1) := by decide +kernel
theorem dX19_transferred_178 : decode cX19_transferred 178 = .ok (.iinc 5 1, 3) := by decide +kernel
theorem dX19_transferred_181 : decode cX19_transferred 181 = .ok (.goto (-84), 3) := by decide +kernel
theorem dX19_transferred_184 : decode cX19_transferred 184 = .ok (.iload_n 3, 1) := by decide +kernel
theorem dX19_transferred_185 : decode cX19_transferred 185 = .ok (.iconst 3, 1) := by decide +kernel
theorem dX19_transferred_186 : decode cX19_transferred 186 = .ok (.if_icmp .ne 21, 3) := by decide +kernel
theorem dX19_transferred_189 : decode cX19_transferred 189 = .ok (.aload_n 0, 1) := by decide +kernel
theorem dX19_transferred_190 : decode cX19_transferred 190 = .ok (.getfield 236, 3) := by decide +kernel
theorem dX19_transferred_193 : decode cX19_transferred 193 = .ok (.iload 4, 2) := by decide +kernel
theorem dX19_transferred_195 : decode cX19_transferred 195 = .ok (.baload, 1) := by decide +kernel
theorem dX19_transferred_196 : decode cX19_transferred 196 = .ok (.ifCond .ne 7, 3) := by decide +kernel
theorem dX19_transferred_199 : decode cX19_transferred 199 = .ok (.iconst 1, 1) := by decide +kernel
theorem dX19_transferred_200 : decode cX19_transferred 200 = .ok (.goto 14, 3) := by decide +kernel
theorem dX19_transferred_203 : decode cX19_transferred 203 = .ok (.iconst 0, 1) := by decide +kernel
theorem dX19_transferred_204 : decode cX19_transferred 204 = .ok (.goto 10, 3) := by decide +kernel
theorem dX19_transferred_207 : decode cX19_transferred 207 = .ok (.aload_n 0, 1) := by decide +kernel
theorem dX19_transferred_208 : decode cX19_transferred 208 = .ok (.getfield 236, 3) := by decide +kernel
theorem dX19_transferred_211 : decode cX19_transferred 211 = .ok (.iload 4, 2) := by decide +kernel
theorem dX19_transferred_213 : decode cX19_transferred 213 = .ok (.baload, 1) := by decide +kernel
theorem dX19_transferred_214 : decode cX19_transferred 214 = .ok (.istore 5, 2) := by decide +kernel
theorem dX19_transferred_216 : decode cX19_transferred 216 = .ok (.iload 5, 2) := by decide +kernel
theorem dX19_transferred_218 : decode cX19_transferred 218 = .ok (.ifCond .eq 10, 3) := by decide +kernel
theorem dX19_transferred_221 : decode cX19_transferred 221 = .ok (.aload_n 0, 1) := by decide +kernel
theorem dX19_transferred_222 : decode cX19_transferred 222 = .ok (.getfield 435, 3) := by decide +kernel
theorem dX19_transferred_225 : decode cX19_transferred 225 = .ok (.goto 10, 3) := by decide +kernel
theorem dX19_transferred_228 : decode cX19_transferred 228 = .ok (.aload_n 0, 1) := by decide +kernel
theorem dX19_transferred_229 : decode cX19_transferred 229 = .ok (.getfield 233, 3) := by decide +kernel
theorem dX19_transferred_232 : decode cX19_transferred 232 = .ok (.iload 4, 2) := by decide +kernel
theorem dX19_transferred_234 : decode cX19_transferred 234 = .ok (.iaload, 1) := by decide +kernel
theorem dX19_transferred_235 : decode cX19_transferred 235 = .ok (.istore 6, 2) := by decide +kernel
theorem dX19_transferred_237 : decode cX19_transferred 237 = .ok (.aload_n 0, 1) := by decide +kernel
theorem dX19_transferred_238 : decode cX19_transferred 238 = .ok (.iload 6, 2) := by decide +kernel
theorem dX19_transferred_240 : decode cX19_transferred 240 = .ok (.sipush 1536, 3) := by decide +kernel
theorem dX19_transferred_243 : decode cX19_transferred 243 = .ok (.iconst 2, 1) := by decide +kernel
theorem dX19_transferred_244 : decode cX19_transferred 244 = .ok (.aload_n 0, 1) := by decide +kernel
theorem dX19_transferred_245 : decode cX19_transferred 245 = .ok (.getfield 233, 3) := by decide +kernel
theorem dX19_transferred_248 : decode cX19_transferred 248 = .ok (.iload 4, 2) := by decide +kernel
theorem dX19_transferred_250 : decode cX19_transferred 250 = .ok (.iaload, 1) := by decide +kernel
theorem dX19_transferred_251 : decode cX19_transferred 251 = .ok (.imul, 1) := by decide +kernel
theorem dX19_transferred_252 : decode cX19_transferred 252 = .ok (.iadd, 1) := by decide +kernel
theorem dX19_transferred_253 : decode cX19_transferred 253 = .ok (.iload 5, 2) := by decide +kernel
theorem dX19_transferred_255 : decode cX19_transferred 255 = .ok (.ifCond .eq 7, 3) := by decide +kernel
theorem dX19_transferred_258 : decode cX19_transferred 258 = .ok (.iconst 0, 1) := by decide +kernel
theorem dX19_transferred_259 : decode cX19_transferred 259 = .ok (.goto 4, 3) := by decide +kernel
theorem dX19_transferred_262 : decode cX19_transferred 262 = .ok (.iconst 1, 1) := by decide +kernel
theorem dX19_transferred_263 : decode cX19_transferred 263 = .ok (.iadd, 1) := by decide +kernel
theorem dX19_transferred_264 : decode cX19_transferred 264 = .ok (.aload_n 0, 1) := by decide +kernel
theorem dX19_transferred_265 : decode cX19_transferred 265 = .ok (.getfield 609, 3) := by decide +kernel
theorem dX19_transferred_268 : decode cX19_transferred 268 = .ok (.invokevirtual 679, 3) := by decide +kernel
theorem dX19_transferred_271 : decode cX19_transferred 271 = .ok (.ifCond .ne 16, 3) := by decide +kernel
theorem dX19_transferred_274 : decode cX19_transferred 274 = .ok (.aload_n 0, 1) := by decide +kernel
theorem dX19_transferred_275 : decode cX19_transferred 275 = .ok (.getfield 198, 3) := by decide +kernel
theorem dX19_transferred_278 : decode cX19_transferred 278 = .ok (.aload_n 0, 1) := by decide +kernel
theorem dX19_transferred_279 : decode cX19_transferred 279 = .ok (.getfield 609, 3) := by decide +kernel
theorem dX19_transferred_282 : decode cX19_transferred 282 = .ok (.invokevirtual 741, 3) := by decide +kernel
theorem dX19_transferred_285 : decode cX19_transferred 285 = .ok (.istore 7, 2) := by decide +kernel
theorem dX19_transferred_287 : decode cX19_transferred 287 = .ok (.goto (-264), 3) := by decide +kernel
theorem dX19_transferred_290 : decode cX19_transferred 290 = .ok (.iconst 0, 1) := by decide +kernel
theorem dX19_transferred_291 : decode cX19_transferred 291 = .ok (.istore_n 3, 1) := by decide +kernel
theorem dX19_transferred_292 : decode cX19_transferred 292 = .ok (.iconst 1, 1) := by decide +kernel
theorem dX19_transferred_293 : decode cX19_transferred 293 = .ok (.istore 4, 2) := by decide +kernel
theorem dX19_transferred_295 : decode cX19_transferred 295 = .ok (.iload 4, 2) := by decide +kernel
theorem dX19_transferred_297 : decode cX19_transferred 297 = .ok (.bipush 8, 2) := by decide +kernel
theorem dX19_transferred_299 : decode cX19_transferred 299 = .ok (.if_icmp .ge 21, 3) := by decide +kernel
theorem dX19_transferred_302 : decode cX19_transferred 302 = .ok (.iload_n 3, 1) := by decide +kernel
theorem dX19_transferred_303 : decode cX19_transferred 303 = .ok (.aload_n 0, 1) := by decide +kernel
theorem dX19_transferred_304 : decode cX19_transferred 304 = .ok (.getfield 198, 3) := by decide +kernel
theorem dX19_transferred_307 : decode cX19_transferred 307 = .ok (.iload 4, 2) := by decide +kernel
theorem dX19_transferred_309 : decode cX19_transferred 309 = .ok (.invokevirtual 713, 3) := by decide +kernel
theorem dX19_transferred_312 : decode cX19_transferred 312 = .ok (.iadd, 1) := by decide +kernel
theorem dX19_transferred_313 : decode cX19_transferred 313 = .ok (.istore_n 3, 1) := by decide +kernel
theorem dX19_transferred_314 : decode cX19_transferred 314 = .ok (.iinc 4 1, 3) := by decide +kernel
theorem dX19_transferred_317 : decode cX19_transferred 317 = .ok (.goto (-22), 3) := by decide +kernel
theorem dX19_transferred_320 : decode cX19_transferred 320 = .ok (.iload_n 3, 1) := by decide +kernel
theorem dX19_transferred_321 : decode cX19_transferred 321 = .ok (.aload_n 0, 1) := by decide +kernel
theorem dX19_transferred_322 : decode cX19_transferred 322 = .ok (.getfield 615, 3) := by decide +kernel
theorem dX19_transferred_325 : decode cX19_transferred 325 = .ok (.if_icmp .le 25, 3) := by decide +kernel
theorem dX19_transferred_328 : decode cX19_transferred 328 = .ok (.aload_n 0, 1) := by decide +kernel
theorem dX19_transferred_329 : decode cX19_transferred 329 = .ok (.getfield 245, 3) := by decide +kernel
theorem dX19_transferred_332 : decode cX19_transferred 332 = .ok (.ifCond .lt 18, 3) := by decide +kernel
theorem dX19_transferred_335 : decode cX19_transferred 335 = .ok (.aload_n 0, 1) := by decide +kernel
theorem dX19_transferred_336 : decode cX19_transferred 336 = .ok (.getfield 273, 3) := by decide +kernel
theorem dX19_transferred_339 : decode cX19_transferred 339 = .ok (.iconst 4, 1) := by decide +kernel
theorem dX19_transferred_340 : decode cX19_transferred 340 = .ok (.dup2, 1) := by decide +kernel
theorem dX19_transferred_341 : decode cX19_transferred 341 = .ok (.iaload, 1) := by decide +kernel
theorem dX19_transferred_342 : decode cX19_transferred 342 = .ok (.iconst 1, 1) := by decide +kernel
theorem dX19_transferred_343 : decode cX19_transferred 343 = .ok (.iadd, 1) := by decide +kernel
theorem dX19_transferred_344 : decode cX19_transferred 344 = .ok (.iastore, 1) := by decide +kernel
theorem dX19_transferred_345 : decode cX19_transferred 345 = .ok (.aload_n 0, 1) := by decide +kernel
theorem dX19_transferred_346 : decode cX19_transferred 346 = .ok (.iconst (-1), 1) := by decide +kernel
theorem dX19_transferred_347 : decode cX19_transferred 347 = .ok (.putfield 245, 3) := by decide +kernel
theorem dX19_transferred_350 : decode cX19_transferred 350 = .ok (.aload_n 0, 1) := by decide +kernel
theorem dX19_transferred_351 : decode cX19_transferred 351 = .ok (.iload_n 3, 1) := by decide +kernel
theorem dX19_transferred_352 : decode cX19_transferred 352 = .ok (.putfield 615, 3) := by decide +kernel
theorem dX19_transferred_355 : decode cX19_transferred 355 = .ok (.return_, 1) := by decide +kernel
theorem cwX19_transferred : mw_cwV yX19_transferred cX19_transferred 8 (none) 0 := ⟨⟨wd_13, wd_4150, by decide +kernel⟩, wd_4149, sl_333⟩
set_option maxHeartbeats 4000000 in
set_option maxRecDepth 100000 in
theorem tX19_transferred (l : Launch) (G : mwG) (ad : Nat → Nat) (fu : Nat) (M : mwM) (L : mwL) {M0 : mwM} {L0 : mwL} (hD : DX19_transferred fu M L = some (M0, L0)) : Met l yX19_transferred (Cond.code yX19_transferred cX19_transferred 8 (none) :: GT) ({ frames := 4, cells := 0, slots := 0, locals := 95 }) (mw_Pre G ad NF TF FF M L [.ref (ad 732)]) (mw_Qv G ad NF TF FF (mw_eqV M0 L0)) 0 0 (mw_fr G) := by
  refine mw_enter (by decide) (Nat.le_of_ble_eq_true rfl) ?_
  intro p e s m below meth c ls C hr hlocks hnm hw hl
  have hl : lv_has ls 8 [(0, .ref (ad 732))] := hl
  have hb350 : ∀ (v3 : Int32) (M : mwM) (L : mwL) (H : Heap) (locs : List Loc) (ls : Array Slot), fX19_transferred_b350 fu v3 M L = some (M0, L0) → mw_W G ad NF TF FF M L H locs → lv_has ls 8 [(0, .ref (ad 732)), (3, .int v3)] → W p l e ({ frames := 4, cells := 0, slots := 0, locals := 95 }) s m [.ref (ad 732)].toArray below meth c H locs 0 0 (MQ below (mw_Qv G ad NF TF FF (mw_eqV M0 L0)) [.ref (ad 732)].toArray s 0 0 (mw_fr G)) (F0 m 350 ls []) := by
    intro v3 M L H locs ls hD hw hl
    unfold fX19_transferred_b350 at hD
    refine lv_aload_n C.1.1 C.1.2.1 dX19_transferred_350 rfl (lv_at hl 0 rfl) ?_
    refine lv_iload_n C.1.1 C.1.2.1 dX19_transferred_351 rfl (lv_at hl 1 rfl) ?_
    obtain ⟨M59, eM59, hD⟩ := g_let hD
    refine mr_putI C hw kc_19 96 (by decide) tf_732 wd_2877 dX19_transferred_352 (by decide) rfl rfl rfl rfl (fun H locs hw => ?_)
    replace hw : mw_W G ad NF TF FF M59 L H locs := by rw [eM59]; exact hw
    exact mr_vret C hr hlocks hw (Option.some.inj hD) dX19_transferred_355
  have hh295 : ∀ (f : Nat) (v3 : Int32) (v4 : Int32) (M : mwM) (L : mwL) (H : Heap) (locs : List Loc) (ls : Array Slot), fX19_transferred_h295 fu f (v3, v4, M, L) = some (M0, L0) → mw_W G ad NF TF FF M L H locs → lv_has ls 8 [(0, .ref (ad 732)), (3, .int v3), (4, .int v4)] → W p l e ({ frames := 4, cells := 0, slots := 0, locals := 95 }) s m [.ref (ad 732)].toArray below meth c H locs 0 0 (MQ below (mw_Qv G ad NF TF FF (mw_eqV M0 L0)) [.ref (ad 732)].toArray s 0 0 (mw_fr G)) (F0 m 295 ls []) := by
    intro f
    induction f with
    | zero => intro v3 v4 M L H locs ls hD; cases hD
    | succ f295 ih295 =>
      intro v3 v4 M L H locs ls hD hw hl
      replace hD : fX19_transferred_i295 fu (fX19_transferred_h295 fu f295) v3 v4 M L = some (M0, L0) := hD
      unfold fX19_transferred_i295 at hD
      refine lv_iload C.1.1 C.1.2.1 dX19_transferred_295 (lv_at hl 2 rfl) ?_
      refine lv_bipush (v := 8) C.1.1 C.1.2.1 dX19_transferred_297 (by decide) ?_
      refine lv_icmp_ge (tgt := 320) C.1.1 C.1.2.1 dX19_transferred_299 (by decide) (fun c47 => ?_) (fun c47 => ?_)
      · replace hD := g_pos c47 hD
        refine lv_iload_n C.1.1 C.1.2.1 dX19_transferred_320 rfl (lv_at hl 1 rfl) ?_
        refine lv_aload_n C.1.1 C.1.2.1 dX19_transferred_321 rfl (lv_at hl 0 rfl) ?_
        refine mr_getI C hw kc_19 96 (by decide) tf_732 wd_2877 dX19_transferred_322 (by decide) rfl ?_
        refine lv_icmp_le (tgt := 350) C.1.1 C.1.2.1 dX19_transferred_325 (by decide) (fun c48 => ?_) (fun c48 => ?_)
        · replace hD := g_pos c48 hD
          exact hb350 v3 M L _ _ ls hD hw (lv_sub hl [0, 1] rfl)
        · replace hD := g_neg c48 hD
          refine lv_aload_n C.1.1 C.1.2.1 dX19_transferred_328 rfl (lv_at hl 0 rfl) ?_
          refine mr_getI C hw kc_19 97 (by decide) tf_732 wd_2878 dX19_transferred_329 (by decide) rfl ?_
          refine lv_if_lt (tgt := 350) C.1.1 C.1.2.1 dX19_transferred_332 (by decide) (fun c49 => ?_) (fun c49 => ?_)
          · replace hD := g_pos c49 hD
            exact hb350 v3 M L _ _ ls hD hw (lv_sub hl [0, 1] rfl)
          · replace hD := g_neg c49 hD
            refine lv_aload_n C.1.1 C.1.2.1 dX19_transferred_335 rfl (lv_at hl 0 rfl) ?_
            refine mr_getR C hw kc_19 109 (by decide) tf_732 ff_732_109 wd_2890 dX19_transferred_336 (by decide) rfl ?_
            refine lv_iconst (v := 4) C.1.1 C.1.2.1 dX19_transferred_339 (by decide) ?_
            refine lv_dup2_11 C.1.1 C.1.2.1 dX19_transferred_340 rfl rfl ?_
            refine mr_iald C hw (by decide) tf_939 (show vp_in 4 5 from by unfold vp_in; decide) dX19_transferred_341 ?_
            refine lv_iconst (v := 1) C.1.1 C.1.2.1 dX19_transferred_342 (by decide) ?_
            refine lv_iadd C.1.1 C.1.2.1 dX19_transferred_343 ?_
            obtain ⟨M52, eM52, hD⟩ := g_let hD
            refine mr_iast C hw (by decide) tf_939 (show vp_in 4 5 from by unfold vp_in; decide) dX19_transferred_344 (fun H locs hw => ?_)
            replace hw : mw_W G ad NF TF FF M52 L H locs := by rw [eM52]; exact hw
            refine lv_aload_n C.1.1 C.1.2.1 dX19_transferred_345 rfl (lv_at hl 0 rfl) ?_
            refine lv_iconst (v := (-1)) C.1.1 C.1.2.1 dX19_transferred_346 (by decide) ?_
            obtain ⟨M53, eM53, hD⟩ := g_let hD
            refine mr_putI C hw kc_19 97 (by decide) tf_732 wd_2878 dX19_transferred_347 (by decide) rfl rfl rfl rfl (fun H locs hw => ?_)
            replace hw : mw_W G ad NF TF FF M53 L H locs := by rw [eM53]; exact hw
            exact hb350 v3 M53 L _ _ ls hD hw (lv_sub hl [0, 1] rfl)
      · replace hD := g_neg c47 hD
        refine lv_iload_n C.1.1 C.1.2.1 dX19_transferred_302 rfl (lv_at hl 1 rfl) ?_
        refine lv_aload_n C.1.1 C.1.2.1 dX19_transferred_303 rfl (lv_at hl 0 rfl) ?_
        refine mr_getR C hw kc_19 79 (by decide) tf_732 ff_732_79 wd_2860 dX19_transferred_304 (by decide) rfl ?_
        refine lv_iload C.1.1 C.1.2.1 dX19_transferred_307 (lv_at hl 2 rfl) ?_
        obtain ⟨r56, M54, L55, h1, hD⟩ := g_b3 hD
        refine md_cvI (As := [.int v4]) (rest := [.int v3]) C hw (tX17_ended l G ad fu v4 M L h1) kc_17 (by decide) tf_869 wd_3972 cwX17_ended ⟨Nat.le_of_ble_eq_true rfl, Nat.le_of_ble_eq_true rfl⟩ rfl hl.1 (Nat.le_of_ble_eq_true rfl) dX19_transferred_309 rfl rfl ⟨Nat.zero_le _, Nat.zero_le _⟩ rfl (fun H locs hw => ?_)
        refine lv_iadd C.1.1 C.1.2.1 dX19_transferred_312 ?_
        obtain ⟨x57, ex57, hD⟩ := g_let hD
        refine W.eq (g2 := F0 m 313 ls (.int x57 :: [])) (by rw [ex57]) ?_
        refine lv_istore_n (lv' := [(3, .int x57), (0, .ref (ad 732)), (4, .int v4)]) C.1.1 C.1.2.1 dX19_transferred_313 rfl hl (by decide) rfl (fun ls hl => ?_)
        obtain ⟨x58, ex58, hD⟩ := g_let hD
        refine lv_iinc (v := x58) (lv' := [(4, .int x58), (3, .int x57), (0, .ref (ad 732))]) C.1.1 C.1.2.1 dX19_transferred_314 hl (k := 2) rfl (by rw [ex58]; rfl) (by decide) rfl (fun ls hl => ?_)
        refine lv_goto (tgt := 295) C.1.1 C.1.2.1 dX19_transferred_317 (by decide) ?_
        exact ih295 x57 x58 M54 L55 _ _ ls hD hw (lv_sub hl [2, 1, 0] rfl)
  have hh23 : ∀ (f : Nat) (v2 : Int32) (M : mwM) (L : mwL) (H : Heap) (locs : List Loc) (ls : Array Slot), fX19_transferred_h23 fu f (v2, M, L) = some (M0, L0) → mw_W G ad NF TF FF M L H locs → lv_has ls 8 [(0, .ref (ad 732)), (2, .int v2)] → W p l e ({ frames := 4, cells := 0, slots := 0, locals := 95 }) s m [.ref (ad 732)].toArray below meth c H locs 0 0 (MQ below (mw_Qv G ad NF TF FF (mw_eqV M0 L0)) [.ref (ad 732)].toArray s 0 0 (mw_fr G)) (F0 m 23 ls []) := by
    intro f
    induction f with
    | zero => intro v2 M L H locs ls hD; cases hD
    | succ f23 ih23 =>
      intro v2 M L H locs ls hD hw hl
      replace hD : fX19_transferred_i23 fu (fX19_transferred_h23 fu f23) v2 M L = some (M0, L0) := hD
      have hb287 : ∀ (v2 : Int32) (M : mwM) (L : mwL) (H : Heap) (locs : List Loc) (ls : Array Slot), fX19_transferred_b287 fu (fX19_transferred_h23 fu f23) v2 M L = some (M0, L0) → mw_W G ad NF TF FF M L H locs → lv_has ls 8 [(0, .ref (ad 732)), (2, .int v2)] → W p l e ({ frames := 4, cells := 0, slots := 0, locals := 95 }) s m [.ref (ad 732)].toArray below meth c H locs 0 0 (MQ below (mw_Qv G ad NF TF FF (mw_eqV M0 L0)) [.ref (ad 732)].toArray s 0 0 (mw_fr G)) (F0 m 287 ls []) := by
        intro v2 M L H locs ls hD hw hl
        unfold fX19_transferred_b287 at hD
        refine lv_goto (tgt := 23) C.1.1 C.1.2.1 dX19_transferred_287 (by decide) ?_
        exact ih23 v2 M L _ _ ls hD hw (lv_sub hl [0, 1] rfl)
      have hb263 : ∀ (v2 : Int32) (s1 : Int32) (s2 : Int32) (s3 : Int32) (M : mwM) (L : mwL) (H : Heap) (locs : List Loc) (ls : Array Slot), fX19_transferred_b263 fu (fX19_transferred_h23 fu f23) v2 s1 s2 s3 M L = some (M0, L0) → mw_W G ad NF TF FF M L H locs → lv_has ls 8 [(0, .ref (ad 732)), (2, .int v2)] → W p l e ({ frames := 4, cells := 0, slots := 0, locals := 95 }) s m [.ref (ad 732)].toArray below meth c H locs 0 0 (MQ below (mw_Qv G ad NF TF FF (mw_eqV M0 L0)) [.ref (ad 732)].toArray s 0 0 (mw_fr G)) (F0 m 263 ls [.int s3, .int s2, .int s1, .ref (ad 732)]) := by
        intro v2 s1 s2 s3 M L H locs ls hD hw hl
        unfold fX19_transferred_b263 at hD
        refine lv_iadd C.1.1 C.1.2.1 dX19_transferred_263 ?_
        refine lv_aload_n C.1.1 C.1.2.1 dX19_transferred_264 rfl (lv_at hl 0 rfl) ?_
        refine mr_getI C hw kc_19 94 (by decide) tf_732 wd_2875 dX19_transferred_265 (by decide) rfl ?_
        obtain ⟨r42, M40, L41, h1, hD⟩ := g_b3 hD
        refine md_cvI (As := [.int s1, .int (s2 + s3), .int (M 732 94)]) (rest := []) C hw (tX19_put l G ad fu s1 (s2 + s3) (M 732 94) M L h1) kc_19 (by decide) tf_732 wd_3614 cwX19_put ⟨Nat.le_of_ble_eq_true rfl, Nat.le_of_ble_eq_true rfl⟩ rfl hl.1 (Nat.le_of_ble_eq_true rfl) dX19_transferred_268 rfl rfl ⟨Nat.zero_le _, Nat.zero_le _⟩ rfl (fun H locs hw => ?_)
        refine lv_if_ne (tgt := 287) C.1.1 C.1.2.1 dX19_transferred_271 (by decide) (fun c43 => ?_) (fun c43 => ?_)
        · replace hD := g_neg c43 hD
          exact hb287 v2 M40 L41 _ _ ls hD hw (lv_sub hl [0, 1] rfl)
        · replace hD := g_pos c43 hD
          refine lv_aload_n C.1.1 C.1.2.1 dX19_transferred_274 rfl (lv_at hl 0 rfl) ?_
          refine mr_getR C hw kc_19 79 (by decide) tf_732 ff_732_79 wd_2860 dX19_transferred_275 (by decide) rfl ?_
          refine lv_aload_n C.1.1 C.1.2.1 dX19_transferred_278 rfl (lv_at hl 0 rfl) ?_
          refine mr_getI C hw kc_19 94 (by decide) tf_732 wd_2875 dX19_transferred_279 (by decide) rfl ?_
          obtain ⟨r46, M44, L45, h1, hD⟩ := g_b3 hD
          refine md_cvI (As := [.int (M40 732 94)]) (rest := []) C hw (tX17_lose l G ad fu (M40 732 94) M40 L41 h1) kc_17 (by decide) tf_869 wd_4182 cwX17_lose ⟨Nat.le_of_ble_eq_true rfl, Nat.le_of_ble_eq_true rfl⟩ rfl hl.1 (Nat.le_of_ble_eq_true rfl) dX19_transferred_282 rfl rfl ⟨Nat.zero_le _, Nat.zero_le _⟩ rfl (fun H locs hw => ?_)
          refine lv_istore (lv' := [(7, .int r46), (0, .ref (ad 732)), (2, .int v2)]) C.1.1 C.1.2.1 dX19_transferred_285 hl (by decide) rfl (fun ls hl => ?_)
          exact hb287 v2 M44 L45 _ _ ls hD hw (lv_sub hl [1, 2] rfl)
      have hb235 : ∀ (v2 : Int32) (v4 : Int32) (v5 : Int32) (s0 : Int32) (M : mwM) (L : mwL) (H : Heap) (locs : List Loc) (ls : Array Slot), fX19_transferred_b235 fu (fX19_transferred_h23 fu f23) v2 v4 v5 s0 M L = some (M0, L0) → mw_W G ad NF TF FF M L H locs → lv_has ls 8 [(0, .ref (ad 732)), (2, .int v2), (4, .int v4), (5, .int v5)] → W p l e ({ frames := 4, cells := 0, slots := 0, locals := 95 }) s m [.ref (ad 732)].toArray below meth c H locs 0 0 (MQ below (mw_Qv G ad NF TF FF (mw_eqV M0 L0)) [.ref (ad 732)].toArray s 0 0 (mw_fr G)) (F0 m 235 ls [.int s0]) := by
        intro v2 v4 v5 s0 M L H locs ls hD hw hl
        unfold fX19_transferred_b235 at hD
        refine lv_istore (lv' := [(6, .int s0), (0, .ref (ad 732)), (2, .int v2), (4, .int v4), (5, .int v5)]) C.1.1 C.1.2.1 dX19_transferred_235 hl (by decide) rfl (fun ls hl => ?_)
        refine lv_aload_n C.1.1 C.1.2.1 dX19_transferred_237 rfl (lv_at hl 1 rfl) ?_
        refine lv_iload C.1.1 C.1.2.1 dX19_transferred_238 (lv_at hl 0 rfl) ?_
        refine lv_sipush (v := 1536) C.1.1 C.1.2.1 dX19_transferred_240 (by decide) ?_
        refine lv_iconst (v := 2) C.1.1 C.1.2.1 dX19_transferred_243 (by decide) ?_
        refine lv_aload_n C.1.1 C.1.2.1 dX19_transferred_244 rfl (lv_at hl 1 rfl) ?_
        refine mr_getR C hw kc_19 89 (by decide) tf_732 ff_732_89 wd_2870 dX19_transferred_245 (by decide) rfl ?_
        refine lv_iload C.1.1 C.1.2.1 dX19_transferred_248 (lv_at hl 3 rfl) ?_
        obtain ⟨q38, hD⟩ := g_ck hD
        refine mr_iald C hw (by decide) tf_927 q38 dX19_transferred_250 ?_
        refine lv_imul C.1.1 C.1.2.1 dX19_transferred_251 ?_
        refine lv_iadd C.1.1 C.1.2.1 dX19_transferred_252 ?_
        refine lv_iload C.1.1 C.1.2.1 dX19_transferred_253 (lv_at hl 4 rfl) ?_
        refine lv_if_eq (tgt := 262) C.1.1 C.1.2.1 dX19_transferred_255 (by decide) (fun c39 => ?_) (fun c39 => ?_)
        · replace hD := g_pos c39 hD
          refine lv_iconst (v := 1) C.1.1 C.1.2.1 dX19_transferred_262 (by decide) ?_
          exact hb263 v2 s0 (1536 + (2 * (M 927 v4.toNatClampNeg))) 1 M L _ _ ls hD hw (lv_sub hl [1, 2] rfl)
        · replace hD := g_neg c39 hD
          refine lv_iconst (v := 0) C.1.1 C.1.2.1 dX19_transferred_258 (by decide) ?_
          refine lv_goto (tgt := 263) C.1.1 C.1.2.1 dX19_transferred_259 (by decide) ?_
          exact hb263 v2 s0 (1536 + (2 * (M 927 v4.toNatClampNeg))) 0 M L _ _ ls hD hw (lv_sub hl [1, 2] rfl)
      have hb214 : ∀ (v2 : Int32) (v4 : Int32) (s0 : Int32) (M : mwM) (L : mwL) (H : Heap) (locs : List Loc) (ls : Array Slot), fX19_transferred_b214 fu (fX19_transferred_h23 fu f23) v2 v4 s0 M L = some (M0, L0) → mw_W G ad NF TF FF M L H locs → lv_has ls 8 [(0, .ref (ad 732)), (2, .int v2), (4, .int v4)] → W p l e ({ frames := 4, cells := 0, slots := 0, locals := 95 }) s m [.ref (ad 732)].toArray below meth c H locs 0 0 (MQ below (mw_Qv G ad NF TF FF (mw_eqV M0 L0)) [.ref (ad 732)].toArray s 0 0 (mw_fr G)) (F0 m 214 ls [.int s0]) := by
        intro v2 v4 s0 M L H locs ls hD hw hl
        unfold fX19_transferred_b214 at hD
        refine lv_istore (lv' := [(5, .int s0), (0, .ref (ad 732)), (2, .int v2), (4, .int v4)]) C.1.1 C.1.2.1 dX19_transferred_214 hl (by decide) rfl (fun ls hl => ?_)
        refine lv_iload C.1.1 C.1.2.1 dX19_transferred_216 (lv_at hl 0 rfl) ?_
        refine lv_if_eq (tgt := 228) C.1.1 C.1.2.1 dX19_transferred_218 (by decide) (fun c36 => ?_) (fun c36 => ?_)
        · replace hD := g_pos c36 hD
          refine lv_aload_n C.1.1 C.1.2.1 dX19_transferred_228 rfl (lv_at hl 1 rfl) ?_
          refine mr_getR C hw kc_19 89 (by decide) tf_732 ff_732_89 wd_2870 dX19_transferred_229 (by decide) rfl ?_
          refine lv_iload C.1.1 C.1.2.1 dX19_transferred_232 (lv_at hl 3 rfl) ?_
          obtain ⟨q37, hD⟩ := g_ck hD
          refine mr_iald C hw (by decide) tf_927 q37 dX19_transferred_234 ?_
          exact hb235 v2 v4 s0 (M 927 v4.toNatClampNeg) M L _ _ ls hD hw (lv_sub hl [1, 2, 3, 0] rfl)
        · replace hD := g_neg c36 hD
          refine lv_aload_n C.1.1 C.1.2.1 dX19_transferred_221 rfl (lv_at hl 1 rfl) ?_
          refine mr_getI C hw kc_19 19 (by decide) tf_732 wd_2800 dX19_transferred_222 (by decide) rfl ?_
          refine lv_goto (tgt := 235) C.1.1 C.1.2.1 dX19_transferred_225 (by decide) ?_
          exact hb235 v2 v4 s0 (M 732 19) M L _ _ ls hD hw (lv_sub hl [1, 2, 3, 0] rfl)
      have hh97 : ∀ (f : Nat) (v2 : Int32) (v3 : Int32) (v4 : Int32) (v5 : Int32) (M : mwM) (L : mwL) (H : Heap) (locs : List Loc) (ls : Array Slot), fX19_transferred_h97 fu (fX19_transferred_h23 fu f23) f (v2, v3, v4, v5, M, L) = some (M0, L0) → mw_W G ad NF TF FF M L H locs → lv_has ls 8 [(0, .ref (ad 732)), (2, .int v2), (3, .int v3), (4, .int v4), (5, .int v5)] → W p l e ({ frames := 4, cells := 0, slots := 0, locals := 95 }) s m [.ref (ad 732)].toArray below meth c H locs 0 0 (MQ below (mw_Qv G ad NF TF FF (mw_eqV M0 L0)) [.ref (ad 732)].toArray s 0 0 (mw_fr G)) (F0 m 97 ls []) := by
        intro f
        induction f with
        | zero => intro v2 v3 v4 v5 M L H locs ls hD; cases hD
        | succ f97 ih97 =>
          intro v2 v3 v4 v5 M L H locs ls hD hw hl
          replace hD : fX19_transferred_i97 fu (fX19_transferred_h23 fu f23) (fX19_transferred_h97 fu (fX19_transferred_h23 fu f23) f97) v2 v3 v4 v5 M L = some (M0, L0) := hD
          have hb177 : ∀ (v2 : Int32) (v3 : Int32) (v4 : Int32) (v5 : Int32) (s1 : Int32) (s2 : Int32) (M : mwM) (L : mwL) (H : Heap) (locs : List Loc) (ls : Array Slot), fX19_transferred_b177 fu (fX19_transferred_h23 fu f23) (fX19_transferred_h97 fu (fX19_transferred_h23 fu f23) f97) v2 v3 v4 v5 s1 s2 M L = some (M0, L0) → mw_W G ad NF TF FF M L H locs → lv_has ls 8 [(0, .ref (ad 732)), (2, .int v2), (3, .int v3), (4, .int v4), (5, .int v5)] → W p l e ({ frames := 4, cells := 0, slots := 0, locals := 95 }) s m [.ref (ad 732)].toArray below meth c H locs 0 0 (MQ below (mw_Qv G ad NF TF FF (mw_eqV M0 L0)) [.ref (ad 732)].toArray s 0 0 (mw_fr G)) (F0 m 177 ls [.int s2, .int s1, .ref (ad 926)]) := by
            intro v2 v3 v4 v5 s1 s2 M L H locs ls hD hw hl
            unfold fX19_transferred_b177 at hD
            obtain ⟨q33, hD⟩ := g_ck hD
            obtain ⟨M34, eM34, hD⟩ := g_let hD
            refine mr_iast C hw (by decide) tf_926 q33 dX19_transferred_177 (fun H locs hw => ?_)
            replace hw : mw_W G ad NF TF FF M34 L H locs := by rw [eM34]; exact hw
            obtain ⟨x35, ex35, hD⟩ := g_let hD
            refine lv_iinc (v := x35) (lv' := [(5, .int x35), (0, .ref (ad 732)), (2, .int v2), (3, .int v3), (4, .int v4)]) C.1.1 C.1.2.1 dX19_transferred_178 hl (k := 4) rfl (by rw [ex35]; rfl) (by decide) rfl (fun ls hl => ?_)
            refine lv_goto (tgt := 97) C.1.1 C.1.2.1 dX19_transferred_181 (by decide) ?_
            exact ih97 v2 v3 v4 x35 M34 L _ _ ls hD hw (lv_sub hl [1, 2, 3, 4, 0] rfl)
          unfold fX19_transferred_i97 at hD
          refine lv_iload C.1.1 C.1.2.1 dX19_transferred_97 (lv_at hl 4 rfl) ?_
          refine lv_bipush (v := 8) C.1.1 C.1.2.1 dX19_transferred_99 (by decide) ?_
          refine lv_icmp_ge (tgt := 184) C.1.1 C.1.2.1 dX19_transferred_101 (by decide) (fun c15 => ?_) (fun c15 => ?_)
          · replace hD := g_pos c15 hD
            refine lv_iload_n C.1.1 C.1.2.1 dX19_transferred_184 rfl (lv_at hl 2 rfl) ?_
            refine lv_iconst (v := 3) C.1.1 C.1.2.1 dX19_transferred_185 (by decide) ?_
            refine lv_icmp_ne (tgt := 207) C.1.1 C.1.2.1 dX19_transferred_186 (by decide) (fun c16 => ?_) (fun c16 => ?_)
            · replace hD := g_neg c16 hD
              refine lv_aload_n C.1.1 C.1.2.1 dX19_transferred_207 rfl (lv_at hl 0 rfl) ?_
              refine mr_getR C hw kc_19 90 (by decide) tf_732 ff_732_90 wd_2871 dX19_transferred_208 (by decide) rfl ?_
              refine lv_iload C.1.1 C.1.2.1 dX19_transferred_211 (lv_at hl 3 rfl) ?_
              obtain ⟨q17, hD⟩ := g_ck hD
              refine mr_zald C hw (by decide) tf_928 q17 dX19_transferred_213 ?_
              exact hb214 v2 v4 (M 928 v4.toNatClampNeg) M L _ _ ls hD hw (lv_sub hl [0, 1, 3] rfl)
            · replace hD := g_pos c16 hD
              refine lv_aload_n C.1.1 C.1.2.1 dX19_transferred_189 rfl (lv_at hl 0 rfl) ?_
              refine mr_getR C hw kc_19 90 (by decide) tf_732 ff_732_90 wd_2871 dX19_transferred_190 (by decide) rfl ?_
              refine lv_iload C.1.1 C.1.2.1 dX19_transferred_193 (lv_at hl 3 rfl) ?_
              obtain ⟨q18, hD⟩ := g_ck hD
              refine mr_zald C hw (by decide) tf_928 q18 dX19_transferred_195 ?_
              refine lv_if_ne (tgt := 203) C.1.1 C.1.2.1 dX19_transferred_196 (by decide) (fun c19 => ?_) (fun c19 => ?_)
              · replace hD := g_neg c19 hD
                refine lv_iconst (v := 0) C.1.1 C.1.2.1 dX19_transferred_203 (by decide) ?_
                refine lv_goto (tgt := 214) C.1.1 C.1.2.1 dX19_transferred_204 (by decide) ?_
                exact hb214 v2 v4 0 M L _ _ ls hD hw (lv_sub hl [0, 1, 3] rfl)
              · replace hD := g_pos c19 hD
                refine lv_iconst (v := 1) C.1.1 C.1.2.1 dX19_transferred_199 (by decide) ?_
                refine lv_goto (tgt := 214) C.1.1 C.1.2.1 dX19_transferred_200 (by decide) ?_
                exact hb214 v2 v4 1 M L _ _ ls hD hw (lv_sub hl [0, 1, 3] rfl)
          · replace hD := g_neg c15 hD
            refine lv_aload_n C.1.1 C.1.2.1 dX19_transferred_104 rfl (lv_at hl 0 rfl) ?_
            refine mr_getR C hw kc_19 87 (by decide) tf_732 ff_732_87 wd_2868 dX19_transferred_105 (by decide) rfl ?_
            refine lv_iload C.1.1 C.1.2.1 dX19_transferred_108 (lv_at hl 4 rfl) ?_
            refine lv_iload_n C.1.1 C.1.2.1 dX19_transferred_110 rfl (lv_at hl 2 rfl) ?_
            refine lv_iconst (v := 3) C.1.1 C.1.2.1 dX19_transferred_111 (by decide) ?_
            refine lv_icmp_ne (tgt := 161) C.1.1 C.1.2.1 dX19_transferred_112 (by decide) (fun c20 => ?_) (fun c20 => ?_)
            · replace hD := g_neg c20 hD
              refine lv_aload_n C.1.1 C.1.2.1 dX19_transferred_161 rfl (lv_at hl 0 rfl) ?_
              refine mr_getR C hw kc_19 79 (by decide) tf_732 ff_732_79 wd_2860 dX19_transferred_162 (by decide) rfl ?_
              refine lv_aload_n C.1.1 C.1.2.1 dX19_transferred_165 rfl (lv_at hl 0 rfl) ?_
              refine mr_getI C hw kc_19 94 (by decide) tf_732 wd_2875 dX19_transferred_166 (by decide) rfl ?_
              refine lv_bipush (v := 7) C.1.1 C.1.2.1 dX19_transferred_169 (by decide) ?_
              refine lv_iload C.1.1 C.1.2.1 dX19_transferred_171 (lv_at hl 4 rfl) ?_
              refine lv_iadd C.1.1 C.1.2.1 dX19_transferred_173 ?_
              obtain ⟨r24, M21, L22, h1, hD⟩ := g_b3 hD
              refine md_cvI (As := [.int (M 732 94), .int (7 + v5)]) (rest := [.int v5, .ref (ad 926)]) C hw (tX17_frame l G ad fu (M 732 94) (7 + v5) M L h1) kc_17 (by decide) tf_869 wd_3984 cwX17_frame ⟨Nat.le_of_ble_eq_true rfl, Nat.le_of_ble_eq_true rfl⟩ rfl hl.1 (Nat.le_of_ble_eq_true rfl) dX19_transferred_174 rfl rfl ⟨Nat.zero_le _, Nat.zero_le _⟩ rfl (fun H locs hw => ?_)
              exact hb177 v2 v3 v4 v5 v5 r24 M21 L22 _ _ ls hD hw (lv_sub hl [0, 1, 2, 3, 4] rfl)
            · replace hD := g_pos c20 hD
              refine lv_iload C.1.1 C.1.2.1 dX19_transferred_115 (lv_at hl 4 rfl) ?_
              refine lv_iconst (v := 1) C.1.1 C.1.2.1 dX19_transferred_117 (by decide) ?_
              refine lv_icmp_ne (tgt := 136) C.1.1 C.1.2.1 dX19_transferred_118 (by decide) (fun c25 => ?_) (fun c25 => ?_)
              · replace hD := g_neg c25 hD
                refine lv_iload C.1.1 C.1.2.1 dX19_transferred_136 (lv_at hl 4 rfl) ?_
                refine lv_iconst (v := 2) C.1.1 C.1.2.1 dX19_transferred_138 (by decide) ?_
                refine lv_icmp_ne (tgt := 157) C.1.1 C.1.2.1 dX19_transferred_139 (by decide) (fun c26 => ?_) (fun c26 => ?_)
                · replace hD := g_neg c26 hD
                  refine lv_iconst (v := 0) C.1.1 C.1.2.1 dX19_transferred_157 (by decide) ?_
                  refine lv_goto (tgt := 177) C.1.1 C.1.2.1 dX19_transferred_158 (by decide) ?_
                  exact hb177 v2 v3 v4 v5 v5 0 M L _ _ ls hD hw (lv_sub hl [0, 1, 2, 3, 4] rfl)
                · replace hD := g_pos c26 hD
                  refine lv_aload_n C.1.1 C.1.2.1 dX19_transferred_142 rfl (lv_at hl 0 rfl) ?_
                  refine mr_getR C hw kc_19 79 (by decide) tf_732 ff_732_79 wd_2860 dX19_transferred_143 (by decide) rfl ?_
                  refine lv_aload_n C.1.1 C.1.2.1 dX19_transferred_146 rfl (lv_at hl 0 rfl) ?_
                  refine mr_getI C hw kc_19 94 (by decide) tf_732 wd_2875 dX19_transferred_147 (by decide) rfl ?_
                  refine lv_iconst (v := 5) C.1.1 C.1.2.1 dX19_transferred_150 (by decide) ?_
                  obtain ⟨r29, M27, L28, h1, hD⟩ := g_b3 hD
                  refine md_cvI (As := [.int (M 732 94), .int 5]) (rest := [.int v5, .ref (ad 926)]) C hw (tX17_frame l G ad fu (M 732 94) 5 M L h1) kc_17 (by decide) tf_869 wd_3984 cwX17_frame ⟨Nat.le_of_ble_eq_true rfl, Nat.le_of_ble_eq_true rfl⟩ rfl hl.1 (Nat.le_of_ble_eq_true rfl) dX19_transferred_151 rfl rfl ⟨Nat.zero_le _, Nat.zero_le _⟩ rfl (fun H locs hw => ?_)
                  refine lv_goto (tgt := 177) C.1.1 C.1.2.1 dX19_transferred_154 (by decide) ?_
                  exact hb177 v2 v3 v4 v5 v5 r29 M27 L28 _ _ ls hD hw (lv_sub hl [0, 1, 2, 3, 4] rfl)
              · replace hD := g_pos c25 hD
                refine lv_aload_n C.1.1 C.1.2.1 dX19_transferred_121 rfl (lv_at hl 0 rfl) ?_
                refine mr_getR C hw kc_19 79 (by decide) tf_732 ff_732_79 wd_2860 dX19_transferred_122 (by decide) rfl ?_
                refine lv_aload_n C.1.1 C.1.2.1 dX19_transferred_125 rfl (lv_at hl 0 rfl) ?_
                refine mr_getI C hw kc_19 94 (by decide) tf_732 wd_2875 dX19_transferred_126 (by decide) rfl ?_
                refine lv_iconst (v := 3) C.1.1 C.1.2.1 dX19_transferred_129 (by decide) ?_
                obtain ⟨r32, M30, L31, h1, hD⟩ := g_b3 hD
                refine md_cvI (As := [.int (M 732 94), .int 3]) (rest := [.int v5, .ref (ad 926)]) C hw (tX17_frame l G ad fu (M 732 94) 3 M L h1) kc_17 (by decide) tf_869 wd_3984 cwX17_frame ⟨Nat.le_of_ble_eq_true rfl, Nat.le_of_ble_eq_true rfl⟩ rfl hl.1 (Nat.le_of_ble_eq_true rfl) dX19_transferred_130 rfl rfl ⟨Nat.zero_le _, Nat.zero_le _⟩ rfl (fun H locs hw => ?_)
                refine lv_goto (tgt := 177) C.1.1 C.1.2.1 dX19_transferred_133 (by decide) ?_
                exact hb177 v2 v3 v4 v5 v5 r32 M30 L31 _ _ ls hD hw (lv_sub hl [0, 1, 2, 3, 4] rfl)
      unfold fX19_transferred_i23 at hD
      refine lv_aload_n C.1.1 C.1.2.1 dX19_transferred_23 rfl (lv_at hl 0 rfl) ?_
      refine mr_getI C hw kc_19 94 (by decide) tf_732 wd_2875 dX19_transferred_24 (by decide) rfl ?_
      refine lv_iload_n C.1.1 C.1.2.1 dX19_transferred_27 rfl (lv_at hl 1 rfl) ?_
      refine lv_icmp_ge (tgt := 290) C.1.1 C.1.2.1 dX19_transferred_28 (by decide) (fun c1 => ?_) (fun c1 => ?_)
      · replace hD := g_pos c1 hD
        refine lv_iconst (v := 0) C.1.1 C.1.2.1 dX19_transferred_290 (by decide) ?_
        refine lv_istore_n (lv' := [(3, .int 0), (0, .ref (ad 732)), (2, .int v2)]) C.1.1 C.1.2.1 dX19_transferred_291 rfl hl (by decide) rfl (fun ls hl => ?_)
        refine lv_iconst (v := 1) C.1.1 C.1.2.1 dX19_transferred_292 (by decide) ?_
        refine lv_istore (lv' := [(4, .int 1), (3, .int 0), (0, .ref (ad 732)), (2, .int v2)]) C.1.1 C.1.2.1 dX19_transferred_293 hl (by decide) rfl (fun ls hl => ?_)
        exact hh295 fu 0 1 M L _ _ ls hD hw (lv_sub hl [2, 1, 0] rfl)
      · replace hD := g_neg c1 hD
        refine lv_aload_n C.1.1 C.1.2.1 dX19_transferred_31 rfl (lv_at hl 0 rfl) ?_
        refine lv_dup C.1.1 C.1.2.1 dX19_transferred_32 rfl ?_
        refine mr_getI C hw kc_19 94 (by decide) tf_732 wd_2875 dX19_transferred_33 (by decide) rfl ?_
        refine lv_iconst (v := 1) C.1.1 C.1.2.1 dX19_transferred_36 (by decide) ?_
        refine lv_iadd C.1.1 C.1.2.1 dX19_transferred_37 ?_
        obtain ⟨M2, eM2, hD⟩ := g_let hD
        refine mr_putI C hw kc_19 94 (by decide) tf_732 wd_2875 dX19_transferred_38 (by decide) rfl rfl rfl rfl (fun H locs hw => ?_)
        replace hw : mw_W G ad NF TF FF M2 L H locs := by rw [eM2]; exact hw
        refine lv_aload_n C.1.1 C.1.2.1 dX19_transferred_41 rfl (lv_at hl 0 rfl) ?_
        refine mr_getR C hw kc_19 79 (by decide) tf_732 ff_732_79 wd_2860 dX19_transferred_42 (by decide) rfl ?_
        refine lv_aload_n C.1.1 C.1.2.1 dX19_transferred_45 rfl (lv_at hl 0 rfl) ?_
        refine mr_getI C hw kc_19 94 (by decide) tf_732 wd_2875 dX19_transferred_46 (by decide) rfl ?_
        refine lv_iconst (v := 0) C.1.1 C.1.2.1 dX19_transferred_49 (by decide) ?_
        obtain ⟨r5, M3, L4, h1, hD⟩ := g_b3 hD
        refine md_cvI (As := [.int (M2 732 94), .int 0]) (rest := []) C hw (tX17_frame l G ad fu (M2 732 94) 0 M2 L h1) kc_17 (by decide) tf_869 wd_3984 cwX17_frame ⟨Nat.le_of_ble_eq_true rfl, Nat.le_of_ble_eq_true rfl⟩ rfl hl.1 (Nat.le_of_ble_eq_true rfl) dX19_transferred_50 rfl rfl ⟨Nat.zero_le _, Nat.zero_le _⟩ rfl (fun H locs hw => ?_)
        refine lv_istore_n (lv' := [(3, .int r5), (0, .ref (ad 732)), (2, .int v2)]) C.1.1 C.1.2.1 dX19_transferred_53 rfl hl (by decide) rfl (fun ls hl => ?_)
        refine lv_aload_n C.1.1 C.1.2.1 dX19_transferred_54 rfl (lv_at hl 1 rfl) ?_
        refine mr_getR C hw kc_19 79 (by decide) tf_732 ff_732_79 wd_2860 dX19_transferred_55 (by decide) rfl ?_
        refine lv_aload_n C.1.1 C.1.2.1 dX19_transferred_58 rfl (lv_at hl 1 rfl) ?_
        refine mr_getI C hw kc_19 94 (by decide) tf_732 wd_2875 dX19_transferred_59 (by decide) rfl ?_
        refine lv_iconst (v := 1) C.1.1 C.1.2.1 dX19_transferred_62 (by decide) ?_
        obtain ⟨r8, M6, L7, h1, hD⟩ := g_b3 hD
        refine md_cvI (As := [.int (M3 732 94), .int 1]) (rest := []) C hw (tX17_frame l G ad fu (M3 732 94) 1 M3 L4 h1) kc_17 (by decide) tf_869 wd_3984 cwX17_frame ⟨Nat.le_of_ble_eq_true rfl, Nat.le_of_ble_eq_true rfl⟩ rfl hl.1 (Nat.le_of_ble_eq_true rfl) dX19_transferred_63 rfl rfl ⟨Nat.zero_le _, Nat.zero_le _⟩ rfl (fun H locs hw => ?_)
        refine lv_istore (lv' := [(4, .int r8), (3, .int r5), (0, .ref (ad 732)), (2, .int v2)]) C.1.1 C.1.2.1 dX19_transferred_66 hl (by decide) rfl (fun ls hl => ?_)
        refine lv_aload_n C.1.1 C.1.2.1 dX19_transferred_68 rfl (lv_at hl 2 rfl) ?_
        refine mr_getR C hw kc_19 87 (by decide) tf_732 ff_732_87 wd_2868 dX19_transferred_69 (by decide) rfl ?_
        refine lv_iconst (v := 0) C.1.1 C.1.2.1 dX19_transferred_72 (by decide) ?_
        refine lv_iload_n C.1.1 C.1.2.1 dX19_transferred_73 rfl (lv_at hl 1 rfl) ?_
        refine lv_bipush (v := 16) C.1.1 C.1.2.1 dX19_transferred_74 (by decide) ?_
        refine lv_imul C.1.1 C.1.2.1 dX19_transferred_76 ?_
        refine lv_aload_n C.1.1 C.1.2.1 dX19_transferred_77 rfl (lv_at hl 2 rfl) ?_
        refine mr_getR C hw kc_19 79 (by decide) tf_732 ff_732_79 wd_2860 dX19_transferred_78 (by decide) rfl ?_
        refine lv_aload_n C.1.1 C.1.2.1 dX19_transferred_81 rfl (lv_at hl 2 rfl) ?_
        refine mr_getI C hw kc_19 94 (by decide) tf_732 wd_2875 dX19_transferred_82 (by decide) rfl ?_
        refine lv_iconst (v := 2) C.1.1 C.1.2.1 dX19_transferred_85 (by decide) ?_
        obtain ⟨r11, M9, L10, h1, hD⟩ := g_b3 hD
        refine md_cvI (As := [.int (M6 732 94), .int 2]) (rest := [.int (r5 * 16), .int 0, .ref (ad 926)]) C hw (tX17_frame l G ad fu (M6 732 94) 2 M6 L7 h1) kc_17 (by decide) tf_869 wd_3984 cwX17_frame ⟨Nat.le_of_ble_eq_true rfl, Nat.le_of_ble_eq_true rfl⟩ rfl hl.1 (Nat.le_of_ble_eq_true rfl) dX19_transferred_86 rfl rfl ⟨Nat.zero_le _, Nat.zero_le _⟩ rfl (fun H locs hw => ?_)
        refine lv_bipush (v := 16) C.1.1 C.1.2.1 dX19_transferred_89 (by decide) ?_
        refine lv_irem C.1.1 C.1.2.1 dX19_transferred_91 (by decide) ?_
        refine lv_iadd C.1.1 C.1.2.1 dX19_transferred_92 ?_
        obtain ⟨M14, eM14, hD⟩ := g_let hD
        refine mr_iast C hw (by decide) tf_926 (show vp_in 0 8 from by unfold vp_in; decide) dX19_transferred_93 (fun H locs hw => ?_)
        replace hw : mw_W G ad NF TF FF M14 L10 H locs := by rw [eM14]; exact hw
        refine lv_iconst (v := 1) C.1.1 C.1.2.1 dX19_transferred_94 (by decide) ?_
        refine lv_istore (lv' := [(5, .int 1), (4, .int r8), (3, .int r5), (0, .ref (ad 732)), (2, .int v2)]) C.1.1 C.1.2.1 dX19_transferred_95 hl (by decide) rfl (fun ls hl => ?_)
        exact hh97 fu v2 r5 r8 1 M14 L10 _ _ ls hD hw (lv_sub hl [3, 4, 2, 1, 0] rfl)
  unfold DX19_transferred at hD
  refine lv_aload_n C.1.1 C.1.2.1 dX19_transferred_0 rfl (lv_at hl 0 rfl) ?_
  refine mr_getR C hw kc_19 79 (by decide) tf_732 ff_732_79 wd_2860 dX19_transferred_1 (by decide) rfl ?_
  refine lv_aload_n C.1.1 C.1.2.1 dX19_transferred_4 rfl (lv_at hl 0 rfl) ?_
  refine mr_getI C hw kc_19 83 (by decide) tf_732 wd_2864 dX19_transferred_5 (by decide) rfl ?_
  refine lv_i2l C.1.1 C.1.2.1 dX19_transferred_8 rfl ?_
  obtain ⟨r62, M60, L61, h1, hD⟩ := g_b3 hD
  refine md_cvI (As := [.long ((M 732 83).toInt64)]) (rest := []) C hw (tX17_tick l G ad fu ((M 732 83).toInt64) M L h1) kc_17 (by decide) tf_869 wd_4151 cwX17_tick ⟨Nat.le_of_ble_eq_true rfl, Nat.le_of_ble_eq_true rfl⟩ rfl hl.1 (Nat.le_of_ble_eq_true rfl) dX19_transferred_9 rfl rfl ⟨Nat.zero_le _, Nat.zero_le _⟩ rfl (fun H locs hw => ?_)
  refine lv_istore_n (lv' := [(1, .int r62), (0, .ref (ad 732))]) C.1.1 C.1.2.1 dX19_transferred_12 rfl hl (by decide) rfl (fun ls hl => ?_)
  refine lv_aload_n C.1.1 C.1.2.1 dX19_transferred_13 rfl (lv_at hl 1 rfl) ?_
  refine mr_getR C hw kc_19 79 (by decide) tf_732 ff_732_79 wd_2860 dX19_transferred_14 (by decide) rfl ?_
  refine lv_iconst (v := 0) C.1.1 C.1.2.1 dX19_transferred_17 (by decide) ?_
  refine lv_iconst (v := 0) C.1.1 C.1.2.1 dX19_transferred_18 (by decide) ?_
  obtain ⟨r65, M63, L64, h1, hD⟩ := g_b3 hD
  refine md_cvI (As := [.int 0, .int 0]) (rest := []) C hw (tX17_frame l G ad fu 0 0 M60 L61 h1) kc_17 (by decide) tf_869 wd_3984 cwX17_frame ⟨Nat.le_of_ble_eq_true rfl, Nat.le_of_ble_eq_true rfl⟩ rfl hl.1 (Nat.le_of_ble_eq_true rfl) dX19_transferred_19 rfl rfl ⟨Nat.zero_le _, Nat.zero_le _⟩ rfl (fun H locs hw => ?_)
  refine lv_istore_n (lv' := [(2, .int r65), (1, .int r62), (0, .ref (ad 732))]) C.1.1 C.1.2.1 dX19_transferred_22 rfl hl (by decide) rfl (fun ls hl => ?_)
  exact hh23 fu r65 M63 L64 _ _ ls hD hw (lv_sub hl [2, 0] rfl)

theorem dX19_taskDone_0 : decode cX19_taskDone 0 = .ok (.aload_n 0, 1) := by decide +kernel
theorem dX19_taskDone_1 : decode cX19_taskDone 1 = .ok (.getfield 55, 3) := by decide +kernel
theorem dX19_taskDone_4 : decode cX19_taskDone 4 = .ok (.iload_n 1, 1) := by decide +kernel
theorem dX19_taskDone_5 : decode cX19_taskDone 5 = .ok (.dup2, 1) := by decide +kernel
theorem dX19_taskDone_6 : decode cX19_taskDone 6 = .ok (.iaload, 1) := by decide +kernel
theorem dX19_taskDone_7 : decode cX19_taskDone 7 = .ok (.iconst 1, 1) := by decide +kernel
theorem dX19_taskDone_8 : decode cX19_taskDone 8 = .ok (.iadd, 1) := by decide +kernel
theorem dX19_taskDone_9 : decode cX19_taskDone 9 = .ok (.iastore, 1) := by decide +kernel
theorem dX19_taskDone_10 : decode cX19_taskDone 10 = .ok (.aload_n 0, 1) := by decide +kernel
theorem dX19_taskDone_11 : decode cX19_taskDone 11 = .ok (.getfield 52, 3) := by decide +kernel
theorem dX19_taskDone_14 : decode cX19_taskDone 14 = .ok (.iload_n 1, 1) := by decide +kernel
theorem dX19_taskDone_15 : decode cX19_taskDone 15 = .ok (.iaload, 1) := by decide +kernel
theorem dX19_taskDone_16 : decode cX19_taskDone 16 = .ok (.istore_n 2, 1) := by decide +kernel
theorem dX19_taskDone_17 : decode cX19_taskDone 17 = .ok (.iload_n 2, 1) := by decide +kernel
theorem dX19_taskDone_18 : decode cX19_taskDone 18 = .ok (.ifCond .ge 4, 3) := by decide +kernel
theorem dX19_taskDone_21 : decode cX19_taskDone 21 = .ok (.return_, 1) := by decide +kernel
theorem dX19_taskDone_22 : decode cX19_taskDone 22 = .ok (.aload_n 0, 1) := by decide +kernel
theorem dX19_taskDone_23 : decode cX19_taskDone 23 = .ok (.getfield 67, 3) := by decide +kernel
theorem dX19_taskDone_26 : decode cX19_taskDone 26 = .ok (.iload_n 2, 1) := by decide +kernel
theorem dX19_taskDone_27 : decode cX19_taskDone 27 = .ok (.iaload, 1) := by decide +kernel
theorem dX19_taskDone_28 : decode cX19_taskDone 28 = .ok (.istore_n 3, 1) := by decide +kernel
theorem dX19_taskDone_29 : decode cX19_taskDone 29 = .ok (.aload_n 0, 1) := by decide +kernel
theorem dX19_taskDone_30 : decode cX19_taskDone 30 = .ok (.getfield 67, 3) := by decide +kernel
theorem dX19_taskDone_33 : decode cX19_taskDone 33 = .ok (.iload_n 2, 1) := by decide +kernel
theorem dX19_taskDone_34 : decode cX19_taskDone 34 = .ok (.iconst 0, 1) := by decide +kernel
theorem dX19_taskDone_35 : decode cX19_taskDone 35 = .ok (.iastore, 1) := by decide +kernel
theorem dX19_taskDone_36 : decode cX19_taskDone 36 = .ok (.iload_n 3, 1) := by decide +kernel
theorem dX19_taskDone_37 : decode cX19_taskDone 37 = .ok (.ifCond .ne 32, 3) := by decide +kernel
theorem dX19_taskDone_40 : decode cX19_taskDone 40 = .ok (.aload_n 0, 1) := by decide +kernel
theorem dX19_taskDone_41 : decode cX19_taskDone 41 = .ok (.getfield 217, 3) := by decide +kernel
theorem dX19_taskDone_44 : decode cX19_taskDone 44 = .ok (.iload_n 2, 1) := by decide +kernel
theorem dX19_taskDone_45 : decode cX19_taskDone 45 = .ok (.aaload, 1) := by decide +kernel
theorem dX19_taskDone_46 : decode cX19_taskDone 46 = .ok (.iconst 0, 1) := by decide +kernel
theorem dX19_taskDone_47 : decode cX19_taskDone 47 = .ok (.aload_n 0, 1) := by decide +kernel
theorem dX19_taskDone_48 : decode cX19_taskDone 48 = .ok (.getfield 600, 3) := by decide +kernel
theorem dX19_taskDone_51 : decode cX19_taskDone 51 = .ok (.i2l, 1) := by decide +kernel
theorem dX19_taskDone_52 : decode cX19_taskDone 52 = .ok (.invokevirtual 784, 3) := by decide +kernel
theorem dX19_taskDone_55 : decode cX19_taskDone 55 = .ok (.iconst (-1), 1) := by decide +kernel
theorem dX19_taskDone_56 : decode cX19_taskDone 56 = .ok (.if_icmp .ne 13, 3) := by decide +kernel
theorem dX19_taskDone_59 : decode cX19_taskDone 59 = .ok (.aload_n 0, 1) := by decide +kernel
theorem dX19_taskDone_60 : decode cX19_taskDone 60 = .ok (.getfield 64, 3) := by decide +kernel
theorem dX19_taskDone_63 : decode cX19_taskDone 63 = .ok (.iload_n 2, 1) := by decide +kernel
theorem dX19_taskDone_64 : decode cX19_taskDone 64 = .ok (.dup2, 1) := by decide +kernel
theorem dX19_taskDone_65 : decode cX19_taskDone 65 = .ok (.iaload, 1) := by decide +kernel
theorem dX19_taskDone_66 : decode cX19_taskDone 66 = .ok (.iconst 1, 1) := by decide +kernel
theorem dX19_taskDone_67 : decode cX19_taskDone 67 = .ok (.iadd, 1) := by decide +kernel
theorem dX19_taskDone_68 : decode cX19_taskDone 68 = .ok (.iastore, 1) := by decide +kernel
theorem dX19_taskDone_69 : decode cX19_taskDone 69 = .ok (.iconst 0, 1) := by decide +kernel
theorem dX19_taskDone_70 : decode cX19_taskDone 70 = .ok (.istore 4, 2) := by decide +kernel
theorem dX19_taskDone_72 : decode cX19_taskDone 72 = .ok (.iload 4, 2) := by decide +kernel
theorem dX19_taskDone_74 : decode cX19_taskDone 74 = .ok (.iload_n 3, 1) := by decide +kernel
theorem dX19_taskDone_75 : decode cX19_taskDone 75 = .ok (.if_icmp .ge 49, 3) := by decide +kernel
theorem dX19_taskDone_78 : decode cX19_taskDone 78 = .ok (.aload_n 0, 1) := by decide +kernel
theorem dX19_taskDone_79 : decode cX19_taskDone 79 = .ok (.getfield 217, 3) := by decide +kernel
theorem dX19_taskDone_82 : decode cX19_taskDone 82 = .ok (.iload_n 2, 1) := by decide +kernel
theorem dX19_taskDone_83 : decode cX19_taskDone 83 = .ok (.aaload, 1) := by decide +kernel
theorem dX19_taskDone_84 : decode cX19_taskDone 84 = .ok (.aload_n 0, 1) := by decide +kernel
theorem dX19_taskDone_85 : decode cX19_taskDone 85 = .ok (.getfield 70, 3) := by decide +kernel
theorem dX19_taskDone_88 : decode cX19_taskDone 88 = .ok (.bipush 16, 2) := by decide +kernel
theorem dX19_taskDone_90 : decode cX19_taskDone 90 = .ok (.iload_n 2, 1) := by decide +kernel
theorem dX19_taskDone_91 : decode cX19_taskDone 91 = .ok (.imul, 1) := by decide +kernel
theorem dX19_taskDone_92 : decode cX19_taskDone 92 = .ok (.iload 4, 2) := by decide +kernel
theorem dX19_taskDone_94 : decode cX19_taskDone 94 = .ok (.iadd, 1) := by decide +kernel
theorem dX19_taskDone_95 : decode cX19_taskDone 95 = .ok (.iaload, 1) := by decide +kernel
theorem dX19_taskDone_96 : decode cX19_taskDone 96 = .ok (.aload_n 0, 1) := by decide +kernel
theorem dX19_taskDone_97 : decode cX19_taskDone 97 = .ok (.getfield 600, 3) := by decide +kernel
theorem dX19_taskDone_100 : decode cX19_taskDone 100 = .ok (.i2l, 1) := by decide +kernel
theorem dX19_taskDone_101 : decode cX19_taskDone 101 = .ok (.invokevirtual 784, 3) := by decide +kernel
theorem dX19_taskDone_104 : decode cX19_taskDone 104 = .ok (.iconst (-1), 1) := by decide +kernel
theorem dX19_taskDone_105 : decode cX19_taskDone 105 = .ok (.if_icmp .ne 13, 3) := by decide +kernel
theorem dX19_taskDone_108 : decode cX19_taskDone 108 = .ok (.aload_n 0, 1) := by decide +kernel
theorem dX19_taskDone_109 : decode cX19_taskDone 109 = .ok (.getfield 64, 3) := by decide +kernel
theorem dX19_taskDone_112 : decode cX19_taskDone 112 = .ok (.iload_n 2, 1) := by decide +kernel
theorem dX19_taskDone_113 : decode cX19_taskDone 113 = .ok (.dup2, 1) := by decide +kernel
theorem dX19_taskDone_114 : decode cX19_taskDone 114 = .ok (.iaload, 1) := by decide +kernel
theorem dX19_taskDone_115 : decode cX19_taskDone 115 = .ok (.iconst 1, 1) := by decide +kernel
theorem dX19_taskDone_116 : decode cX19_taskDone 116 = .ok (.iadd, 1) := by decide +kernel
theorem dX19_taskDone_117 : decode cX19_taskDone 117 = .ok (.iastore, 1) := by decide +kernel
theorem dX19_taskDone_118 : decode cX19_taskDone 118 = .ok (.iinc 4 1, 3) := by decide +kernel
theorem dX19_taskDone_121 : decode cX19_taskDone 121 = .ok (.goto (-49), 3) := by decide +kernel
theorem dX19_taskDone_124 : decode cX19_taskDone 124 = .ok (.return_, 1) := by decide +kernel
theorem cwX19_taskDone : mw_cwV yX19_taskDone cX19_taskDone 5 (none) 1 := ⟨⟨wd_13, wd_4061, by decide +kernel⟩, wd_4060, sl_313⟩
set_option maxHeartbeats 4000000 in
set_option maxRecDepth 100000 in
theorem tX19_taskDone (l : Launch) (G : mwG) (ad : Nat → Nat) (fu : Nat) (a1 : Int32) (M : mwM) (L : mwL) {M0 : mwM} {L0 : mwL} (hD : DX19_taskDone fu a1 M L = some (M0, L0)) : Met l yX19_taskDone (Cond.code yX19_taskDone cX19_taskDone 5 (none) :: GT) ({ frames := 8, cells := 0, slots := 0, locals := 196 }) (mw_Pre G ad NF TF FF M L [.ref (ad 732), .int a1]) (mw_Qv G ad NF TF FF (mw_eqV M0 L0)) 0 0 (mw_fr G) := by
  refine mw_enter (by decide) (Nat.le_of_ble_eq_true rfl) ?_
  intro p e s m below meth c ls C hr hlocks hnm hw hl
  have hl : lv_has ls 5 [(0, .ref (ad 732)), (1, .int a1)] := hl
  have hh72 : ∀ (f : Nat) (v2 : Int32) (v3 : Int32) (v4 : Int32) (M : mwM) (L : mwL) (H : Heap) (locs : List Loc) (ls : Array Slot), fX19_taskDone_h72 fu a1 f (v2, v3, v4, M, L) = some (M0, L0) → mw_W G ad NF TF FF M L H locs → lv_has ls 5 [(0, .ref (ad 732)), (2, .int v2), (3, .int v3), (4, .int v4)] → W p l e ({ frames := 8, cells := 0, slots := 0, locals := 196 }) s m [.ref (ad 732), .int a1].toArray below meth c H locs 0 0 (MQ below (mw_Qv G ad NF TF FF (mw_eqV M0 L0)) [.ref (ad 732), .int a1].toArray s 0 0 (mw_fr G)) (F0 m 72 ls []) := by
    intro f
    induction f with
    | zero => intro v2 v3 v4 M L H locs ls hD; cases hD
    | succ f72 ih72 =>
      intro v2 v3 v4 M L H locs ls hD hw hl
      replace hD : fX19_taskDone_i72 fu a1 (fX19_taskDone_h72 fu a1 f72) v2 v3 v4 M L = some (M0, L0) := hD
      have hb118 : ∀ (v2 : Int32) (v3 : Int32) (v4 : Int32) (M : mwM) (L : mwL) (H : Heap) (locs : List Loc) (ls : Array Slot), fX19_taskDone_b118 fu a1 (fX19_taskDone_h72 fu a1 f72) v2 v3 v4 M L = some (M0, L0) → mw_W G ad NF TF FF M L H locs → lv_has ls 5 [(0, .ref (ad 732)), (2, .int v2), (3, .int v3), (4, .int v4)] → W p l e ({ frames := 8, cells := 0, slots := 0, locals := 196 }) s m [.ref (ad 732), .int a1].toArray below meth c H locs 0 0 (MQ below (mw_Qv G ad NF TF FF (mw_eqV M0 L0)) [.ref (ad 732), .int a1].toArray s 0 0 (mw_fr G)) (F0 m 118 ls []) := by
        intro v2 v3 v4 M L H locs ls hD hw hl
        unfold fX19_taskDone_b118 at hD
        obtain ⟨x11, ex11, hD⟩ := g_let hD
        refine lv_iinc (v := x11) (lv' := [(4, .int x11), (0, .ref (ad 732)), (2, .int v2), (3, .int v3)]) C.1.1 C.1.2.1 dX19_taskDone_118 hl (k := 3) rfl (by rw [ex11]; rfl) (by decide) rfl (fun ls hl => ?_)
        refine lv_goto (tgt := 72) C.1.1 C.1.2.1 dX19_taskDone_121 (by decide) ?_
        exact ih72 v2 v3 x11 M L _ _ ls hD hw (lv_sub hl [1, 2, 3, 0] rfl)
      unfold fX19_taskDone_i72 at hD
      refine lv_iload C.1.1 C.1.2.1 dX19_taskDone_72 (lv_at hl 3 rfl) ?_
      refine lv_iload_n C.1.1 C.1.2.1 dX19_taskDone_74 rfl (lv_at hl 2 rfl) ?_
      refine lv_icmp_ge (tgt := 124) C.1.1 C.1.2.1 dX19_taskDone_75 (by decide) (fun c1 => ?_) (fun c1 => ?_)
      · replace hD := g_pos c1 hD
        exact mr_vret C hr hlocks hw (Option.some.inj hD) dX19_taskDone_124
      · replace hD := g_neg c1 hD
        refine lv_aload_n C.1.1 C.1.2.1 dX19_taskDone_78 rfl (lv_at hl 0 rfl) ?_
        refine mr_getR C hw kc_19 82 (by decide) tf_732 ff_732_82 wd_2863 dX19_taskDone_79 (by decide) rfl ?_
        refine lv_iload_n C.1.1 C.1.2.1 dX19_taskDone_82 rfl (lv_at hl 1 rfl) ?_
        obtain ⟨q2, hD⟩ := g_ck hD
        refine mr_aald C hw (by decide) tf_922 (by decide) (by decide) rfl rfl q2 (fr_922 _ (g_lt q2)) dX19_taskDone_83 ?_
        refine lv_aload_n C.1.1 C.1.2.1 dX19_taskDone_84 rfl (lv_at hl 0 rfl) ?_
        refine mr_getR C hw kc_19 38 (by decide) tf_732 ff_732_38 wd_2819 dX19_taskDone_85 (by decide) rfl ?_
        refine lv_bipush (v := 16) C.1.1 C.1.2.1 dX19_taskDone_88 (by decide) ?_
        refine lv_iload_n C.1.1 C.1.2.1 dX19_taskDone_90 rfl (lv_at hl 1 rfl) ?_
        refine lv_imul C.1.1 C.1.2.1 dX19_taskDone_91 ?_
        refine lv_iload C.1.1 C.1.2.1 dX19_taskDone_92 (lv_at hl 3 rfl) ?_
        refine lv_iadd C.1.1 C.1.2.1 dX19_taskDone_94 ?_
        obtain ⟨q3, hD⟩ := g_ck hD
        refine mr_iald C hw (by decide) tf_753 q3 dX19_taskDone_95 ?_
        refine lv_aload_n C.1.1 C.1.2.1 dX19_taskDone_96 rfl (lv_at hl 0 rfl) ?_
        refine mr_getI C hw kc_19 83 (by decide) tf_732 wd_2864 dX19_taskDone_97 (by decide) rfl ?_
        refine lv_i2l C.1.1 C.1.2.1 dX19_taskDone_100 rfl ?_
        obtain ⟨r6, M4, L5, h1, hD⟩ := g_b3 hD
        refine md_cvI (As := [.int (M 753 ((16 * v2) + v4).toNatClampNeg), .long ((M 732 83).toInt64)]) (rest := []) C hw (tX13_event l G ad fu ((964 + 53 * v2.toNatClampNeg)) (M 753 ((16 * v2) + v4).toNatClampNeg) ((M 732 83).toInt64) M L h1 (isMc_of (g_lt q2))) kc_13 (Mc_N0 (isMc_of (g_lt q2))) (Mc_T0 (isMc_of (g_lt q2))) wd_4062 cwX13_event ⟨Nat.le_of_ble_eq_true rfl, Nat.le_of_ble_eq_true rfl⟩ rfl hl.1 (Nat.le_of_ble_eq_true rfl) dX19_taskDone_101 rfl rfl ⟨Nat.zero_le _, Nat.zero_le _⟩ rfl (fun H locs hw => ?_)
        refine lv_iconst (v := (-1)) C.1.1 C.1.2.1 dX19_taskDone_104 (by decide) ?_
        refine lv_icmp_ne (tgt := 118) C.1.1 C.1.2.1 dX19_taskDone_105 (by decide) (fun c7 => ?_) (fun c7 => ?_)
        · replace hD := g_neg c7 hD
          exact hb118 v2 v3 v4 M4 L5 _ _ ls hD hw (lv_sub hl [0, 1, 2, 3] rfl)
        · replace hD := g_pos c7 hD
          refine lv_aload_n C.1.1 C.1.2.1 dX19_taskDone_108 rfl (lv_at hl 0 rfl) ?_
          refine mr_getR C hw kc_19 36 (by decide) tf_732 ff_732_36 wd_2817 dX19_taskDone_109 (by decide) rfl ?_
          refine lv_iload_n C.1.1 C.1.2.1 dX19_taskDone_112 rfl (lv_at hl 1 rfl) ?_
          refine lv_dup2_11 C.1.1 C.1.2.1 dX19_taskDone_113 rfl rfl ?_
          obtain ⟨q8, hD⟩ := g_ck hD
          refine mr_iald C hw (by decide) tf_751 q8 dX19_taskDone_114 ?_
          refine lv_iconst (v := 1) C.1.1 C.1.2.1 dX19_taskDone_115 (by decide) ?_
          refine lv_iadd C.1.1 C.1.2.1 dX19_taskDone_116 ?_
          obtain ⟨q9, hD⟩ := g_ck hD
          obtain ⟨M10, eM10, hD⟩ := g_let hD
          refine mr_iast C hw (by decide) tf_751 q9 dX19_taskDone_117 (fun H locs hw => ?_)
          replace hw : mw_W G ad NF TF FF M10 L5 H locs := by rw [eM10]; exact hw
          exact hb118 v2 v3 v4 M10 L5 _ _ ls hD hw (lv_sub hl [0, 1, 2, 3] rfl)
  have hb69 : ∀ (v2 : Int32) (v3 : Int32) (M : mwM) (L : mwL) (H : Heap) (locs : List Loc) (ls : Array Slot), fX19_taskDone_b69 fu a1 v2 v3 M L = some (M0, L0) → mw_W G ad NF TF FF M L H locs → lv_has ls 5 [(0, .ref (ad 732)), (2, .int v2), (3, .int v3)] → W p l e ({ frames := 8, cells := 0, slots := 0, locals := 196 }) s m [.ref (ad 732), .int a1].toArray below meth c H locs 0 0 (MQ below (mw_Qv G ad NF TF FF (mw_eqV M0 L0)) [.ref (ad 732), .int a1].toArray s 0 0 (mw_fr G)) (F0 m 69 ls []) := by
    intro v2 v3 M L H locs ls hD hw hl
    unfold fX19_taskDone_b69 at hD
    refine lv_iconst (v := 0) C.1.1 C.1.2.1 dX19_taskDone_69 (by decide) ?_
    refine lv_istore (lv' := [(4, .int 0), (0, .ref (ad 732)), (2, .int v2), (3, .int v3)]) C.1.1 C.1.2.1 dX19_taskDone_70 hl (by decide) rfl (fun ls hl => ?_)
    exact hh72 fu v2 v3 0 M L _ _ ls hD hw (lv_sub hl [1, 2, 3, 0] rfl)
  unfold DX19_taskDone at hD
  refine lv_aload_n C.1.1 C.1.2.1 dX19_taskDone_0 rfl (lv_at hl 0 rfl) ?_
  refine mr_getR C hw kc_19 32 (by decide) tf_732 ff_732_32 wd_2813 dX19_taskDone_1 (by decide) rfl ?_
  refine lv_iload_n C.1.1 C.1.2.1 dX19_taskDone_4 rfl (lv_at hl 1 rfl) ?_
  refine lv_dup2_11 C.1.1 C.1.2.1 dX19_taskDone_5 rfl rfl ?_
  obtain ⟨q12, hD⟩ := g_ck hD
  refine mr_iald C hw (by decide) tf_748 q12 dX19_taskDone_6 ?_
  refine lv_iconst (v := 1) C.1.1 C.1.2.1 dX19_taskDone_7 (by decide) ?_
  refine lv_iadd C.1.1 C.1.2.1 dX19_taskDone_8 ?_
  obtain ⟨q13, hD⟩ := g_ck hD
  obtain ⟨M14, eM14, hD⟩ := g_let hD
  refine mr_iast C hw (by decide) tf_748 q13 dX19_taskDone_9 (fun H locs hw => ?_)
  replace hw : mw_W G ad NF TF FF M14 L H locs := by rw [eM14]; exact hw
  refine lv_aload_n C.1.1 C.1.2.1 dX19_taskDone_10 rfl (lv_at hl 0 rfl) ?_
  refine mr_getR C hw kc_19 31 (by decide) tf_732 ff_732_31 wd_2812 dX19_taskDone_11 (by decide) rfl ?_
  refine lv_iload_n C.1.1 C.1.2.1 dX19_taskDone_14 rfl (lv_at hl 1 rfl) ?_
  obtain ⟨q15, hD⟩ := g_ck hD
  refine mr_iald C hw (by decide) tf_747 q15 dX19_taskDone_15 ?_
  obtain ⟨x16, ex16, hD⟩ := g_let hD
  refine W.eq (g2 := F0 m 16 ls (.int x16 :: [])) (by rw [ex16]) ?_
  refine lv_istore_n (lv' := [(2, .int x16), (0, .ref (ad 732)), (1, .int a1)]) C.1.1 C.1.2.1 dX19_taskDone_16 rfl hl (by decide) rfl (fun ls hl => ?_)
  refine lv_iload_n C.1.1 C.1.2.1 dX19_taskDone_17 rfl (lv_at hl 0 rfl) ?_
  refine lv_if_ge (tgt := 22) C.1.1 C.1.2.1 dX19_taskDone_18 (by decide) (fun c17 => ?_) (fun c17 => ?_)
  · replace hD := g_pos c17 hD
    refine lv_aload_n C.1.1 C.1.2.1 dX19_taskDone_22 rfl (lv_at hl 1 rfl) ?_
    refine mr_getR C hw kc_19 37 (by decide) tf_732 ff_732_37 wd_2818 dX19_taskDone_23 (by decide) rfl ?_
    refine lv_iload_n C.1.1 C.1.2.1 dX19_taskDone_26 rfl (lv_at hl 0 rfl) ?_
    obtain ⟨q18, hD⟩ := g_ck hD
    refine mr_iald C hw (by decide) tf_752 q18 dX19_taskDone_27 ?_
    obtain ⟨x19, ex19, hD⟩ := g_let hD
    refine W.eq (g2 := F0 m 28 ls (.int x19 :: [])) (by rw [ex19]) ?_
    refine lv_istore_n (lv' := [(3, .int x19), (2, .int x16), (0, .ref (ad 732)), (1, .int a1)]) C.1.1 C.1.2.1 dX19_taskDone_28 rfl hl (by decide) rfl (fun ls hl => ?_)
    refine lv_aload_n C.1.1 C.1.2.1 dX19_taskDone_29 rfl (lv_at hl 2 rfl) ?_
    refine mr_getR C hw kc_19 37 (by decide) tf_732 ff_732_37 wd_2818 dX19_taskDone_30 (by decide) rfl ?_
    refine lv_iload_n C.1.1 C.1.2.1 dX19_taskDone_33 rfl (lv_at hl 1 rfl) ?_
    refine lv_iconst (v := 0) C.1.1 C.1.2.1 dX19_taskDone_34 (by decide) ?_
    obtain ⟨q20, hD⟩ := g_ck hD
    obtain ⟨M21, eM21, hD⟩ := g_let hD
    refine mr_iast C hw (by decide) tf_752 q20 dX19_taskDone_35 (fun H locs hw => ?_)
    replace hw : mw_W G ad NF TF FF M21 L H locs := by rw [eM21]; exact hw
    refine lv_iload_n C.1.1 C.1.2.1 dX19_taskDone_36 rfl (lv_at hl 0 rfl) ?_
    refine lv_if_ne (tgt := 69) C.1.1 C.1.2.1 dX19_taskDone_37 (by decide) (fun c22 => ?_) (fun c22 => ?_)
    · replace hD := g_neg c22 hD
      exact hb69 x16 x19 M21 L _ _ ls hD hw (lv_sub hl [2, 1, 0] rfl)
    · replace hD := g_pos c22 hD
      refine lv_aload_n C.1.1 C.1.2.1 dX19_taskDone_40 rfl (lv_at hl 2 rfl) ?_
      refine mr_getR C hw kc_19 82 (by decide) tf_732 ff_732_82 wd_2863 dX19_taskDone_41 (by decide) rfl ?_
      refine lv_iload_n C.1.1 C.1.2.1 dX19_taskDone_44 rfl (lv_at hl 1 rfl) ?_
      obtain ⟨q23, hD⟩ := g_ck hD
      refine mr_aald C hw (by decide) tf_922 (by decide) (by decide) rfl rfl q23 (fr_922 _ (g_lt q23)) dX19_taskDone_45 ?_
      refine lv_iconst (v := 0) C.1.1 C.1.2.1 dX19_taskDone_46 (by decide) ?_
      refine lv_aload_n C.1.1 C.1.2.1 dX19_taskDone_47 rfl (lv_at hl 2 rfl) ?_
      refine mr_getI C hw kc_19 83 (by decide) tf_732 wd_2864 dX19_taskDone_48 (by decide) rfl ?_
      refine lv_i2l C.1.1 C.1.2.1 dX19_taskDone_51 rfl ?_
      obtain ⟨r26, M24, L25, h1, hD⟩ := g_b3 hD
      refine md_cvI (As := [.int 0, .long ((M21 732 83).toInt64)]) (rest := []) C hw (tX13_event l G ad fu ((964 + 53 * x16.toNatClampNeg)) 0 ((M21 732 83).toInt64) M21 L h1 (isMc_of (g_lt q23))) kc_13 (Mc_N0 (isMc_of (g_lt q23))) (Mc_T0 (isMc_of (g_lt q23))) wd_4062 cwX13_event ⟨Nat.le_of_ble_eq_true rfl, Nat.le_of_ble_eq_true rfl⟩ rfl hl.1 (Nat.le_of_ble_eq_true rfl) dX19_taskDone_52 rfl rfl ⟨Nat.zero_le _, Nat.zero_le _⟩ rfl (fun H locs hw => ?_)
      refine lv_iconst (v := (-1)) C.1.1 C.1.2.1 dX19_taskDone_55 (by decide) ?_
      refine lv_icmp_ne (tgt := 69) C.1.1 C.1.2.1 dX19_taskDone_56 (by decide) (fun c27 => ?_) (fun c27 => ?_)
      · replace hD := g_neg c27 hD
        exact hb69 x16 x19 M24 L25 _ _ ls hD hw (lv_sub hl [2, 1, 0] rfl)
      · replace hD := g_pos c27 hD
        refine lv_aload_n C.1.1 C.1.2.1 dX19_taskDone_59 rfl (lv_at hl 2 rfl) ?_
        refine mr_getR C hw kc_19 36 (by decide) tf_732 ff_732_36 wd_2817 dX19_taskDone_60 (by decide) rfl ?_
        refine lv_iload_n C.1.1 C.1.2.1 dX19_taskDone_63 rfl (lv_at hl 1 rfl) ?_
        refine lv_dup2_11 C.1.1 C.1.2.1 dX19_taskDone_64 rfl rfl ?_
        obtain ⟨q28, hD⟩ := g_ck hD
        refine mr_iald C hw (by decide) tf_751 q28 dX19_taskDone_65 ?_
        refine lv_iconst (v := 1) C.1.1 C.1.2.1 dX19_taskDone_66 (by decide) ?_
        refine lv_iadd C.1.1 C.1.2.1 dX19_taskDone_67 ?_
        obtain ⟨q29, hD⟩ := g_ck hD
        obtain ⟨M30, eM30, hD⟩ := g_let hD
        refine mr_iast C hw (by decide) tf_751 q29 dX19_taskDone_68 (fun H locs hw => ?_)
        replace hw : mw_W G ad NF TF FF M30 L25 H locs := by rw [eM30]; exact hw
        exact hb69 x16 x19 M30 L25 _ _ ls hD hw (lv_sub hl [2, 1, 0] rfl)
  · replace hD := g_neg c17 hD
    exact mr_vret C hr hlocks hw (Option.some.inj hD) dX19_taskDone_21

theorem dX19_microsecond_0 : decode cX19_microsecond 0 = .ok (.iconst 0, 1) := by decide +kernel
theorem dX19_microsecond_1 : decode cX19_microsecond 1 = .ok (.istore_n 1, 1) := by decide +kernel
theorem dX19_microsecond_2 : decode cX19_microsecond 2 = .ok (.iload_n 1, 1) := by decide +kernel
theorem dX19_microsecond_3 : decode cX19_microsecond 3 = .ok (.aload_n 0, 1) := by decide +kernel
theorem dX19_microsecond_4 : decode cX19_microsecond 4 = .ok (.getfield 568, 3) := by decide +kernel
theorem dX19_microsecond_7 : decode cX19_microsecond 7 = .ok (.if_icmp .ge 49, 3) := by decide +kernel
theorem dX19_microsecond_10 : decode cX19_microsecond 10 = .ok (.aload_n 0, 1) := by decide +kernel
theorem dX19_microsecond_11 : decode cX19_microsecond 11 = .ok (.getfield 600, 3) := by decide +kernel
theorem dX19_microsecond_14 : decode cX19_microsecond 14 = .ok (.ifCond .le 42, 3) := by decide +kernel
theorem dX19_microsecond_17 : decode cX19_microsecond 17 = .ok (.aload_n 0, 1) := by decide +kernel
theorem dX19_microsecond_18 : decode cX19_microsecond 18 = .ok (.getfield 600, 3) := by decide +kernel
theorem dX19_microsecond_21 : decode cX19_microsecond 21 = .ok (.aload_n 0, 1) := by decide +kernel
theorem dX19_microsecond_22 : decode cX19_microsecond 22 = .ok (.getfield 159, 3) := by decide +kernel
theorem dX19_microsecond_25 : decode cX19_microsecond 25 = .ok (.iload_n 1, 1) := by decide +kernel
theorem dX19_microsecond_26 : decode cX19_microsecond 26 = .ok (.iaload, 1) := by decide +kernel
theorem dX19_microsecond_27 : decode cX19_microsecond 27 = .ok (.irem, 1) := by decide +kernel
theorem dX19_microsecond_28 : decode cX19_microsecond 28 = .ok (.ifCond .ne 22, 3) := by decide +kernel
theorem dX19_microsecond_31 : decode cX19_microsecond 31 = .ok (.aload_n 0, 1) := by decide +kernel
theorem dX19_microsecond_32 : decode cX19_microsecond 32 = .ok (.getfield 221, 3) := by decide +kernel
theorem dX19_microsecond_35 : decode cX19_microsecond 35 = .ok (.aload_n 0, 1) := by decide +kernel
theorem dX19_microsecond_36 : decode cX19_microsecond 36 = .ok (.getfield 150, 3) := by decide +kernel
theorem dX19_microsecond_39 : decode cX19_microsecond 39 = .ok (.iload_n 1, 1) := by decide +kernel
theorem dX19_microsecond_40 : decode cX19_microsecond 40 = .ok (.iaload, 1) := by decide +kernel
theorem dX19_microsecond_41 : decode cX19_microsecond 41 = .ok (.baload, 1) := by decide +kernel
theorem dX19_microsecond_42 : decode cX19_microsecond 42 = .ok (.ifCond .ne 8, 3) := by decide +kernel
theorem dX19_microsecond_45 : decode cX19_microsecond 45 = .ok (.aload_n 0, 1) := by decide +kernel
theorem dX19_microsecond_46 : decode cX19_microsecond 46 = .ok (.iload_n 1, 1) := by decide +kernel
theorem dX19_microsecond_47 : decode cX19_microsecond 47 = .ok (.invokevirtual 786, 3) := by decide +kernel
theorem dX19_microsecond_50 : decode cX19_microsecond 50 = .ok (.iinc 1 1, 3) := by decide +kernel
theorem dX19_microsecond_53 : decode cX19_microsecond 53 = .ok (.goto (-51), 3) := by decide +kernel
theorem dX19_microsecond_56 : decode cX19_microsecond 56 = .ok (.aload_n 0, 1) := by decide +kernel
theorem dX19_microsecond_57 : decode cX19_microsecond 57 = .ok (.getfield 184, 3) := by decide +kernel
theorem dX19_microsecond_60 : decode cX19_microsecond 60 = .ok (.iconst 1, 1) := by decide +kernel
theorem dX19_microsecond_61 : decode cX19_microsecond 61 = .ok (.invokevirtual 788, 3) := by decide +kernel
theorem dX19_microsecond_64 : decode cX19_microsecond 64 = .ok (.istore_n 1, 1) := by decide +kernel
theorem dX19_microsecond_65 : decode cX19_microsecond 65 = .ok (.iconst 0, 1) := by decide +kernel
theorem dX19_microsecond_66 : decode cX19_microsecond 66 = .ok (.istore_n 2, 1) := by decide +kernel
theorem dX19_microsecond_67 : decode cX19_microsecond 67 = .ok (.iload_n 2, 1) := by decide +kernel
theorem dX19_microsecond_68 : decode cX19_microsecond 68 = .ok (.aload_n 0, 1) := by decide +kernel
theorem dX19_microsecond_69 : decode cX19_microsecond 69 = .ok (.getfield 448, 3) := by decide +kernel
theorem dX19_microsecond_72 : decode cX19_microsecond 72 = .ok (.if_icmp .ge 25, 3) := by decide +kernel
theorem dX19_microsecond_75 : decode cX19_microsecond 75 = .ok (.aload_n 0, 1) := by decide +kernel
theorem dX19_microsecond_76 : decode cX19_microsecond 76 = .ok (.getfield 227, 3) := by decide +kernel
theorem dX19_microsecond_79 : decode cX19_microsecond 79 = .ok (.iload_n 2, 1) := by decide +kernel
theorem dX19_microsecond_80 : decode cX19_microsecond 80 = .ok (.aload_n 0, 1) := by decide +kernel
theorem dX19_microsecond_81 : decode cX19_microsecond 81 = .ok (.getfield 177, 3) := by decide +kernel
theorem dX19_microsecond_84 : decode cX19_microsecond 84 = .ok (.iload_n 2, 1) := by decide +kernel
theorem dX19_microsecond_85 : decode cX19_microsecond 85 = .ok (.iconst 1, 1) := by decide +kernel
theorem dX19_microsecond_86 : decode cX19_microsecond 86 = .ok (.iadd, 1) := by decide +kernel
theorem dX19_microsecond_87 : decode cX19_microsecond 87 = .ok (.invokevirtual 791, 3) := by decide +kernel
theorem dX19_microsecond_90 : decode cX19_microsecond 90 = .ok (.lastore, 1) := by decide +kernel
theorem dX19_microsecond_91 : decode cX19_microsecond 91 = .ok (.iinc 2 1, 3) := by decide +kernel
theorem dX19_microsecond_94 : decode cX19_microsecond 94 = .ok (.goto (-27), 3) := by decide +kernel
theorem dX19_microsecond_97 : decode cX19_microsecond 97 = .ok (.aload_n 0, 1) := by decide +kernel
theorem dX19_microsecond_98 : decode cX19_microsecond 98 = .ok (.getfield 177, 3) := by decide +kernel
theorem dX19_microsecond_101 : decode cX19_microsecond 101 = .ok (.lconst 1, 1) := by decide +kernel
theorem dX19_microsecond_102 : decode cX19_microsecond 102 = .ok (.invokevirtual 794, 3) := by decide +kernel
theorem dX19_microsecond_105 : decode cX19_microsecond 105 = .ok (.istore_n 2, 1) := by decide +kernel
theorem dX19_microsecond_106 : decode cX19_microsecond 106 = .ok (.aload_n 0, 1) := by decide +kernel
theorem dX19_microsecond_107 : decode cX19_microsecond 107 = .ok (.dup, 1) := by decide +kernel
theorem dX19_microsecond_108 : decode cX19_microsecond 108 = .ok (.getfield 600, 3) := by decide +kernel
theorem dX19_microsecond_111 : decode cX19_microsecond 111 = .ok (.iconst 1, 1) := by decide +kernel
theorem dX19_microsecond_112 : decode cX19_microsecond 112 = .ok (.iadd, 1) := by decide +kernel
theorem dX19_microsecond_113 : decode cX19_microsecond 113 = .ok (.putfield 600, 3) := by decide +kernel
theorem dX19_microsecond_116 : decode cX19_microsecond 116 = .ok (.iconst 0, 1) := by decide +kernel
theorem dX19_microsecond_117 : decode cX19_microsecond 117 = .ok (.istore_n 3, 1) := by decide +kernel
theorem dX19_microsecond_118 : decode cX19_microsecond 118 = .ok (.iload_n 3, 1) := by decide +kernel
theorem dX19_microsecond_119 : decode cX19_microsecond 119 = .ok (.aload_n 0, 1) := by decide +kernel
theorem dX19_microsecond_120 : decode cX19_microsecond 120 = .ok (.getfield 435, 3) := by decide +kernel
theorem dX19_microsecond_123 : decode cX19_microsecond 123 = .ok (.if_icmp .gt 14, 3) := by decide +kernel
theorem dX19_microsecond_126 : decode cX19_microsecond 126 = .ok (.aload_n 0, 1) := by decide +kernel
theorem dX19_microsecond_127 : decode cX19_microsecond 127 = .ok (.iload_n 3, 1) := by decide +kernel
theorem dX19_microsecond_128 : decode cX19_microsecond 128 = .ok (.invokevirtual 796, 3) := by decide +kernel
theorem dX19_microsecond_131 : decode cX19_microsecond 131 = .ok (.iinc 3 1, 3) := by decide +kernel
theorem dX19_microsecond_134 : decode cX19_microsecond 134 = .ok (.goto (-16), 3) := by decide +kernel
theorem dX19_microsecond_137 : decode cX19_microsecond 137 = .ok (.iconst 0, 1) := by decide +kernel
theorem dX19_microsecond_138 : decode cX19_microsecond 138 = .ok (.istore_n 3, 1) := by decide +kernel
theorem dX19_microsecond_139 : decode cX19_microsecond 139 = .ok (.iload_n 3, 1) := by decide +kernel
theorem dX19_microsecond_140 : decode cX19_microsecond 140 = .ok (.aload_n 0, 1) := by decide +kernel
theorem dX19_microsecond_141 : decode cX19_microsecond 141 = .ok (.getfield 448, 3) := by decide +kernel
theorem dX19_microsecond_144 : decode cX19_microsecond 144 = .ok (.if_icmp .ge 55, 3) := by decide +kernel
theorem dX19_microsecond_147 : decode cX19_microsecond 147 = .ok (.aload_n 0, 1) := by decide +kernel
theorem dX19_microsecond_148 : decode cX19_microsecond 148 = .ok (.getfield 177, 3) := by decide +kernel
theorem dX19_microsecond_151 : decode cX19_microsecond 151 = .ok (.iload_n 3, 1) := by decide +kernel
theorem dX19_microsecond_152 : decode cX19_microsecond 152 = .ok (.iconst 1, 1) := by decide +kernel
theorem dX19_microsecond_153 : decode cX19_microsecond 153 = .ok (.iadd, 1) := by decide +kernel
theorem dX19_microsecond_154 : decode cX19_microsecond 154 = .ok (.invokevirtual 791, 3) := by decide +kernel
theorem dX19_microsecond_157 : decode cX19_microsecond 157 = .ok (.lstore 4, 2) := by decide +kernel
theorem dX19_microsecond_159 : decode cX19_microsecond 159 = .ok (.lload 4, 2) := by decide +kernel
theorem dX19_microsecond_161 : decode cX19_microsecond 161 = .ok (.aload_n 0, 1) := by decide +kernel
theorem dX19_microsecond_162 : decode cX19_microsecond 162 = .ok (.getfield 227, 3) := by decide +kernel
theorem dX19_microsecond_165 : decode cX19_microsecond 165 = .ok (.iload_n 3, 1) := by decide +kernel
theorem dX19_microsecond_166 : decode cX19_microsecond 166 = .ok (.laload, 1) := by decide +kernel
theorem dX19_microsecond_167 : decode cX19_microsecond 167 = .ok (.lcmp, 1) := by decide +kernel
theorem dX19_microsecond_168 : decode cX19_microsecond 168 = .ok (.ifCond .le 25, 3) := by decide +kernel
theorem dX19_microsecond_171 : decode cX19_microsecond 171 = .ok (.lload 4, 2) := by decide +kernel
theorem dX19_microsecond_173 : decode cX19_microsecond 173 = .ok (.aload_n 0, 1) := by decide +kernel
theorem dX19_microsecond_174 : decode cX19_microsecond 174 = .ok (.getfield 49, 3) := by decide +kernel
theorem dX19_microsecond_177 : decode cX19_microsecond 177 = .ok (.iload_n 3, 1) := by decide +kernel
theorem dX19_microsecond_178 : decode cX19_microsecond 178 = .ok (.iaload, 1) := by decide +kernel
theorem dX19_microsecond_179 : decode cX19_microsecond 179 = .ok (.iconst 1, 1) := by decide +kernel
theorem dX19_microsecond_180 : decode cX19_microsecond 180 = .ok (.iadd, 1) := by decide +kernel
theorem dX19_microsecond_181 : decode cX19_microsecond 181 = .ok (.i2l, 1) := by decide +kernel
theorem dX19_microsecond_182 : decode cX19_microsecond 182 = .ok (.lrem, 1) := by decide +kernel
theorem dX19_microsecond_183 : decode cX19_microsecond 183 = .ok (.lconst 0, 1) := by decide +kernel
theorem dX19_microsecond_184 : decode cX19_microsecond 184 = .ok (.lcmp, 1) := by decide +kernel
theorem dX19_microsecond_185 : decode cX19_microsecond 185 = .ok (.ifCond .ne 8, 3) := by decide +kernel
theorem dX19_microsecond_188 : decode cX19_microsecond 188 = .ok (.aload_n 0, 1) := by decide +kernel
theorem dX19_microsecond_189 : decode cX19_microsecond 189 = .ok (.iload_n 3, 1) := by decide +kernel
theorem dX19_microsecond_190 : decode cX19_microsecond 190 = .ok (.invokevirtual 799, 3) := by decide +kernel
theorem dX19_microsecond_193 : decode cX19_microsecond 193 = .ok (.iinc 3 1, 3) := by decide +kernel
theorem dX19_microsecond_196 : decode cX19_microsecond 196 = .ok (.goto (-57), 3) := by decide +kernel
theorem dX19_microsecond_199 : decode cX19_microsecond 199 = .ok (.iconst 0, 1) := by decide +kernel
theorem dX19_microsecond_200 : decode cX19_microsecond 200 = .ok (.istore_n 3, 1) := by decide +kernel
theorem dX19_microsecond_201 : decode cX19_microsecond 201 = .ok (.iload_n 3, 1) := by decide +kernel
theorem dX19_microsecond_202 : decode cX19_microsecond 202 = .ok (.aload_n 0, 1) := by decide +kernel
theorem dX19_microsecond_203 : decode cX19_microsecond 203 = .ok (.getfield 558, 3) := by decide +kernel
theorem dX19_microsecond_206 : decode cX19_microsecond 206 = .ok (.if_icmp .ge 68, 3) := by decide +kernel
theorem dX19_microsecond_209 : decode cX19_microsecond 209 = .ok (.aload_n 0, 1) := by decide +kernel
theorem dX19_microsecond_210 : decode cX19_microsecond 210 = .ok (.getfield 600, 3) := by decide +kernel
theorem dX19_microsecond_213 : decode cX19_microsecond 213 = .ok (.i2l, 1) := by decide +kernel
theorem dX19_microsecond_214 : decode cX19_microsecond 214 = .ok (.aload_n 0, 1) := by decide +kernel
theorem dX19_microsecond_215 : decode cX19_microsecond 215 = .ok (.getfield 147, 3) := by decide +kernel
theorem dX19_microsecond_218 : decode cX19_microsecond 218 = .ok (.iload_n 3, 1) := by decide +kernel
theorem dX19_microsecond_219 : decode cX19_microsecond 219 = .ok (.laload, 1) := by decide +kernel
theorem dX19_microsecond_220 : decode cX19_microsecond 220 = .ok (.lsub, 1) := by decide +kernel
theorem dX19_microsecond_221 : decode cX19_microsecond 221 = .ok (.ldc2_w 802, 3) := by decide +kernel
theorem dX19_microsecond_224 : decode cX19_microsecond 224 = .ok (.aload_n 0, 1) := by decide +kernel
theorem dX19_microsecond_225 : decode cX19_microsecond 225 = .ok (.getfield 103, 3) := by decide +kernel
theorem dX19_microsecond_228 : decode cX19_microsecond 228 = .ok (.aload_n 0, 1) := by decide +kernel
theorem dX19_microsecond_229 : decode cX19_microsecond 229 = .ok (.getfield 138, 3) := by decide +kernel
theorem dX19_microsecond_232 : decode cX19_microsecond 232 = .ok (.iload_n 3, 1) := by decide +kernel
theorem dX19_microsecond_233 : decode cX19_microsecond 233 = .ok (.iaload, 1) := by decide +kernel
theorem dX19_microsecond_234 : decode cX19_microsecond 234 = .ok (.iaload, 1) := by decide +kernel
theorem dX19_microsecond_235 : decode cX19_microsecond 235 = .ok (.i2l, 1) := by decide +kernel
theorem dX19_microsecond_236 : decode cX19_microsecond 236 = .ok (.lmul, 1) := by decide +kernel
theorem dX19_microsecond_237 : decode cX19_microsecond 237 = .ok (.lcmp, 1) := by decide +kernel
theorem dX19_microsecond_238 : decode cX19_microsecond 238 = .ok (.ifCond .lt 30, 3) := by decide +kernel
theorem dX19_microsecond_241 : decode cX19_microsecond 241 = .ok (.aload_n 0, 1) := by decide +kernel
theorem dX19_microsecond_242 : decode cX19_microsecond 242 = .ok (.getfield 147, 3) := by decide +kernel
theorem dX19_microsecond_245 : decode cX19_microsecond 245 = .ok (.iload_n 3, 1) := by decide +kernel
theorem dX19_microsecond_246 : decode cX19_microsecond 246 = .ok (.aload_n 0, 1) := by decide +kernel
theorem dX19_microsecond_247 : decode cX19_microsecond 247 = .ok (.getfield 600, 3) := by decide +kernel
theorem dX19_microsecond_250 : decode cX19_microsecond 250 = .ok (.i2l, 1) := by decide +kernel
theorem dX19_microsecond_251 : decode cX19_microsecond 251 = .ok (.lastore, 1) := by decide +kernel
theorem dX19_microsecond_252 : decode cX19_microsecond 252 = .ok (.aload_n 0, 1) := by decide +kernel
theorem dX19_microsecond_253 : decode cX19_microsecond 253 = .ok (.getfield 205, 3) := by decide +kernel
theorem dX19_microsecond_256 : decode cX19_microsecond 256 = .ok (.aload_n 0, 1) := by decide +kernel
theorem dX19_microsecond_257 : decode cX19_microsecond 257 = .ok (.getfield 144, 3) := by decide +kernel
theorem dX19_microsecond_260 : decode cX19_microsecond 260 = .ok (.iload_n 3, 1) := by decide +kernel
theorem dX19_microsecond_261 : decode cX19_microsecond 261 = .ok (.iaload, 1) := by decide +kernel
theorem dX19_microsecond_262 : decode cX19_microsecond 262 = .ok (.iconst 1, 1) := by decide +kernel
theorem dX19_microsecond_263 : decode cX19_microsecond 263 = .ok (.invokevirtual 702, 3) := by decide +kernel
theorem dX19_microsecond_266 : decode cX19_microsecond 266 = .ok (.istore 4, 2) := by decide +kernel
theorem dX19_microsecond_268 : decode cX19_microsecond 268 = .ok (.iinc 3 1, 3) := by decide +kernel
theorem dX19_microsecond_271 : decode cX19_microsecond 271 = .ok (.goto (-70), 3) := by decide +kernel
theorem dX19_microsecond_274 : decode cX19_microsecond 274 = .ok (.aload_n 0, 1) := by decide +kernel
theorem dX19_microsecond_275 : decode cX19_microsecond 275 = .ok (.invokevirtual 804, 3) := by decide +kernel
theorem dX19_microsecond_278 : decode cX19_microsecond 278 = .ok (.return_, 1) := by decide +kernel
theorem cwX19_microsecond : mw_cwV yX19_microsecond cX19_microsecond 6 (none) 0 := ⟨⟨wd_13, wd_3545, by decide +kernel⟩, wd_3544, sl_215⟩
set_option maxHeartbeats 4000000 in
set_option maxRecDepth 100000 in
theorem tX19_microsecond (l : Launch) (G : mwG) (ad : Nat → Nat) (fu : Nat) (M : mwM) (L : mwL) {M0 : mwM} {L0 : mwL} (hD : DX19_microsecond fu M L = some (M0, L0)) : Met l yX19_microsecond (Cond.code yX19_microsecond cX19_microsecond 6 (none) :: GT) ({ frames := 9, cells := 0, slots := 0, locals := 229 }) (mw_Pre G ad NF TF FF M L [.ref (ad 732)]) (mw_Qv G ad NF TF FF (mw_eqV M0 L0)) 0 0 (mw_fr G) := by
  refine mw_enter (by decide) (Nat.le_of_ble_eq_true rfl) ?_
  intro p e s m below meth c ls C hr hlocks hnm hw hl
  have hl : lv_has ls 6 [(0, .ref (ad 732))] := hl
  have hh201 : ∀ (f : Nat) (v3 : Int32) (M : mwM) (L : mwL) (H : Heap) (locs : List Loc) (ls : Array Slot), fX19_microsecond_h201 fu f (v3, M, L) = some (M0, L0) → mw_W G ad NF TF FF M L H locs → lv_has ls 6 [(0, .ref (ad 732)), (3, .int v3)] → W p l e ({ frames := 9, cells := 0, slots := 0, locals := 229 }) s m [.ref (ad 732)].toArray below meth c H locs 0 0 (MQ below (mw_Qv G ad NF TF FF (mw_eqV M0 L0)) [.ref (ad 732)].toArray s 0 0 (mw_fr G)) (F0 m 201 ls []) := by
    intro f
    induction f with
    | zero => intro v3 M L H locs ls hD; cases hD
    | succ f201 ih201 =>
      intro v3 M L H locs ls hD hw hl
      replace hD : fX19_microsecond_i201 fu (fX19_microsecond_h201 fu f201) v3 M L = some (M0, L0) := hD
      have hb268 : ∀ (v3 : Int32) (M : mwM) (L : mwL) (H : Heap) (locs : List Loc) (ls : Array Slot), fX19_microsecond_b268 fu (fX19_microsecond_h201 fu f201) v3 M L = some (M0, L0) → mw_W G ad NF TF FF M L H locs → lv_has ls 6 [(0, .ref (ad 732)), (3, .int v3)] → W p l e ({ frames := 9, cells := 0, slots := 0, locals := 229 }) s m [.ref (ad 732)].toArray below meth c H locs 0 0 (MQ below (mw_Qv G ad NF TF FF (mw_eqV M0 L0)) [.ref (ad 732)].toArray s 0 0 (mw_fr G)) (F0 m 268 ls []) := by
        intro v3 M L H locs ls hD hw hl
        unfold fX19_microsecond_b268 at hD
        obtain ⟨x55, ex55, hD⟩ := g_let hD
        refine lv_iinc (v := x55) (lv' := [(3, .int x55), (0, .ref (ad 732))]) C.1.1 C.1.2.1 dX19_microsecond_268 hl (k := 1) rfl (by rw [ex55]; rfl) (by decide) rfl (fun ls hl => ?_)
        refine lv_goto (tgt := 201) C.1.1 C.1.2.1 dX19_microsecond_271 (by decide) ?_
        exact ih201 x55 M L _ _ ls hD hw (lv_sub hl [1, 0] rfl)
      unfold fX19_microsecond_i201 at hD
      refine lv_iload_n C.1.1 C.1.2.1 dX19_microsecond_201 rfl (lv_at hl 1 rfl) ?_
      refine lv_aload_n C.1.1 C.1.2.1 dX19_microsecond_202 rfl (lv_at hl 0 rfl) ?_
      refine mr_getI C hw kc_19 62 (by decide) tf_732 wd_2843 dX19_microsecond_203 (by decide) rfl ?_
      refine lv_icmp_ge (tgt := 274) C.1.1 C.1.2.1 dX19_microsecond_206 (by decide) (fun c42 => ?_) (fun c42 => ?_)
      · replace hD := g_pos c42 hD
        refine lv_aload_n C.1.1 C.1.2.1 dX19_microsecond_274 rfl (lv_at hl 0 rfl) ?_
        obtain ⟨M43, L44, h1, hD⟩ := g_b2 hD
        refine md_cvV (As := []) (rest := []) C hw (tX19_transferred l G ad fu M L h1) kc_19 (by decide) tf_732 wd_4147 cwX19_transferred ⟨Nat.le_of_ble_eq_true rfl, Nat.le_of_ble_eq_true rfl⟩ rfl hl.1 (Nat.le_of_ble_eq_true rfl) dX19_microsecond_275 rfl rfl ⟨Nat.zero_le _, Nat.zero_le _⟩ rfl (fun H locs hw => ?_)
        exact mr_vret C hr hlocks hw (Option.some.inj hD) dX19_microsecond_278
      · replace hD := g_neg c42 hD
        refine lv_aload_n C.1.1 C.1.2.1 dX19_microsecond_209 rfl (lv_at hl 0 rfl) ?_
        refine mr_getI C hw kc_19 83 (by decide) tf_732 wd_2864 dX19_microsecond_210 (by decide) rfl ?_
        refine lv_i2l C.1.1 C.1.2.1 dX19_microsecond_213 rfl ?_
        refine lv_aload_n C.1.1 C.1.2.1 dX19_microsecond_214 rfl (lv_at hl 0 rfl) ?_
        refine mr_getR C hw kc_19 66 (by decide) tf_732 ff_732_66 wd_2847 dX19_microsecond_215 (by decide) rfl ?_
        refine lv_iload_n C.1.1 C.1.2.1 dX19_microsecond_218 rfl (lv_at hl 1 rfl) ?_
        obtain ⟨q45, hD⟩ := g_ck hD
        refine mr_lald C hw (by decide) tf_778 q45 dX19_microsecond_219 ?_
        refine lv_lsub C.1.1 C.1.2.1 dX19_microsecond_220 ?_
        refine lv_ldc2 (v := 3) C.1.1 C.1.2.1 C.1.2.2.2.1 (C.1.2.2.2.2 _ wd_4146) dX19_microsecond_221 ?_
        refine lv_aload_n C.1.1 C.1.2.1 dX19_microsecond_224 rfl (lv_at hl 0 rfl) ?_
        refine mr_getR C hw kc_19 50 (by decide) tf_732 ff_732_50 wd_2831 dX19_microsecond_225 (by decide) rfl ?_
        refine lv_aload_n C.1.1 C.1.2.1 dX19_microsecond_228 rfl (lv_at hl 0 rfl) ?_
        refine mr_getR C hw kc_19 63 (by decide) tf_732 ff_732_63 wd_2844 dX19_microsecond_229 (by decide) rfl ?_
        refine lv_iload_n C.1.1 C.1.2.1 dX19_microsecond_232 rfl (lv_at hl 1 rfl) ?_
        obtain ⟨q46, hD⟩ := g_ck hD
        refine mr_iald C hw (by decide) tf_775 q46 dX19_microsecond_233 ?_
        obtain ⟨q47, hD⟩ := g_ck hD
        refine mr_iald C hw (by decide) tf_764 q47 dX19_microsecond_234 ?_
        refine lv_i2l C.1.1 C.1.2.1 dX19_microsecond_235 rfl ?_
        refine lv_lmul C.1.1 C.1.2.1 dX19_microsecond_236 ?_
        refine W.lcmp C.1.1 C.1.2.1 dX19_microsecond_237 ?_
        refine lv_if_lt (tgt := 268) C.1.1 C.1.2.1 dX19_microsecond_238 (by decide) (fun c48 => ?_) (fun c48 => ?_)
        · replace hD := g_pos c48 hD
          exact hb268 v3 M L _ _ ls hD hw (lv_sub hl [0, 1] rfl)
        · replace hD := g_neg c48 hD
          refine lv_aload_n C.1.1 C.1.2.1 dX19_microsecond_241 rfl (lv_at hl 0 rfl) ?_
          refine mr_getR C hw kc_19 66 (by decide) tf_732 ff_732_66 wd_2847 dX19_microsecond_242 (by decide) rfl ?_
          refine lv_iload_n C.1.1 C.1.2.1 dX19_microsecond_245 rfl (lv_at hl 1 rfl) ?_
          refine lv_aload_n C.1.1 C.1.2.1 dX19_microsecond_246 rfl (lv_at hl 0 rfl) ?_
          refine mr_getI C hw kc_19 83 (by decide) tf_732 wd_2864 dX19_microsecond_247 (by decide) rfl ?_
          refine lv_i2l C.1.1 C.1.2.1 dX19_microsecond_250 rfl ?_
          obtain ⟨q49, hD⟩ := g_ck hD
          obtain ⟨L50, eL50, hD⟩ := g_let hD
          refine mr_last C hw (by decide) tf_778 q49 dX19_microsecond_251 (fun H locs hw => ?_)
          replace hw : mw_W G ad NF TF FF M L50 H locs := by rw [eL50]; exact hw
          refine lv_aload_n C.1.1 C.1.2.1 dX19_microsecond_252 rfl (lv_at hl 0 rfl) ?_
          refine mr_getR C hw kc_19 80 (by decide) tf_732 ff_732_80 wd_2861 dX19_microsecond_253 (by decide) rfl ?_
          refine lv_aload_n C.1.1 C.1.2.1 dX19_microsecond_256 rfl (lv_at hl 0 rfl) ?_
          refine mr_getR C hw kc_19 65 (by decide) tf_732 ff_732_65 wd_2846 dX19_microsecond_257 (by decide) rfl ?_
          refine lv_iload_n C.1.1 C.1.2.1 dX19_microsecond_260 rfl (lv_at hl 1 rfl) ?_
          obtain ⟨q51, hD⟩ := g_ck hD
          refine mr_iald C hw (by decide) tf_777 q51 dX19_microsecond_261 ?_
          refine lv_iconst (v := 1) C.1.1 C.1.2.1 dX19_microsecond_262 (by decide) ?_
          obtain ⟨r54, M52, L53, h1, hD⟩ := g_b3 hD
          refine md_cvI (As := [.int (M 777 v3.toNatClampNeg), .int 1]) (rest := []) C hw (tX18_event l G ad fu (M 777 v3.toNatClampNeg) 1 M L50 h1) kc_18 (by decide) tf_902 wd_3880 cwX18_event ⟨Nat.le_of_ble_eq_true rfl, Nat.le_of_ble_eq_true rfl⟩ rfl hl.1 (Nat.le_of_ble_eq_true rfl) dX19_microsecond_263 rfl rfl ⟨Nat.zero_le _, Nat.zero_le _⟩ rfl (fun H locs hw => ?_)
          refine lv_istore (lv' := [(4, .int r54), (0, .ref (ad 732)), (3, .int v3)]) C.1.1 C.1.2.1 dX19_microsecond_266 hl (by decide) rfl (fun ls hl => ?_)
          exact hb268 v3 M52 L53 _ _ ls hD hw (lv_sub hl [1, 2] rfl)
  have hh139 : ∀ (f : Nat) (v3 : Int32) (M : mwM) (L : mwL) (H : Heap) (locs : List Loc) (ls : Array Slot), fX19_microsecond_h139 fu f (v3, M, L) = some (M0, L0) → mw_W G ad NF TF FF M L H locs → lv_has ls 6 [(0, .ref (ad 732)), (3, .int v3)] → W p l e ({ frames := 9, cells := 0, slots := 0, locals := 229 }) s m [.ref (ad 732)].toArray below meth c H locs 0 0 (MQ below (mw_Qv G ad NF TF FF (mw_eqV M0 L0)) [.ref (ad 732)].toArray s 0 0 (mw_fr G)) (F0 m 139 ls []) := by
    intro f
    induction f with
    | zero => intro v3 M L H locs ls hD; cases hD
    | succ f139 ih139 =>
      intro v3 M L H locs ls hD hw hl
      replace hD : fX19_microsecond_i139 fu (fX19_microsecond_h139 fu f139) v3 M L = some (M0, L0) := hD
      have hb193 : ∀ (v3 : Int32) (M : mwM) (L : mwL) (H : Heap) (locs : List Loc) (ls : Array Slot), fX19_microsecond_b193 fu (fX19_microsecond_h139 fu f139) v3 M L = some (M0, L0) → mw_W G ad NF TF FF M L H locs → lv_has ls 6 [(0, .ref (ad 732)), (3, .int v3)] → W p l e ({ frames := 9, cells := 0, slots := 0, locals := 229 }) s m [.ref (ad 732)].toArray below meth c H locs 0 0 (MQ below (mw_Qv G ad NF TF FF (mw_eqV M0 L0)) [.ref (ad 732)].toArray s 0 0 (mw_fr G)) (F0 m 193 ls []) := by
        intro v3 M L H locs ls hD hw hl
        unfold fX19_microsecond_b193 at hD
        obtain ⟨x41, ex41, hD⟩ := g_let hD
        refine lv_iinc (v := x41) (lv' := [(3, .int x41), (0, .ref (ad 732))]) C.1.1 C.1.2.1 dX19_microsecond_193 hl (k := 1) rfl (by rw [ex41]; rfl) (by decide) rfl (fun ls hl => ?_)
        refine lv_goto (tgt := 139) C.1.1 C.1.2.1 dX19_microsecond_196 (by decide) ?_
        exact ih139 x41 M L _ _ ls hD hw (lv_sub hl [1, 0] rfl)
      unfold fX19_microsecond_i139 at hD
      refine lv_iload_n C.1.1 C.1.2.1 dX19_microsecond_139 rfl (lv_at hl 1 rfl) ?_
      refine lv_aload_n C.1.1 C.1.2.1 dX19_microsecond_140 rfl (lv_at hl 0 rfl) ?_
      refine mr_getI C hw kc_19 24 (by decide) tf_732 wd_2805 dX19_microsecond_141 (by decide) rfl ?_
      refine lv_icmp_ge (tgt := 199) C.1.1 C.1.2.1 dX19_microsecond_144 (by decide) (fun c30 => ?_) (fun c30 => ?_)
      · replace hD := g_pos c30 hD
        refine lv_iconst (v := 0) C.1.1 C.1.2.1 dX19_microsecond_199 (by decide) ?_
        refine lv_istore_n (lv' := [(3, .int 0), (0, .ref (ad 732))]) C.1.1 C.1.2.1 dX19_microsecond_200 rfl hl (by decide) rfl (fun ls hl => ?_)
        exact hh201 fu 0 M L _ _ ls hD hw (lv_sub hl [1, 0] rfl)
      · replace hD := g_neg c30 hD
        refine lv_aload_n C.1.1 C.1.2.1 dX19_microsecond_147 rfl (lv_at hl 0 rfl) ?_
        refine mr_getR C hw kc_19 76 (by decide) tf_732 ff_732_76 wd_2857 dX19_microsecond_148 (by decide) rfl ?_
        refine lv_iload_n C.1.1 C.1.2.1 dX19_microsecond_151 rfl (lv_at hl 1 rfl) ?_
        refine lv_iconst (v := 1) C.1.1 C.1.2.1 dX19_microsecond_152 (by decide) ?_
        refine lv_iadd C.1.1 C.1.2.1 dX19_microsecond_153 ?_
        obtain ⟨r33, M31, L32, h1, hD⟩ := g_b3 hD
        refine md_cvL (As := [.int (v3 + 1)]) (rest := []) C hw (tX15_used l G ad fu (v3 + 1) M L h1) kc_15 (by decide) tf_787 wd_3768 cwX15_used ⟨Nat.le_of_ble_eq_true rfl, Nat.le_of_ble_eq_true rfl⟩ rfl hl.1 (Nat.le_of_ble_eq_true rfl) dX19_microsecond_154 rfl rfl ⟨Nat.zero_le _, Nat.zero_le _⟩ rfl (fun H locs hw => ?_)
        refine lv_lstore (lv' := [(4, .long r33), (0, .ref (ad 732)), (3, .int v3)]) C.1.1 C.1.2.1 dX19_microsecond_157 hl (by decide) rfl (fun ls hl => ?_)
        refine lv_lload C.1.1 C.1.2.1 dX19_microsecond_159 (lv_at hl 0 rfl) ?_
        refine lv_aload_n C.1.1 C.1.2.1 dX19_microsecond_161 rfl (lv_at hl 1 rfl) ?_
        refine mr_getR C hw kc_19 86 (by decide) tf_732 ff_732_86 wd_2867 dX19_microsecond_162 (by decide) rfl ?_
        refine lv_iload_n C.1.1 C.1.2.1 dX19_microsecond_165 rfl (lv_at hl 2 rfl) ?_
        obtain ⟨q34, hD⟩ := g_ck hD
        refine mr_lald C hw (by decide) tf_925 q34 dX19_microsecond_166 ?_
        refine W.lcmp C.1.1 C.1.2.1 dX19_microsecond_167 ?_
        refine lv_if_le (tgt := 193) C.1.1 C.1.2.1 dX19_microsecond_168 (by decide) (fun c35 => ?_) (fun c35 => ?_)
        · replace hD := g_pos c35 hD
          exact hb193 v3 M31 L32 _ _ ls hD hw (lv_sub hl [1, 2] rfl)
        · replace hD := g_neg c35 hD
          refine lv_lload C.1.1 C.1.2.1 dX19_microsecond_171 (lv_at hl 0 rfl) ?_
          refine lv_aload_n C.1.1 C.1.2.1 dX19_microsecond_173 rfl (lv_at hl 1 rfl) ?_
          refine mr_getR C hw kc_19 30 (by decide) tf_732 ff_732_30 wd_2811 dX19_microsecond_174 (by decide) rfl ?_
          refine lv_iload_n C.1.1 C.1.2.1 dX19_microsecond_177 rfl (lv_at hl 2 rfl) ?_
          obtain ⟨q36, hD⟩ := g_ck hD
          refine mr_iald C hw (by decide) tf_746 q36 dX19_microsecond_178 ?_
          refine lv_iconst (v := 1) C.1.1 C.1.2.1 dX19_microsecond_179 (by decide) ?_
          refine lv_iadd C.1.1 C.1.2.1 dX19_microsecond_180 ?_
          refine lv_i2l C.1.1 C.1.2.1 dX19_microsecond_181 rfl ?_
          obtain ⟨q37, hD⟩ := g_nzL hD
          refine lv_lrem C.1.1 C.1.2.1 dX19_microsecond_182 q37 ?_
          refine lv_lconst (v := 0) C.1.1 C.1.2.1 dX19_microsecond_183 (by decide) ?_
          refine W.lcmp C.1.1 C.1.2.1 dX19_microsecond_184 ?_
          refine lv_if_ne (tgt := 193) C.1.1 C.1.2.1 dX19_microsecond_185 (by decide) (fun c38 => ?_) (fun c38 => ?_)
          · replace hD := g_neg c38 hD
            exact hb193 v3 M31 L32 _ _ ls hD hw (lv_sub hl [1, 2] rfl)
          · replace hD := g_pos c38 hD
            refine lv_aload_n C.1.1 C.1.2.1 dX19_microsecond_188 rfl (lv_at hl 1 rfl) ?_
            refine lv_iload_n C.1.1 C.1.2.1 dX19_microsecond_189 rfl (lv_at hl 2 rfl) ?_
            obtain ⟨M39, L40, h1, hD⟩ := g_b2 hD
            refine md_cvV (As := [.int v3]) (rest := []) C hw (tX19_taskDone l G ad fu v3 M31 L32 h1) kc_19 (by decide) tf_732 wd_4058 cwX19_taskDone ⟨Nat.le_of_ble_eq_true rfl, Nat.le_of_ble_eq_true rfl⟩ rfl hl.1 (Nat.le_of_ble_eq_true rfl) dX19_microsecond_190 rfl rfl ⟨Nat.zero_le _, Nat.zero_le _⟩ rfl (fun H locs hw => ?_)
            exact hb193 v3 M39 L40 _ _ ls hD hw (lv_sub hl [1, 2] rfl)
  have hh118 : ∀ (f : Nat) (v3 : Int32) (M : mwM) (L : mwL) (H : Heap) (locs : List Loc) (ls : Array Slot), fX19_microsecond_h118 fu f (v3, M, L) = some (M0, L0) → mw_W G ad NF TF FF M L H locs → lv_has ls 6 [(0, .ref (ad 732)), (3, .int v3)] → W p l e ({ frames := 9, cells := 0, slots := 0, locals := 229 }) s m [.ref (ad 732)].toArray below meth c H locs 0 0 (MQ below (mw_Qv G ad NF TF FF (mw_eqV M0 L0)) [.ref (ad 732)].toArray s 0 0 (mw_fr G)) (F0 m 118 ls []) := by
    intro f
    induction f with
    | zero => intro v3 M L H locs ls hD; cases hD
    | succ f118 ih118 =>
      intro v3 M L H locs ls hD hw hl
      replace hD : fX19_microsecond_i118 fu (fX19_microsecond_h118 fu f118) v3 M L = some (M0, L0) := hD
      unfold fX19_microsecond_i118 at hD
      refine lv_iload_n C.1.1 C.1.2.1 dX19_microsecond_118 rfl (lv_at hl 1 rfl) ?_
      refine lv_aload_n C.1.1 C.1.2.1 dX19_microsecond_119 rfl (lv_at hl 0 rfl) ?_
      refine mr_getI C hw kc_19 19 (by decide) tf_732 wd_2800 dX19_microsecond_120 (by decide) rfl ?_
      refine lv_icmp_gt (tgt := 137) C.1.1 C.1.2.1 dX19_microsecond_123 (by decide) (fun c26 => ?_) (fun c26 => ?_)
      · replace hD := g_pos c26 hD
        refine lv_iconst (v := 0) C.1.1 C.1.2.1 dX19_microsecond_137 (by decide) ?_
        refine lv_istore_n (lv' := [(3, .int 0), (0, .ref (ad 732))]) C.1.1 C.1.2.1 dX19_microsecond_138 rfl hl (by decide) rfl (fun ls hl => ?_)
        exact hh139 fu 0 M L _ _ ls hD hw (lv_sub hl [1, 0] rfl)
      · replace hD := g_neg c26 hD
        refine lv_aload_n C.1.1 C.1.2.1 dX19_microsecond_126 rfl (lv_at hl 0 rfl) ?_
        refine lv_iload_n C.1.1 C.1.2.1 dX19_microsecond_127 rfl (lv_at hl 1 rfl) ?_
        obtain ⟨M27, L28, h1, hD⟩ := g_b2 hD
        refine md_cvV (As := [.int v3]) (rest := []) C hw (tX19_lookAt l G ad fu v3 M L h1) kc_19 (by decide) tf_732 wd_3854 cwX19_lookAt ⟨Nat.le_of_ble_eq_true rfl, Nat.le_of_ble_eq_true rfl⟩ rfl hl.1 (Nat.le_of_ble_eq_true rfl) dX19_microsecond_128 rfl rfl ⟨Nat.zero_le _, Nat.zero_le _⟩ rfl (fun H locs hw => ?_)
        obtain ⟨x29, ex29, hD⟩ := g_let hD
        refine lv_iinc (v := x29) (lv' := [(3, .int x29), (0, .ref (ad 732))]) C.1.1 C.1.2.1 dX19_microsecond_131 hl (k := 1) rfl (by rw [ex29]; rfl) (by decide) rfl (fun ls hl => ?_)
        refine lv_goto (tgt := 118) C.1.1 C.1.2.1 dX19_microsecond_134 (by decide) ?_
        exact ih118 x29 M27 L28 _ _ ls hD hw (lv_sub hl [1, 0] rfl)
  have hh67 : ∀ (f : Nat) (v2 : Int32) (M : mwM) (L : mwL) (H : Heap) (locs : List Loc) (ls : Array Slot), fX19_microsecond_h67 fu f (v2, M, L) = some (M0, L0) → mw_W G ad NF TF FF M L H locs → lv_has ls 6 [(0, .ref (ad 732)), (2, .int v2)] → W p l e ({ frames := 9, cells := 0, slots := 0, locals := 229 }) s m [.ref (ad 732)].toArray below meth c H locs 0 0 (MQ below (mw_Qv G ad NF TF FF (mw_eqV M0 L0)) [.ref (ad 732)].toArray s 0 0 (mw_fr G)) (F0 m 67 ls []) := by
    intro f
    induction f with
    | zero => intro v2 M L H locs ls hD; cases hD
    | succ f67 ih67 =>
      intro v2 M L H locs ls hD hw hl
      replace hD : fX19_microsecond_i67 fu (fX19_microsecond_h67 fu f67) v2 M L = some (M0, L0) := hD
      unfold fX19_microsecond_i67 at hD
      refine lv_iload_n C.1.1 C.1.2.1 dX19_microsecond_67 rfl (lv_at hl 1 rfl) ?_
      refine lv_aload_n C.1.1 C.1.2.1 dX19_microsecond_68 rfl (lv_at hl 0 rfl) ?_
      refine mr_getI C hw kc_19 24 (by decide) tf_732 wd_2805 dX19_microsecond_69 (by decide) rfl ?_
      refine lv_icmp_ge (tgt := 97) C.1.1 C.1.2.1 dX19_microsecond_72 (by decide) (fun c15 => ?_) (fun c15 => ?_)
      · replace hD := g_pos c15 hD
        refine lv_aload_n C.1.1 C.1.2.1 dX19_microsecond_97 rfl (lv_at hl 0 rfl) ?_
        refine mr_getR C hw kc_19 76 (by decide) tf_732 ff_732_76 wd_2857 dX19_microsecond_98 (by decide) rfl ?_
        refine lv_lconst (v := 1) C.1.1 C.1.2.1 dX19_microsecond_101 (by decide) ?_
        obtain ⟨r18, M16, L17, h1, hD⟩ := g_b3 hD
        refine md_cvI (As := [.long 1]) (rest := []) C hw (tX15_run l G ad fu 1 M L h1) kc_15 (by decide) tf_787 wd_3773 cwX15_run ⟨Nat.le_of_ble_eq_true rfl, Nat.le_of_ble_eq_true rfl⟩ rfl hl.1 (Nat.le_of_ble_eq_true rfl) dX19_microsecond_102 rfl rfl ⟨Nat.zero_le _, Nat.zero_le _⟩ rfl (fun H locs hw => ?_)
        refine lv_istore_n (lv' := [(2, .int r18), (0, .ref (ad 732))]) C.1.1 C.1.2.1 dX19_microsecond_105 rfl hl (by decide) rfl (fun ls hl => ?_)
        refine lv_aload_n C.1.1 C.1.2.1 dX19_microsecond_106 rfl (lv_at hl 1 rfl) ?_
        refine lv_dup C.1.1 C.1.2.1 dX19_microsecond_107 rfl ?_
        refine mr_getI C hw kc_19 83 (by decide) tf_732 wd_2864 dX19_microsecond_108 (by decide) rfl ?_
        refine lv_iconst (v := 1) C.1.1 C.1.2.1 dX19_microsecond_111 (by decide) ?_
        refine lv_iadd C.1.1 C.1.2.1 dX19_microsecond_112 ?_
        obtain ⟨M19, eM19, hD⟩ := g_let hD
        refine mr_putI C hw kc_19 83 (by decide) tf_732 wd_2864 dX19_microsecond_113 (by decide) rfl rfl rfl rfl (fun H locs hw => ?_)
        replace hw : mw_W G ad NF TF FF M19 L17 H locs := by rw [eM19]; exact hw
        refine lv_iconst (v := 0) C.1.1 C.1.2.1 dX19_microsecond_116 (by decide) ?_
        refine lv_istore_n (lv' := [(3, .int 0), (2, .int r18), (0, .ref (ad 732))]) C.1.1 C.1.2.1 dX19_microsecond_117 rfl hl (by decide) rfl (fun ls hl => ?_)
        exact hh118 fu 0 M19 L17 _ _ ls hD hw (lv_sub hl [2, 0] rfl)
      · replace hD := g_neg c15 hD
        refine lv_aload_n C.1.1 C.1.2.1 dX19_microsecond_75 rfl (lv_at hl 0 rfl) ?_
        refine mr_getR C hw kc_19 86 (by decide) tf_732 ff_732_86 wd_2867 dX19_microsecond_76 (by decide) rfl ?_
        refine lv_iload_n C.1.1 C.1.2.1 dX19_microsecond_79 rfl (lv_at hl 1 rfl) ?_
        refine lv_aload_n C.1.1 C.1.2.1 dX19_microsecond_80 rfl (lv_at hl 0 rfl) ?_
        refine mr_getR C hw kc_19 76 (by decide) tf_732 ff_732_76 wd_2857 dX19_microsecond_81 (by decide) rfl ?_
        refine lv_iload_n C.1.1 C.1.2.1 dX19_microsecond_84 rfl (lv_at hl 1 rfl) ?_
        refine lv_iconst (v := 1) C.1.1 C.1.2.1 dX19_microsecond_85 (by decide) ?_
        refine lv_iadd C.1.1 C.1.2.1 dX19_microsecond_86 ?_
        obtain ⟨r22, M20, L21, h1, hD⟩ := g_b3 hD
        refine md_cvL (As := [.int (v2 + 1)]) (rest := [.int v2, .ref (ad 925)]) C hw (tX15_used l G ad fu (v2 + 1) M L h1) kc_15 (by decide) tf_787 wd_3768 cwX15_used ⟨Nat.le_of_ble_eq_true rfl, Nat.le_of_ble_eq_true rfl⟩ rfl hl.1 (Nat.le_of_ble_eq_true rfl) dX19_microsecond_87 rfl rfl ⟨Nat.zero_le _, Nat.zero_le _⟩ rfl (fun H locs hw => ?_)
        obtain ⟨q23, hD⟩ := g_ck hD
        obtain ⟨L24, eL24, hD⟩ := g_let hD
        refine mr_last C hw (by decide) tf_925 q23 dX19_microsecond_90 (fun H locs hw => ?_)
        replace hw : mw_W G ad NF TF FF M20 L24 H locs := by rw [eL24]; exact hw
        obtain ⟨x25, ex25, hD⟩ := g_let hD
        refine lv_iinc (v := x25) (lv' := [(2, .int x25), (0, .ref (ad 732))]) C.1.1 C.1.2.1 dX19_microsecond_91 hl (k := 1) rfl (by rw [ex25]; rfl) (by decide) rfl (fun ls hl => ?_)
        refine lv_goto (tgt := 67) C.1.1 C.1.2.1 dX19_microsecond_94 (by decide) ?_
        exact ih67 x25 M20 L24 _ _ ls hD hw (lv_sub hl [1, 0] rfl)
  have hb56 : ∀ (M : mwM) (L : mwL) (H : Heap) (locs : List Loc) (ls : Array Slot), fX19_microsecond_b56 fu M L = some (M0, L0) → mw_W G ad NF TF FF M L H locs → lv_has ls 6 [(0, .ref (ad 732))] → W p l e ({ frames := 9, cells := 0, slots := 0, locals := 229 }) s m [.ref (ad 732)].toArray below meth c H locs 0 0 (MQ below (mw_Qv G ad NF TF FF (mw_eqV M0 L0)) [.ref (ad 732)].toArray s 0 0 (mw_fr G)) (F0 m 56 ls []) := by
    intro M L H locs ls hD hw hl
    unfold fX19_microsecond_b56 at hD
    refine lv_aload_n C.1.1 C.1.2.1 dX19_microsecond_56 rfl (lv_at hl 0 rfl) ?_
    refine mr_getR C hw kc_19 77 (by decide) tf_732 ff_732_77 wd_2858 dX19_microsecond_57 (by decide) rfl ?_
    refine lv_iconst (v := 1) C.1.1 C.1.2.1 dX19_microsecond_60 (by decide) ?_
    obtain ⟨r14, M12, L13, h1, hD⟩ := g_b3 hD
    refine md_cvI (As := [.int 1]) (rest := []) C hw (tX12_run l G ad fu 1 M L h1) kc_12 (by decide) tf_821 wd_3642 cwX12_run ⟨Nat.le_of_ble_eq_true rfl, Nat.le_of_ble_eq_true rfl⟩ rfl hl.1 (Nat.le_of_ble_eq_true rfl) dX19_microsecond_61 rfl rfl ⟨Nat.zero_le _, Nat.zero_le _⟩ rfl (fun H locs hw => ?_)
    refine lv_istore_n (lv' := [(1, .int r14), (0, .ref (ad 732))]) C.1.1 C.1.2.1 dX19_microsecond_64 rfl hl (by decide) rfl (fun ls hl => ?_)
    refine lv_iconst (v := 0) C.1.1 C.1.2.1 dX19_microsecond_65 (by decide) ?_
    refine lv_istore_n (lv' := [(2, .int 0), (1, .int r14), (0, .ref (ad 732))]) C.1.1 C.1.2.1 dX19_microsecond_66 rfl hl (by decide) rfl (fun ls hl => ?_)
    exact hh67 fu 0 M12 L13 _ _ ls hD hw (lv_sub hl [2, 0] rfl)
  have hh2 : ∀ (f : Nat) (v1 : Int32) (M : mwM) (L : mwL) (H : Heap) (locs : List Loc) (ls : Array Slot), fX19_microsecond_h2 fu f (v1, M, L) = some (M0, L0) → mw_W G ad NF TF FF M L H locs → lv_has ls 6 [(0, .ref (ad 732)), (1, .int v1)] → W p l e ({ frames := 9, cells := 0, slots := 0, locals := 229 }) s m [.ref (ad 732)].toArray below meth c H locs 0 0 (MQ below (mw_Qv G ad NF TF FF (mw_eqV M0 L0)) [.ref (ad 732)].toArray s 0 0 (mw_fr G)) (F0 m 2 ls []) := by
    intro f
    induction f with
    | zero => intro v1 M L H locs ls hD; cases hD
    | succ f2 ih2 =>
      intro v1 M L H locs ls hD hw hl
      replace hD : fX19_microsecond_i2 fu (fX19_microsecond_h2 fu f2) v1 M L = some (M0, L0) := hD
      have hb50 : ∀ (v1 : Int32) (M : mwM) (L : mwL) (H : Heap) (locs : List Loc) (ls : Array Slot), fX19_microsecond_b50 fu (fX19_microsecond_h2 fu f2) v1 M L = some (M0, L0) → mw_W G ad NF TF FF M L H locs → lv_has ls 6 [(0, .ref (ad 732)), (1, .int v1)] → W p l e ({ frames := 9, cells := 0, slots := 0, locals := 229 }) s m [.ref (ad 732)].toArray below meth c H locs 0 0 (MQ below (mw_Qv G ad NF TF FF (mw_eqV M0 L0)) [.ref (ad 732)].toArray s 0 0 (mw_fr G)) (F0 m 50 ls []) := by
        intro v1 M L H locs ls hD hw hl
        unfold fX19_microsecond_b50 at hD
        obtain ⟨x11, ex11, hD⟩ := g_let hD
        refine lv_iinc (v := x11) (lv' := [(1, .int x11), (0, .ref (ad 732))]) C.1.1 C.1.2.1 dX19_microsecond_50 hl (k := 1) rfl (by rw [ex11]; rfl) (by decide) rfl (fun ls hl => ?_)
        refine lv_goto (tgt := 2) C.1.1 C.1.2.1 dX19_microsecond_53 (by decide) ?_
        exact ih2 x11 M L _ _ ls hD hw (lv_sub hl [1, 0] rfl)
      unfold fX19_microsecond_i2 at hD
      refine lv_iload_n C.1.1 C.1.2.1 dX19_microsecond_2 rfl (lv_at hl 1 rfl) ?_
      refine lv_aload_n C.1.1 C.1.2.1 dX19_microsecond_3 rfl (lv_at hl 0 rfl) ?_
      refine mr_getI C hw kc_19 67 (by decide) tf_732 wd_2848 dX19_microsecond_4 (by decide) rfl ?_
      refine lv_icmp_ge (tgt := 56) C.1.1 C.1.2.1 dX19_microsecond_7 (by decide) (fun c1 => ?_) (fun c1 => ?_)
      · replace hD := g_pos c1 hD
        exact hb56 M L _ _ ls hD hw (lv_sub hl [0] rfl)
      · replace hD := g_neg c1 hD
        refine lv_aload_n C.1.1 C.1.2.1 dX19_microsecond_10 rfl (lv_at hl 0 rfl) ?_
        refine mr_getI C hw kc_19 83 (by decide) tf_732 wd_2864 dX19_microsecond_11 (by decide) rfl ?_
        refine lv_if_le (tgt := 56) C.1.1 C.1.2.1 dX19_microsecond_14 (by decide) (fun c2 => ?_) (fun c2 => ?_)
        · replace hD := g_pos c2 hD
          exact hb56 M L _ _ ls hD hw (lv_sub hl [0] rfl)
        · replace hD := g_neg c2 hD
          refine lv_aload_n C.1.1 C.1.2.1 dX19_microsecond_17 rfl (lv_at hl 0 rfl) ?_
          refine mr_getI C hw kc_19 83 (by decide) tf_732 wd_2864 dX19_microsecond_18 (by decide) rfl ?_
          refine lv_aload_n C.1.1 C.1.2.1 dX19_microsecond_21 rfl (lv_at hl 0 rfl) ?_
          refine mr_getR C hw kc_19 71 (by decide) tf_732 ff_732_71 wd_2852 dX19_microsecond_22 (by decide) rfl ?_
          refine lv_iload_n C.1.1 C.1.2.1 dX19_microsecond_25 rfl (lv_at hl 1 rfl) ?_
          obtain ⟨q3, hD⟩ := g_ck hD
          refine mr_iald C hw (by decide) tf_782 q3 dX19_microsecond_26 ?_
          obtain ⟨q4, hD⟩ := g_nz hD
          refine lv_irem C.1.1 C.1.2.1 dX19_microsecond_27 q4 ?_
          refine lv_if_ne (tgt := 50) C.1.1 C.1.2.1 dX19_microsecond_28 (by decide) (fun c5 => ?_) (fun c5 => ?_)
          · replace hD := g_neg c5 hD
            exact hb50 v1 M L _ _ ls hD hw (lv_sub hl [0, 1] rfl)
          · replace hD := g_pos c5 hD
            refine lv_aload_n C.1.1 C.1.2.1 dX19_microsecond_31 rfl (lv_at hl 0 rfl) ?_
            refine mr_getR C hw kc_19 84 (by decide) tf_732 ff_732_84 wd_2865 dX19_microsecond_32 (by decide) rfl ?_
            refine lv_aload_n C.1.1 C.1.2.1 dX19_microsecond_35 rfl (lv_at hl 0 rfl) ?_
            refine mr_getR C hw kc_19 68 (by decide) tf_732 ff_732_68 wd_2849 dX19_microsecond_36 (by decide) rfl ?_
            refine lv_iload_n C.1.1 C.1.2.1 dX19_microsecond_39 rfl (lv_at hl 1 rfl) ?_
            obtain ⟨q6, hD⟩ := g_ck hD
            refine mr_iald C hw (by decide) tf_779 q6 dX19_microsecond_40 ?_
            obtain ⟨q7, hD⟩ := g_ck hD
            refine mr_zald C hw (by decide) tf_923 q7 dX19_microsecond_41 ?_
            refine lv_if_ne (tgt := 50) C.1.1 C.1.2.1 dX19_microsecond_42 (by decide) (fun c8 => ?_) (fun c8 => ?_)
            · replace hD := g_neg c8 hD
              exact hb50 v1 M L _ _ ls hD hw (lv_sub hl [0, 1] rfl)
            · replace hD := g_pos c8 hD
              refine lv_aload_n C.1.1 C.1.2.1 dX19_microsecond_45 rfl (lv_at hl 0 rfl) ?_
              refine lv_iload_n C.1.1 C.1.2.1 dX19_microsecond_46 rfl (lv_at hl 1 rfl) ?_
              obtain ⟨M9, L10, h1, hD⟩ := g_b2 hD
              refine md_cvV (As := [.int v1]) (rest := []) C hw (tX19_send l G ad fu v1 M L h1) kc_19 (by decide) tf_732 wd_3546 cwX19_send ⟨Nat.le_of_ble_eq_true rfl, Nat.le_of_ble_eq_true rfl⟩ rfl hl.1 (Nat.le_of_ble_eq_true rfl) dX19_microsecond_47 rfl rfl ⟨Nat.zero_le _, Nat.zero_le _⟩ rfl (fun H locs hw => ?_)
              exact hb50 v1 M9 L10 _ _ ls hD hw (lv_sub hl [0, 1] rfl)
  unfold DX19_microsecond at hD
  refine lv_iconst (v := 0) C.1.1 C.1.2.1 dX19_microsecond_0 (by decide) ?_
  refine lv_istore_n (lv' := [(1, .int 0), (0, .ref (ad 732))]) C.1.1 C.1.2.1 dX19_microsecond_1 rfl hl (by decide) rfl (fun ls hl => ?_)
  exact hh2 fu 0 M L _ _ ls hD hw (lv_sub hl [1, 0] rfl)
