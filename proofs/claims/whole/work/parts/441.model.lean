theorem dX19_line_0 : decode cX19_line 0 = .ok (.aload_n 0, 1) := by decide +kernel
theorem dX19_line_1 : decode cX19_line 1 = .ok (.aload_n 0, 1) := by decide +kernel
theorem dX19_line_2 : decode cX19_line 2 = .ok (.getfield 311, 3) := by decide +kernel
theorem dX19_line_5 : decode cX19_line 5 = .ok (.putfield 366, 3) := by decide +kernel
theorem dX19_line_8 : decode cX19_line 8 = .ok (.aload_n 0, 1) := by decide +kernel
theorem dX19_line_9 : decode cX19_line 9 = .ok (.ldc2_w 369, 3) := by decide +kernel
theorem dX19_line_12 : decode cX19_line 12 = .ok (.ldc2_w 371, 3) := by decide +kernel
theorem dX19_line_15 : decode cX19_line 15 = .ok (.invokevirtual 327, 3) := by decide +kernel
theorem dX19_line_18 : decode cX19_line 18 = .ok (.ifCond .eq 8, 3) := by decide +kernel
theorem dX19_line_21 : decode cX19_line 21 = .ok (.aload_n 0, 1) := by decide +kernel
theorem dX19_line_22 : decode cX19_line 22 = .ok (.invokevirtual 373, 3) := by decide +kernel
theorem dX19_line_25 : decode cX19_line 25 = .ok (.ireturn, 1) := by decide +kernel
theorem dX19_line_26 : decode cX19_line 26 = .ok (.aload_n 0, 1) := by decide +kernel
theorem dX19_line_27 : decode cX19_line 27 = .ok (.ldc2_w 376, 3) := by decide +kernel
theorem dX19_line_30 : decode cX19_line 30 = .ok (.lconst 0, 1) := by decide +kernel
theorem dX19_line_31 : decode cX19_line 31 = .ok (.invokevirtual 327, 3) := by decide +kernel
theorem dX19_line_34 : decode cX19_line 34 = .ok (.ifCond .eq 8, 3) := by decide +kernel
theorem dX19_line_37 : decode cX19_line 37 = .ok (.aload_n 0, 1) := by decide +kernel
theorem dX19_line_38 : decode cX19_line 38 = .ok (.invokevirtual 378, 3) := by decide +kernel
theorem dX19_line_41 : decode cX19_line 41 = .ok (.ireturn, 1) := by decide +kernel
theorem dX19_line_42 : decode cX19_line 42 = .ok (.aload_n 0, 1) := by decide +kernel
theorem dX19_line_43 : decode cX19_line 43 = .ok (.ldc2_w 381, 3) := by decide +kernel
theorem dX19_line_46 : decode cX19_line 46 = .ok (.lconst 0, 1) := by decide +kernel
theorem dX19_line_47 : decode cX19_line 47 = .ok (.invokevirtual 327, 3) := by decide +kernel
theorem dX19_line_50 : decode cX19_line 50 = .ok (.ifCond .eq 8, 3) := by decide +kernel
theorem dX19_line_53 : decode cX19_line 53 = .ok (.aload_n 0, 1) := by decide +kernel
theorem dX19_line_54 : decode cX19_line 54 = .ok (.invokevirtual 383, 3) := by decide +kernel
theorem dX19_line_57 : decode cX19_line 57 = .ok (.ireturn, 1) := by decide +kernel
theorem dX19_line_58 : decode cX19_line 58 = .ok (.aload_n 0, 1) := by decide +kernel
theorem dX19_line_59 : decode cX19_line 59 = .ok (.ldc2_w 386, 3) := by decide +kernel
theorem dX19_line_62 : decode cX19_line 62 = .ok (.lconst 0, 1) := by decide +kernel
theorem dX19_line_63 : decode cX19_line 63 = .ok (.invokevirtual 327, 3) := by decide +kernel
theorem dX19_line_66 : decode cX19_line 66 = .ok (.ifCond .eq 8, 3) := by decide +kernel
theorem dX19_line_69 : decode cX19_line 69 = .ok (.aload_n 0, 1) := by decide +kernel
theorem dX19_line_70 : decode cX19_line 70 = .ok (.invokevirtual 388, 3) := by decide +kernel
theorem dX19_line_73 : decode cX19_line 73 = .ok (.ireturn, 1) := by decide +kernel
theorem dX19_line_74 : decode cX19_line 74 = .ok (.aload_n 0, 1) := by decide +kernel
theorem dX19_line_75 : decode cX19_line 75 = .ok (.ldc2_w 391, 3) := by decide +kernel
theorem dX19_line_78 : decode cX19_line 78 = .ok (.lconst 0, 1) := by decide +kernel
theorem dX19_line_79 : decode cX19_line 79 = .ok (.invokevirtual 327, 3) := by decide +kernel
theorem dX19_line_82 : decode cX19_line 82 = .ok (.ifCond .eq 8, 3) := by decide +kernel
theorem dX19_line_85 : decode cX19_line 85 = .ok (.aload_n 0, 1) := by decide +kernel
theorem dX19_line_86 : decode cX19_line 86 = .ok (.invokevirtual 393, 3) := by decide +kernel
theorem dX19_line_89 : decode cX19_line 89 = .ok (.ireturn, 1) := by decide +kernel
theorem dX19_line_90 : decode cX19_line 90 = .ok (.aload_n 0, 1) := by decide +kernel
theorem dX19_line_91 : decode cX19_line 91 = .ok (.ldc2_w 396, 3) := by decide +kernel
theorem dX19_line_94 : decode cX19_line 94 = .ok (.lconst 0, 1) := by decide +kernel
theorem dX19_line_95 : decode cX19_line 95 = .ok (.invokevirtual 327, 3) := by decide +kernel
theorem dX19_line_98 : decode cX19_line 98 = .ok (.ifCond .eq 8, 3) := by decide +kernel
theorem dX19_line_101 : decode cX19_line 101 = .ok (.aload_n 0, 1) := by decide +kernel
theorem dX19_line_102 : decode cX19_line 102 = .ok (.invokevirtual 398, 3) := by decide +kernel
theorem dX19_line_105 : decode cX19_line 105 = .ok (.ireturn, 1) := by decide +kernel
theorem dX19_line_106 : decode cX19_line 106 = .ok (.aload_n 0, 1) := by decide +kernel
theorem dX19_line_107 : decode cX19_line 107 = .ok (.ldc2_w 401, 3) := by decide +kernel
theorem dX19_line_110 : decode cX19_line 110 = .ok (.lconst 0, 1) := by decide +kernel
theorem dX19_line_111 : decode cX19_line 111 = .ok (.invokevirtual 327, 3) := by decide +kernel
theorem dX19_line_114 : decode cX19_line 114 = .ok (.ifCond .eq 8, 3) := by decide +kernel
theorem dX19_line_117 : decode cX19_line 117 = .ok (.aload_n 0, 1) := by decide +kernel
theorem dX19_line_118 : decode cX19_line 118 = .ok (.invokevirtual 403, 3) := by decide +kernel
theorem dX19_line_121 : decode cX19_line 121 = .ok (.ireturn, 1) := by decide +kernel
theorem dX19_line_122 : decode cX19_line 122 = .ok (.aload_n 0, 1) := by decide +kernel
theorem dX19_line_123 : decode cX19_line 123 = .ok (.ldc2_w 406, 3) := by decide +kernel
theorem dX19_line_126 : decode cX19_line 126 = .ok (.lconst 0, 1) := by decide +kernel
theorem dX19_line_127 : decode cX19_line 127 = .ok (.invokevirtual 327, 3) := by decide +kernel
theorem dX19_line_130 : decode cX19_line 130 = .ok (.ifCond .eq 9, 3) := by decide +kernel
theorem dX19_line_133 : decode cX19_line 133 = .ok (.aload_n 0, 1) := by decide +kernel
theorem dX19_line_134 : decode cX19_line 134 = .ok (.iconst 0, 1) := by decide +kernel
theorem dX19_line_135 : decode cX19_line 135 = .ok (.invokevirtual 408, 3) := by decide +kernel
theorem dX19_line_138 : decode cX19_line 138 = .ok (.ireturn, 1) := by decide +kernel
theorem dX19_line_139 : decode cX19_line 139 = .ok (.aload_n 0, 1) := by decide +kernel
theorem dX19_line_140 : decode cX19_line 140 = .ok (.ldc2_w 411, 3) := by decide +kernel
theorem dX19_line_143 : decode cX19_line 143 = .ok (.lconst 0, 1) := by decide +kernel
theorem dX19_line_144 : decode cX19_line 144 = .ok (.invokevirtual 327, 3) := by decide +kernel
theorem dX19_line_147 : decode cX19_line 147 = .ok (.ifCond .eq 9, 3) := by decide +kernel
theorem dX19_line_150 : decode cX19_line 150 = .ok (.aload_n 0, 1) := by decide +kernel
theorem dX19_line_151 : decode cX19_line 151 = .ok (.iconst 1, 1) := by decide +kernel
theorem dX19_line_152 : decode cX19_line 152 = .ok (.invokevirtual 408, 3) := by decide +kernel
theorem dX19_line_155 : decode cX19_line 155 = .ok (.ireturn, 1) := by decide +kernel
theorem dX19_line_156 : decode cX19_line 156 = .ok (.aload_n 0, 1) := by decide +kernel
theorem dX19_line_157 : decode cX19_line 157 = .ok (.ldc2_w 413, 3) := by decide +kernel
theorem dX19_line_160 : decode cX19_line 160 = .ok (.lconst 0, 1) := by decide +kernel
theorem dX19_line_161 : decode cX19_line 161 = .ok (.invokevirtual 327, 3) := by decide +kernel
theorem dX19_line_164 : decode cX19_line 164 = .ok (.ifCond .eq 9, 3) := by decide +kernel
theorem dX19_line_167 : decode cX19_line 167 = .ok (.aload_n 0, 1) := by decide +kernel
theorem dX19_line_168 : decode cX19_line 168 = .ok (.iconst 2, 1) := by decide +kernel
theorem dX19_line_169 : decode cX19_line 169 = .ok (.invokevirtual 408, 3) := by decide +kernel
theorem dX19_line_172 : decode cX19_line 172 = .ok (.ireturn, 1) := by decide +kernel
theorem dX19_line_173 : decode cX19_line 173 = .ok (.aload_n 0, 1) := by decide +kernel
theorem dX19_line_174 : decode cX19_line 174 = .ok (.ldc2_w 415, 3) := by decide +kernel
theorem dX19_line_177 : decode cX19_line 177 = .ok (.lconst 0, 1) := by decide +kernel
theorem dX19_line_178 : decode cX19_line 178 = .ok (.invokevirtual 327, 3) := by decide +kernel
theorem dX19_line_181 : decode cX19_line 181 = .ok (.ifCond .eq 8, 3) := by decide +kernel
theorem dX19_line_184 : decode cX19_line 184 = .ok (.aload_n 0, 1) := by decide +kernel
theorem dX19_line_185 : decode cX19_line 185 = .ok (.invokevirtual 417, 3) := by decide +kernel
theorem dX19_line_188 : decode cX19_line 188 = .ok (.ireturn, 1) := by decide +kernel
theorem dX19_line_189 : decode cX19_line 189 = .ok (.aload_n 0, 1) := by decide +kernel
theorem dX19_line_190 : decode cX19_line 190 = .ok (.ldc2_w 420, 3) := by decide +kernel
theorem dX19_line_193 : decode cX19_line 193 = .ok (.lconst 0, 1) := by decide +kernel
theorem dX19_line_194 : decode cX19_line 194 = .ok (.invokevirtual 327, 3) := by decide +kernel
theorem dX19_line_197 : decode cX19_line 197 = .ok (.ifCond .eq 8, 3) := by decide +kernel
theorem dX19_line_200 : decode cX19_line 200 = .ok (.aload_n 0, 1) := by decide +kernel
theorem dX19_line_201 : decode cX19_line 201 = .ok (.invokevirtual 422, 3) := by decide +kernel
theorem dX19_line_204 : decode cX19_line 204 = .ok (.ireturn, 1) := by decide +kernel
theorem dX19_line_205 : decode cX19_line 205 = .ok (.aload_n 0, 1) := by decide +kernel
theorem dX19_line_206 : decode cX19_line 206 = .ok (.ldc2_w 425, 3) := by decide +kernel
theorem dX19_line_209 : decode cX19_line 209 = .ok (.lconst 0, 1) := by decide +kernel
theorem dX19_line_210 : decode cX19_line 210 = .ok (.invokevirtual 327, 3) := by decide +kernel
theorem dX19_line_213 : decode cX19_line 213 = .ok (.ifCond .eq 8, 3) := by decide +kernel
theorem dX19_line_216 : decode cX19_line 216 = .ok (.aload_n 0, 1) := by decide +kernel
theorem dX19_line_217 : decode cX19_line 217 = .ok (.invokevirtual 427, 3) := by decide +kernel
theorem dX19_line_220 : decode cX19_line 220 = .ok (.ireturn, 1) := by decide +kernel
theorem dX19_line_221 : decode cX19_line 221 = .ok (.aload_n 0, 1) := by decide +kernel
theorem dX19_line_222 : decode cX19_line 222 = .ok (.ldc2_w 430, 3) := by decide +kernel
theorem dX19_line_225 : decode cX19_line 225 = .ok (.lconst 0, 1) := by decide +kernel
theorem dX19_line_226 : decode cX19_line 226 = .ok (.invokevirtual 327, 3) := by decide +kernel
theorem dX19_line_229 : decode cX19_line 229 = .ok (.ifCond .eq 8, 3) := by decide +kernel
theorem dX19_line_232 : decode cX19_line 232 = .ok (.aload_n 0, 1) := by decide +kernel
theorem dX19_line_233 : decode cX19_line 233 = .ok (.invokevirtual 432, 3) := by decide +kernel
theorem dX19_line_236 : decode cX19_line 236 = .ok (.ireturn, 1) := by decide +kernel
theorem dX19_line_237 : decode cX19_line 237 = .ok (.aload_n 0, 1) := by decide +kernel
theorem dX19_line_238 : decode cX19_line 238 = .ok (.iconst 1, 1) := by decide +kernel
theorem dX19_line_239 : decode cX19_line 239 = .ok (.aload_n 0, 1) := by decide +kernel
theorem dX19_line_240 : decode cX19_line 240 = .ok (.getfield 311, 3) := by decide +kernel
theorem dX19_line_243 : decode cX19_line 243 = .ok (.invokevirtual 321, 3) := by decide +kernel
theorem dX19_line_246 : decode cX19_line 246 = .ok (.ireturn, 1) := by decide +kernel
theorem cwX19_line : mw_cwV yX19_line cX19_line 1 ((some .boolean)) 0 := ⟨⟨wd_13, wd_3152, by decide +kernel⟩, wd_3151, sl_150⟩
set_option maxHeartbeats 4000000 in
set_option maxRecDepth 100000 in
theorem tX19_line (l : Launch) (G : mwG) (ad : Nat → Nat) (fu : Nat) (M : mwM) (L : mwL) {r0 : Int32} {M0 : mwM} {L0 : mwL} (hD : DX19_line fu M L = some (r0, M0, L0)) : Met l yX19_line (Cond.code yX19_line cX19_line 1 ((some .boolean)) :: GT) ({ frames := 5, cells := 0, slots := 0, locals := 119 }) (mw_Pre G ad NF TF FF M L [.ref (ad 732)]) (mw_Qi G ad NF TF FF (mw_eqI r0 M0 L0)) 0 0 (mw_fr G) := by
  refine mw_enter (by decide) (Nat.le_of_ble_eq_true rfl) ?_
  intro p e s m below meth c ls C hr hlocks hnm hw hl
  have hl : lv_has ls 1 [(0, .ref (ad 732))] := hl
  unfold DX19_line at hD
  refine lv_aload_n C.1.1 C.1.2.1 dX19_line_0 rfl (lv_at hl 0 rfl) ?_
  refine lv_aload_n C.1.1 C.1.2.1 dX19_line_1 rfl (lv_at hl 0 rfl) ?_
  refine mr_getI C hw kc_19 9 (by decide) tf_732 wd_2790 dX19_line_2 (by decide) rfl ?_
  obtain ⟨M1, eM1, hD⟩ := g_let hD
  refine mr_putI C hw kc_19 8 (by decide) tf_732 wd_2789 dX19_line_5 (by decide) rfl rfl rfl rfl (fun H locs hw => ?_)
  replace hw : mw_W G ad NF TF FF M1 L H locs := by rw [eM1]; exact hw
  refine lv_aload_n C.1.1 C.1.2.1 dX19_line_8 rfl (lv_at hl 0 rfl) ?_
  refine lv_ldc2 (v := 7812741990951317347) C.1.1 C.1.2.1 C.1.2.2.2.1 (C.1.2.2.2.2 _ wd_3153) dX19_line_9 ?_
  refine lv_ldc2 (v := 29285) C.1.1 C.1.2.1 C.1.2.2.2.1 (C.1.2.2.2.2 _ wd_3154) dX19_line_12 ?_
  obtain ⟨r4, M2, L3, h1, hD⟩ := g_b3 hD
  refine md_cvI (As := [.long 7812741990951317347, .long 29285]) (rest := []) C hw (tX19_is l G ad fu 7812741990951317347 29285 M1 L h1) kc_19 (by decide) tf_732 wd_3155 cwX19_is ⟨Nat.le_of_ble_eq_true rfl, Nat.le_of_ble_eq_true rfl⟩ rfl hl.1 (Nat.le_of_ble_eq_true rfl) dX19_line_15 rfl rfl ⟨Nat.zero_le _, Nat.zero_le _⟩ rfl (fun H locs hw => ?_)
  refine lv_if_eq (tgt := 26) C.1.1 C.1.2.1 dX19_line_18 (by decide) (fun c5 => ?_) (fun c5 => ?_)
  · replace hD := g_pos c5 hD
    refine lv_aload_n C.1.1 C.1.2.1 dX19_line_26 rfl (lv_at hl 0 rfl) ?_
    refine lv_ldc2 (v := 1802723700) C.1.1 C.1.2.1 C.1.2.2.2.1 (C.1.2.2.2.2 _ wd_3202) dX19_line_27 ?_
    refine lv_lconst (v := 0) C.1.1 C.1.2.1 dX19_line_30 (by decide) ?_
    obtain ⟨r8, M6, L7, h1, hD⟩ := g_b3 hD
    refine md_cvI (As := [.long 1802723700, .long 0]) (rest := []) C hw (tX19_is l G ad fu 1802723700 0 M2 L3 h1) kc_19 (by decide) tf_732 wd_3155 cwX19_is ⟨Nat.le_of_ble_eq_true rfl, Nat.le_of_ble_eq_true rfl⟩ rfl hl.1 (Nat.le_of_ble_eq_true rfl) dX19_line_31 rfl rfl ⟨Nat.zero_le _, Nat.zero_le _⟩ rfl (fun H locs hw => ?_)
    refine lv_if_eq (tgt := 42) C.1.1 C.1.2.1 dX19_line_34 (by decide) (fun c9 => ?_) (fun c9 => ?_)
    · replace hD := g_pos c9 hD
      refine lv_aload_n C.1.1 C.1.2.1 dX19_line_42 rfl (lv_at hl 0 rfl) ?_
      refine lv_ldc2 (v := 500135192675) C.1.1 C.1.2.1 C.1.2.2.2.1 (C.1.2.2.2.2 _ wd_3219) dX19_line_43 ?_
      refine lv_lconst (v := 0) C.1.1 C.1.2.1 dX19_line_46 (by decide) ?_
      obtain ⟨r12, M10, L11, h1, hD⟩ := g_b3 hD
      refine md_cvI (As := [.long 500135192675, .long 0]) (rest := []) C hw (tX19_is l G ad fu 500135192675 0 M6 L7 h1) kc_19 (by decide) tf_732 wd_3155 cwX19_is ⟨Nat.le_of_ble_eq_true rfl, Nat.le_of_ble_eq_true rfl⟩ rfl hl.1 (Nat.le_of_ble_eq_true rfl) dX19_line_47 rfl rfl ⟨Nat.zero_le _, Nat.zero_le _⟩ rfl (fun H locs hw => ?_)
      refine lv_if_eq (tgt := 58) C.1.1 C.1.2.1 dX19_line_50 (by decide) (fun c13 => ?_) (fun c13 => ?_)
      · replace hD := g_pos c13 hD
        refine lv_aload_n C.1.1 C.1.2.1 dX19_line_58 rfl (lv_at hl 0 rfl) ?_
        refine lv_ldc2 (v := 435744240755) C.1.1 C.1.2.1 C.1.2.2.2.1 (C.1.2.2.2.2 _ wd_3228) dX19_line_59 ?_
        refine lv_lconst (v := 0) C.1.1 C.1.2.1 dX19_line_62 (by decide) ?_
        obtain ⟨r16, M14, L15, h1, hD⟩ := g_b3 hD
        refine md_cvI (As := [.long 435744240755, .long 0]) (rest := []) C hw (tX19_is l G ad fu 435744240755 0 M10 L11 h1) kc_19 (by decide) tf_732 wd_3155 cwX19_is ⟨Nat.le_of_ble_eq_true rfl, Nat.le_of_ble_eq_true rfl⟩ rfl hl.1 (Nat.le_of_ble_eq_true rfl) dX19_line_63 rfl rfl ⟨Nat.zero_le _, Nat.zero_le _⟩ rfl (fun H locs hw => ?_)
        refine lv_if_eq (tgt := 74) C.1.1 C.1.2.1 dX19_line_66 (by decide) (fun c17 => ?_) (fun c17 => ?_)
        · replace hD := g_pos c17 hD
          refine lv_aload_n C.1.1 C.1.2.1 dX19_line_74 rfl (lv_at hl 0 rfl) ?_
          refine lv_ldc2 (v := 1701274725) C.1.1 C.1.2.1 C.1.2.2.2.1 (C.1.2.2.2.2 _ wd_3276) dX19_line_75 ?_
          refine lv_lconst (v := 0) C.1.1 C.1.2.1 dX19_line_78 (by decide) ?_
          obtain ⟨r20, M18, L19, h1, hD⟩ := g_b3 hD
          refine md_cvI (As := [.long 1701274725, .long 0]) (rest := []) C hw (tX19_is l G ad fu 1701274725 0 M14 L15 h1) kc_19 (by decide) tf_732 wd_3155 cwX19_is ⟨Nat.le_of_ble_eq_true rfl, Nat.le_of_ble_eq_true rfl⟩ rfl hl.1 (Nat.le_of_ble_eq_true rfl) dX19_line_79 rfl rfl ⟨Nat.zero_le _, Nat.zero_le _⟩ rfl (fun H locs hw => ?_)
          refine lv_if_eq (tgt := 90) C.1.1 C.1.2.1 dX19_line_82 (by decide) (fun c21 => ?_) (fun c21 => ?_)
          · replace hD := g_pos c21 hD
            refine lv_aload_n C.1.1 C.1.2.1 dX19_line_90 rfl (lv_at hl 0 rfl) ?_
            refine lv_ldc2 (v := 491328398945) C.1.1 C.1.2.1 C.1.2.2.2.1 (C.1.2.2.2.2 _ wd_3309) dX19_line_91 ?_
            refine lv_lconst (v := 0) C.1.1 C.1.2.1 dX19_line_94 (by decide) ?_
            obtain ⟨r24, M22, L23, h1, hD⟩ := g_b3 hD
            refine md_cvI (As := [.long 491328398945, .long 0]) (rest := []) C hw (tX19_is l G ad fu 491328398945 0 M18 L19 h1) kc_19 (by decide) tf_732 wd_3155 cwX19_is ⟨Nat.le_of_ble_eq_true rfl, Nat.le_of_ble_eq_true rfl⟩ rfl hl.1 (Nat.le_of_ble_eq_true rfl) dX19_line_95 rfl rfl ⟨Nat.zero_le _, Nat.zero_le _⟩ rfl (fun H locs hw => ?_)
            refine lv_if_eq (tgt := 106) C.1.1 C.1.2.1 dX19_line_98 (by decide) (fun c25 => ?_) (fun c25 => ?_)
            · replace hD := g_pos c25 hD
              refine lv_aload_n C.1.1 C.1.2.1 dX19_line_106 rfl (lv_at hl 0 rfl) ?_
              refine lv_ldc2 (v := 470121996644) C.1.1 C.1.2.1 C.1.2.2.2.1 (C.1.2.2.2.2 _ wd_3319) dX19_line_107 ?_
              refine lv_lconst (v := 0) C.1.1 C.1.2.1 dX19_line_110 (by decide) ?_
              obtain ⟨r28, M26, L27, h1, hD⟩ := g_b3 hD
              refine md_cvI (As := [.long 470121996644, .long 0]) (rest := []) C hw (tX19_is l G ad fu 470121996644 0 M22 L23 h1) kc_19 (by decide) tf_732 wd_3155 cwX19_is ⟨Nat.le_of_ble_eq_true rfl, Nat.le_of_ble_eq_true rfl⟩ rfl hl.1 (Nat.le_of_ble_eq_true rfl) dX19_line_111 rfl rfl ⟨Nat.zero_le _, Nat.zero_le _⟩ rfl (fun H locs hw => ?_)
              refine lv_if_eq (tgt := 122) C.1.1 C.1.2.1 dX19_line_114 (by decide) (fun c29 => ?_) (fun c29 => ?_)
              · replace hD := g_pos c29 hD
                refine lv_aload_n C.1.1 C.1.2.1 dX19_line_122 rfl (lv_at hl 0 rfl) ?_
                refine lv_ldc2 (v := 491328400997) C.1.1 C.1.2.1 C.1.2.2.2.1 (C.1.2.2.2.2 _ wd_3330) dX19_line_123 ?_
                refine lv_lconst (v := 0) C.1.1 C.1.2.1 dX19_line_126 (by decide) ?_
                obtain ⟨r32, M30, L31, h1, hD⟩ := g_b3 hD
                refine md_cvI (As := [.long 491328400997, .long 0]) (rest := []) C hw (tX19_is l G ad fu 491328400997 0 M26 L27 h1) kc_19 (by decide) tf_732 wd_3155 cwX19_is ⟨Nat.le_of_ble_eq_true rfl, Nat.le_of_ble_eq_true rfl⟩ rfl hl.1 (Nat.le_of_ble_eq_true rfl) dX19_line_127 rfl rfl ⟨Nat.zero_le _, Nat.zero_le _⟩ rfl (fun H locs hw => ?_)
                refine lv_if_eq (tgt := 139) C.1.1 C.1.2.1 dX19_line_130 (by decide) (fun c33 => ?_) (fun c33 => ?_)
                · replace hD := g_pos c33 hD
                  refine lv_aload_n C.1.1 C.1.2.1 dX19_line_139 rfl (lv_at hl 0 rfl) ?_
                  refine lv_ldc2 (v := 435777791340) C.1.1 C.1.2.1 C.1.2.2.2.1 (C.1.2.2.2.2 _ wd_3340) dX19_line_140 ?_
                  refine lv_lconst (v := 0) C.1.1 C.1.2.1 dX19_line_143 (by decide) ?_
                  obtain ⟨r36, M34, L35, h1, hD⟩ := g_b3 hD
                  refine md_cvI (As := [.long 435777791340, .long 0]) (rest := []) C hw (tX19_is l G ad fu 435777791340 0 M30 L31 h1) kc_19 (by decide) tf_732 wd_3155 cwX19_is ⟨Nat.le_of_ble_eq_true rfl, Nat.le_of_ble_eq_true rfl⟩ rfl hl.1 (Nat.le_of_ble_eq_true rfl) dX19_line_144 rfl rfl ⟨Nat.zero_le _, Nat.zero_le _⟩ rfl (fun H locs hw => ?_)
                  refine lv_if_eq (tgt := 156) C.1.1 C.1.2.1 dX19_line_147 (by decide) (fun c37 => ?_) (fun c37 => ?_)
                  · replace hD := g_pos c37 hD
                    refine lv_aload_n C.1.1 C.1.2.1 dX19_line_156 rfl (lv_at hl 0 rfl) ?_
                    refine lv_ldc2 (v := 1701536116) C.1.1 C.1.2.1 C.1.2.2.2.1 (C.1.2.2.2.2 _ wd_3341) dX19_line_157 ?_
                    refine lv_lconst (v := 0) C.1.1 C.1.2.1 dX19_line_160 (by decide) ?_
                    obtain ⟨r40, M38, L39, h1, hD⟩ := g_b3 hD
                    refine md_cvI (As := [.long 1701536116, .long 0]) (rest := []) C hw (tX19_is l G ad fu 1701536116 0 M34 L35 h1) kc_19 (by decide) tf_732 wd_3155 cwX19_is ⟨Nat.le_of_ble_eq_true rfl, Nat.le_of_ble_eq_true rfl⟩ rfl hl.1 (Nat.le_of_ble_eq_true rfl) dX19_line_161 rfl rfl ⟨Nat.zero_le _, Nat.zero_le _⟩ rfl (fun H locs hw => ?_)
                    refine lv_if_eq (tgt := 173) C.1.1 C.1.2.1 dX19_line_164 (by decide) (fun c41 => ?_) (fun c41 => ?_)
                    · replace hD := g_pos c41 hD
                      refine lv_aload_n C.1.1 C.1.2.1 dX19_line_173 rfl (lv_at hl 0 rfl) ?_
                      refine lv_ldc2 (v := 119165719898483) C.1.1 C.1.2.1 C.1.2.2.2.1 (C.1.2.2.2.2 _ wd_3342) dX19_line_174 ?_
                      refine lv_lconst (v := 0) C.1.1 C.1.2.1 dX19_line_177 (by decide) ?_
                      obtain ⟨r44, M42, L43, h1, hD⟩ := g_b3 hD
                      refine md_cvI (As := [.long 119165719898483, .long 0]) (rest := []) C hw (tX19_is l G ad fu 119165719898483 0 M38 L39 h1) kc_19 (by decide) tf_732 wd_3155 cwX19_is ⟨Nat.le_of_ble_eq_true rfl, Nat.le_of_ble_eq_true rfl⟩ rfl hl.1 (Nat.le_of_ble_eq_true rfl) dX19_line_178 rfl rfl ⟨Nat.zero_le _, Nat.zero_le _⟩ rfl (fun H locs hw => ?_)
                      refine lv_if_eq (tgt := 189) C.1.1 C.1.2.1 dX19_line_181 (by decide) (fun c45 => ?_) (fun c45 => ?_)
                      · replace hD := g_pos c45 hD
                        refine lv_aload_n C.1.1 C.1.2.1 dX19_line_189 rfl (lv_at hl 0 rfl) ?_
                        refine lv_ldc2 (v := 32760384694743664) C.1.1 C.1.2.1 C.1.2.2.2.1 (C.1.2.2.2.2 _ wd_3348) dX19_line_190 ?_
                        refine lv_lconst (v := 0) C.1.1 C.1.2.1 dX19_line_193 (by decide) ?_
                        obtain ⟨r48, M46, L47, h1, hD⟩ := g_b3 hD
                        refine md_cvI (As := [.long 32760384694743664, .long 0]) (rest := []) C hw (tX19_is l G ad fu 32760384694743664 0 M42 L43 h1) kc_19 (by decide) tf_732 wd_3155 cwX19_is ⟨Nat.le_of_ble_eq_true rfl, Nat.le_of_ble_eq_true rfl⟩ rfl hl.1 (Nat.le_of_ble_eq_true rfl) dX19_line_194 rfl rfl ⟨Nat.zero_le _, Nat.zero_le _⟩ rfl (fun H locs hw => ?_)
                        refine lv_if_eq (tgt := 205) C.1.1 C.1.2.1 dX19_line_197 (by decide) (fun c49 => ?_) (fun c49 => ?_)
                        · replace hD := g_pos c49 hD
                          refine lv_aload_n C.1.1 C.1.2.1 dX19_line_205 rfl (lv_at hl 0 rfl) ?_
                          refine lv_ldc2 (v := 1684104562) C.1.1 C.1.2.1 C.1.2.2.2.1 (C.1.2.2.2.2 _ wd_3357) dX19_line_206 ?_
                          refine lv_lconst (v := 0) C.1.1 C.1.2.1 dX19_line_209 (by decide) ?_
                          obtain ⟨r52, M50, L51, h1, hD⟩ := g_b3 hD
                          refine md_cvI (As := [.long 1684104562, .long 0]) (rest := []) C hw (tX19_is l G ad fu 1684104562 0 M46 L47 h1) kc_19 (by decide) tf_732 wd_3155 cwX19_is ⟨Nat.le_of_ble_eq_true rfl, Nat.le_of_ble_eq_true rfl⟩ rfl hl.1 (Nat.le_of_ble_eq_true rfl) dX19_line_210 rfl rfl ⟨Nat.zero_le _, Nat.zero_le _⟩ rfl (fun H locs hw => ?_)
                          refine lv_if_eq (tgt := 221) C.1.1 C.1.2.1 dX19_line_213 (by decide) (fun c53 => ?_) (fun c53 => ?_)
                          · replace hD := g_pos c53 hD
                            refine lv_aload_n C.1.1 C.1.2.1 dX19_line_221 rfl (lv_at hl 0 rfl) ?_
                            refine lv_ldc2 (v := 448345170295) C.1.1 C.1.2.1 C.1.2.2.2.1 (C.1.2.2.2.2 _ wd_3366) dX19_line_222 ?_
                            refine lv_lconst (v := 0) C.1.1 C.1.2.1 dX19_line_225 (by decide) ?_
                            obtain ⟨r56, M54, L55, h1, hD⟩ := g_b3 hD
                            refine md_cvI (As := [.long 448345170295, .long 0]) (rest := []) C hw (tX19_is l G ad fu 448345170295 0 M50 L51 h1) kc_19 (by decide) tf_732 wd_3155 cwX19_is ⟨Nat.le_of_ble_eq_true rfl, Nat.le_of_ble_eq_true rfl⟩ rfl hl.1 (Nat.le_of_ble_eq_true rfl) dX19_line_226 rfl rfl ⟨Nat.zero_le _, Nat.zero_le _⟩ rfl (fun H locs hw => ?_)
                            refine lv_if_eq (tgt := 237) C.1.1 C.1.2.1 dX19_line_229 (by decide) (fun c57 => ?_) (fun c57 => ?_)
                            · replace hD := g_pos c57 hD
                              refine lv_aload_n C.1.1 C.1.2.1 dX19_line_237 rfl (lv_at hl 0 rfl) ?_
                              refine lv_iconst (v := 1) C.1.1 C.1.2.1 dX19_line_238 (by decide) ?_
                              refine lv_aload_n C.1.1 C.1.2.1 dX19_line_239 rfl (lv_at hl 0 rfl) ?_
                              refine mr_getI C hw kc_19 9 (by decide) tf_732 wd_2790 dX19_line_240 (by decide) rfl ?_
                              obtain ⟨r60, M58, L59, h1, hD⟩ := g_b3 hD
                              refine md_cvI (As := [.int 1, .int (M54 732 9)]) (rest := []) C hw (tX19_fail l G ad fu 1 (M54 732 9) M54 L55 h1) kc_19 (by decide) tf_732 wd_3172 cwX19_fail ⟨Nat.le_of_ble_eq_true rfl, Nat.le_of_ble_eq_true rfl⟩ rfl hl.1 (Nat.le_of_ble_eq_true rfl) dX19_line_243 rfl rfl ⟨Nat.zero_le _, Nat.zero_le _⟩ rfl (fun H locs hw => ?_)
                              obtain ⟨z61, hD⟩ := g_zz hD
                              exact mr_iret C hr hlocks hw (nz_zz z61) (Option.some.inj hD) dX19_line_246
                            · replace hD := g_neg c57 hD
                              refine lv_aload_n C.1.1 C.1.2.1 dX19_line_232 rfl (lv_at hl 0 rfl) ?_
                              obtain ⟨r64, M62, L63, h1, hD⟩ := g_b3 hD
                              refine md_cvI (As := []) (rest := []) C hw (tX19_addWatch l G ad fu M54 L55 h1) kc_19 (by decide) tf_732 wd_3367 cwX19_addWatch ⟨Nat.le_of_ble_eq_true rfl, Nat.le_of_ble_eq_true rfl⟩ rfl hl.1 (Nat.le_of_ble_eq_true rfl) dX19_line_233 rfl rfl ⟨Nat.zero_le _, Nat.zero_le _⟩ rfl (fun H locs hw => ?_)
                              obtain ⟨z65, hD⟩ := g_zz hD
                              exact mr_iret C hr hlocks hw (nz_zz z65) (Option.some.inj hD) dX19_line_236
                          · replace hD := g_neg c53 hD
                            refine lv_aload_n C.1.1 C.1.2.1 dX19_line_216 rfl (lv_at hl 0 rfl) ?_
                            obtain ⟨r68, M66, L67, h1, hD⟩ := g_b3 hD
                            refine md_cvI (As := []) (rest := []) C hw (tX19_addRead l G ad fu M50 L51 h1) kc_19 (by decide) tf_732 wd_3358 cwX19_addRead ⟨Nat.le_of_ble_eq_true rfl, Nat.le_of_ble_eq_true rfl⟩ rfl hl.1 (Nat.le_of_ble_eq_true rfl) dX19_line_217 rfl rfl ⟨Nat.zero_le _, Nat.zero_le _⟩ rfl (fun H locs hw => ?_)
                            obtain ⟨z69, hD⟩ := g_zz hD
                            exact mr_iret C hr hlocks hw (nz_zz z69) (Option.some.inj hD) dX19_line_220
                        · replace hD := g_neg c49 hD
                          refine lv_aload_n C.1.1 C.1.2.1 dX19_line_200 rfl (lv_at hl 0 rfl) ?_
                          obtain ⟨r72, M70, L71, h1, hD⟩ := g_b3 hD
                          refine md_cvI (As := []) (rest := []) C hw (tX19_addKey l G ad fu M46 L47 h1) kc_19 (by decide) tf_732 wd_3349 cwX19_addKey ⟨Nat.le_of_ble_eq_true rfl, Nat.le_of_ble_eq_true rfl⟩ rfl hl.1 (Nat.le_of_ble_eq_true rfl) dX19_line_201 rfl rfl ⟨Nat.zero_le _, Nat.zero_le _⟩ rfl (fun H locs hw => ?_)
                          obtain ⟨z73, hD⟩ := g_zz hD
                          exact mr_iret C hr hlocks hw (nz_zz z73) (Option.some.inj hD) dX19_line_204
                      · replace hD := g_neg c45 hD
                        refine lv_aload_n C.1.1 C.1.2.1 dX19_line_184 rfl (lv_at hl 0 rfl) ?_
                        obtain ⟨r76, M74, L75, h1, hD⟩ := g_b3 hD
                        refine md_cvI (As := []) (rest := []) C hw (tX19_addSignal l G ad fu M42 L43 h1) kc_19 (by decide) tf_732 wd_3343 cwX19_addSignal ⟨Nat.le_of_ble_eq_true rfl, Nat.le_of_ble_eq_true rfl⟩ rfl hl.1 (Nat.le_of_ble_eq_true rfl) dX19_line_185 rfl rfl ⟨Nat.zero_le _, Nat.zero_le _⟩ rfl (fun H locs hw => ?_)
                        obtain ⟨z77, hD⟩ := g_zz hD
                        exact mr_iret C hr hlocks hw (nz_zz z77) (Option.some.inj hD) dX19_line_188
                    · replace hD := g_neg c41 hD
                      refine lv_aload_n C.1.1 C.1.2.1 dX19_line_167 rfl (lv_at hl 0 rfl) ?_
                      refine lv_iconst (v := 2) C.1.1 C.1.2.1 dX19_line_168 (by decide) ?_
                      obtain ⟨r80, M78, L79, h1, hD⟩ := g_b3 hD
                      refine md_cvI (As := [.int 2]) (rest := []) C hw (tX19_addAct l G ad fu 2 M38 L39 h1) kc_19 (by decide) tf_732 wd_3331 cwX19_addAct ⟨Nat.le_of_ble_eq_true rfl, Nat.le_of_ble_eq_true rfl⟩ rfl hl.1 (Nat.le_of_ble_eq_true rfl) dX19_line_169 rfl rfl ⟨Nat.zero_le _, Nat.zero_le _⟩ rfl (fun H locs hw => ?_)
                      obtain ⟨z81, hD⟩ := g_zz hD
                      exact mr_iret C hr hlocks hw (nz_zz z81) (Option.some.inj hD) dX19_line_172
                  · replace hD := g_neg c37 hD
                    refine lv_aload_n C.1.1 C.1.2.1 dX19_line_150 rfl (lv_at hl 0 rfl) ?_
                    refine lv_iconst (v := 1) C.1.1 C.1.2.1 dX19_line_151 (by decide) ?_
                    obtain ⟨r84, M82, L83, h1, hD⟩ := g_b3 hD
                    refine md_cvI (As := [.int 1]) (rest := []) C hw (tX19_addAct l G ad fu 1 M34 L35 h1) kc_19 (by decide) tf_732 wd_3331 cwX19_addAct ⟨Nat.le_of_ble_eq_true rfl, Nat.le_of_ble_eq_true rfl⟩ rfl hl.1 (Nat.le_of_ble_eq_true rfl) dX19_line_152 rfl rfl ⟨Nat.zero_le _, Nat.zero_le _⟩ rfl (fun H locs hw => ?_)
                    obtain ⟨z85, hD⟩ := g_zz hD
                    exact mr_iret C hr hlocks hw (nz_zz z85) (Option.some.inj hD) dX19_line_155
                · replace hD := g_neg c33 hD
                  refine lv_aload_n C.1.1 C.1.2.1 dX19_line_133 rfl (lv_at hl 0 rfl) ?_
                  refine lv_iconst (v := 0) C.1.1 C.1.2.1 dX19_line_134 (by decide) ?_
                  obtain ⟨r88, M86, L87, h1, hD⟩ := g_b3 hD
                  refine md_cvI (As := [.int 0]) (rest := []) C hw (tX19_addAct l G ad fu 0 M30 L31 h1) kc_19 (by decide) tf_732 wd_3331 cwX19_addAct ⟨Nat.le_of_ble_eq_true rfl, Nat.le_of_ble_eq_true rfl⟩ rfl hl.1 (Nat.le_of_ble_eq_true rfl) dX19_line_135 rfl rfl ⟨Nat.zero_le _, Nat.zero_le _⟩ rfl (fun H locs hw => ?_)
                  obtain ⟨z89, hD⟩ := g_zz hD
                  exact mr_iret C hr hlocks hw (nz_zz z89) (Option.some.inj hD) dX19_line_138
              · replace hD := g_neg c29 hD
                refine lv_aload_n C.1.1 C.1.2.1 dX19_line_117 rfl (lv_at hl 0 rfl) ?_
                obtain ⟨r92, M90, L91, h1, hD⟩ := g_b3 hD
                refine md_cvI (As := []) (rest := []) C hw (tX19_addDatum l G ad fu M26 L27 h1) kc_19 (by decide) tf_732 wd_3320 cwX19_addDatum ⟨Nat.le_of_ble_eq_true rfl, Nat.le_of_ble_eq_true rfl⟩ rfl hl.1 (Nat.le_of_ble_eq_true rfl) dX19_line_118 rfl rfl ⟨Nat.zero_le _, Nat.zero_le _⟩ rfl (fun H locs hw => ?_)
                obtain ⟨z93, hD⟩ := g_zz hD
                exact mr_iret C hr hlocks hw (nz_zz z93) (Option.some.inj hD) dX19_line_121
            · replace hD := g_neg c25 hD
              refine lv_aload_n C.1.1 C.1.2.1 dX19_line_101 rfl (lv_at hl 0 rfl) ?_
              obtain ⟨r96, M94, L95, h1, hD⟩ := g_b3 hD
              refine md_cvI (As := []) (rest := []) C hw (tX19_addAfter l G ad fu M22 L23 h1) kc_19 (by decide) tf_732 wd_3310 cwX19_addAfter ⟨Nat.le_of_ble_eq_true rfl, Nat.le_of_ble_eq_true rfl⟩ rfl hl.1 (Nat.le_of_ble_eq_true rfl) dX19_line_102 rfl rfl ⟨Nat.zero_le _, Nat.zero_le _⟩ rfl (fun H locs hw => ?_)
              obtain ⟨z97, hD⟩ := g_zz hD
              exact mr_iret C hr hlocks hw (nz_zz z97) (Option.some.inj hD) dX19_line_105
          · replace hD := g_neg c21 hD
            refine lv_aload_n C.1.1 C.1.2.1 dX19_line_85 rfl (lv_at hl 0 rfl) ?_
            obtain ⟨r100, M98, L99, h1, hD⟩ := g_b3 hD
            refine md_cvI (As := []) (rest := []) C hw (tX19_addEdge l G ad fu M18 L19 h1) kc_19 (by decide) tf_732 wd_3277 cwX19_addEdge ⟨Nat.le_of_ble_eq_true rfl, Nat.le_of_ble_eq_true rfl⟩ rfl hl.1 (Nat.le_of_ble_eq_true rfl) dX19_line_86 rfl rfl ⟨Nat.zero_le _, Nat.zero_le _⟩ rfl (fun H locs hw => ?_)
            obtain ⟨z101, hD⟩ := g_zz hD
            exact mr_iret C hr hlocks hw (nz_zz z101) (Option.some.inj hD) dX19_line_89
        · replace hD := g_neg c17 hD
          refine lv_aload_n C.1.1 C.1.2.1 dX19_line_69 rfl (lv_at hl 0 rfl) ?_
          obtain ⟨r104, M102, L103, h1, hD⟩ := g_b3 hD
          refine md_cvI (As := []) (rest := []) C hw (tX19_addState l G ad fu M14 L15 h1) kc_19 (by decide) tf_732 wd_3229 cwX19_addState ⟨Nat.le_of_ble_eq_true rfl, Nat.le_of_ble_eq_true rfl⟩ rfl hl.1 (Nat.le_of_ble_eq_true rfl) dX19_line_70 rfl rfl ⟨Nat.zero_le _, Nat.zero_le _⟩ rfl (fun H locs hw => ?_)
          obtain ⟨z105, hD⟩ := g_zz hD
          exact mr_iret C hr hlocks hw (nz_zz z105) (Option.some.inj hD) dX19_line_73
      · replace hD := g_neg c13 hD
        refine lv_aload_n C.1.1 C.1.2.1 dX19_line_53 rfl (lv_at hl 0 rfl) ?_
        obtain ⟨r108, M106, L107, h1, hD⟩ := g_b3 hD
        refine md_cvI (As := []) (rest := []) C hw (tX19_addChart l G ad fu M10 L11 h1) kc_19 (by decide) tf_732 wd_3220 cwX19_addChart ⟨Nat.le_of_ble_eq_true rfl, Nat.le_of_ble_eq_true rfl⟩ rfl hl.1 (Nat.le_of_ble_eq_true rfl) dX19_line_54 rfl rfl ⟨Nat.zero_le _, Nat.zero_le _⟩ rfl (fun H locs hw => ?_)
        obtain ⟨z109, hD⟩ := g_zz hD
        exact mr_iret C hr hlocks hw (nz_zz z109) (Option.some.inj hD) dX19_line_57
    · replace hD := g_neg c9 hD
      refine lv_aload_n C.1.1 C.1.2.1 dX19_line_37 rfl (lv_at hl 0 rfl) ?_
      obtain ⟨r112, M110, L111, h1, hD⟩ := g_b3 hD
      refine md_cvI (As := []) (rest := []) C hw (tX19_addTask l G ad fu M6 L7 h1) kc_19 (by decide) tf_732 wd_3203 cwX19_addTask ⟨Nat.le_of_ble_eq_true rfl, Nat.le_of_ble_eq_true rfl⟩ rfl hl.1 (Nat.le_of_ble_eq_true rfl) dX19_line_38 rfl rfl ⟨Nat.zero_le _, Nat.zero_le _⟩ rfl (fun H locs hw => ?_)
      obtain ⟨z113, hD⟩ := g_zz hD
      exact mr_iret C hr hlocks hw (nz_zz z113) (Option.some.inj hD) dX19_line_41
  · replace hD := g_neg c5 hD
    refine lv_aload_n C.1.1 C.1.2.1 dX19_line_21 rfl (lv_at hl 0 rfl) ?_
    obtain ⟨r116, M114, L115, h1, hD⟩ := g_b3 hD
    refine md_cvI (As := []) (rest := []) C hw (tX19_addController l G ad fu M2 L3 h1) kc_19 (by decide) tf_732 wd_3160 cwX19_addController ⟨Nat.le_of_ble_eq_true rfl, Nat.le_of_ble_eq_true rfl⟩ rfl hl.1 (Nat.le_of_ble_eq_true rfl) dX19_line_22 rfl rfl ⟨Nat.zero_le _, Nat.zero_le _⟩ rfl (fun H locs hw => ?_)
    obtain ⟨z117, hD⟩ := g_zz hD
    exact mr_iret C hr hlocks hw (nz_zz z117) (Option.some.inj hD) dX19_line_25

theorem dX19_packOne_0 : decode cX19_packOne 0 = .ok (.iconst 0, 1) := by decide +kernel
theorem dX19_packOne_1 : decode cX19_packOne 1 = .ok (.istore 4, 2) := by decide +kernel
theorem dX19_packOne_3 : decode cX19_packOne 3 = .ok (.iconst 0, 1) := by decide +kernel
theorem dX19_packOne_4 : decode cX19_packOne 4 = .ok (.istore 5, 2) := by decide +kernel
theorem dX19_packOne_6 : decode cX19_packOne 6 = .ok (.iload 5, 2) := by decide +kernel
theorem dX19_packOne_8 : decode cX19_packOne 8 = .ok (.aload_n 0, 1) := by decide +kernel
theorem dX19_packOne_9 : decode cX19_packOne 9 = .ok (.getfield 541, 3) := by decide +kernel
theorem dX19_packOne_12 : decode cX19_packOne 12 = .ok (.if_icmp .ge 143, 3) := by decide +kernel
theorem dX19_packOne_15 : decode cX19_packOne 15 = .ok (.aload_n 0, 1) := by decide +kernel
theorem dX19_packOne_16 : decode cX19_packOne 16 = .ok (.aload_n 0, 1) := by decide +kernel
theorem dX19_packOne_17 : decode cX19_packOne 17 = .ok (.iload 5, 2) := by decide +kernel
theorem dX19_packOne_19 : decode cX19_packOne 19 = .ok (.invokevirtual 552, 3) := by decide +kernel
theorem dX19_packOne_22 : decode cX19_packOne 22 = .ok (.aload_n 0, 1) := by decide +kernel
theorem dX19_packOne_23 : decode cX19_packOne 23 = .ok (.getfield 103, 3) := by decide +kernel
theorem dX19_packOne_26 : decode cX19_packOne 26 = .ok (.iload 5, 2) := by decide +kernel
theorem dX19_packOne_28 : decode cX19_packOne 28 = .ok (.iaload, 1) := by decide +kernel
theorem dX19_packOne_29 : decode cX19_packOne 29 = .ok (.invokevirtual 549, 3) := by decide +kernel
theorem dX19_packOne_32 : decode cX19_packOne 32 = .ok (.istore 6, 2) := by decide +kernel
theorem dX19_packOne_34 : decode cX19_packOne 34 = .ok (.aload_n 0, 1) := by decide +kernel
theorem dX19_packOne_35 : decode cX19_packOne 35 = .ok (.iload 5, 2) := by decide +kernel
theorem dX19_packOne_37 : decode cX19_packOne 37 = .ok (.invokevirtual 552, 3) := by decide +kernel
theorem dX19_packOne_40 : decode cX19_packOne 40 = .ok (.iload_n 1, 1) := by decide +kernel
theorem dX19_packOne_41 : decode cX19_packOne 41 = .ok (.if_icmp .ne 108, 3) := by decide +kernel
theorem dX19_packOne_44 : decode cX19_packOne 44 = .ok (.iload 6, 2) := by decide +kernel
theorem dX19_packOne_46 : decode cX19_packOne 46 = .ok (.ifCond .le 7, 3) := by decide +kernel
theorem dX19_packOne_49 : decode cX19_packOne 49 = .ok (.iconst 1, 1) := by decide +kernel
theorem dX19_packOne_50 : decode cX19_packOne 50 = .ok (.goto 4, 3) := by decide +kernel
theorem dX19_packOne_53 : decode cX19_packOne 53 = .ok (.iconst 0, 1) := by decide +kernel
theorem dX19_packOne_54 : decode cX19_packOne 54 = .ok (.iload_n 2, 1) := by decide +kernel
theorem dX19_packOne_55 : decode cX19_packOne 55 = .ok (.if_icmp .eq 6, 3) := by decide +kernel
theorem dX19_packOne_58 : decode cX19_packOne 58 = .ok (.goto 91, 3) := by decide +kernel
theorem dX19_packOne_61 : decode cX19_packOne 61 = .ok (.iload 4, 2) := by decide +kernel
theorem dX19_packOne_63 : decode cX19_packOne 63 = .ok (.ifCond .ne 22, 3) := by decide +kernel
theorem dX19_packOne_66 : decode cX19_packOne 66 = .ok (.aload_n 0, 1) := by decide +kernel
theorem dX19_packOne_67 : decode cX19_packOne 67 = .ok (.getfield 211, 3) := by decide +kernel
theorem dX19_packOne_70 : decode cX19_packOne 70 = .ok (.iload_n 3, 1) := by decide +kernel
theorem dX19_packOne_71 : decode cX19_packOne 71 = .ok (.aaload, 1) := by decide +kernel
theorem dX19_packOne_72 : decode cX19_packOne 72 = .ok (.iload_n 2, 1) := by decide +kernel
theorem dX19_packOne_73 : decode cX19_packOne 73 = .ok (.ifCond .eq 7, 3) := by decide +kernel
theorem dX19_packOne_76 : decode cX19_packOne 76 = .ok (.iconst 3, 1) := by decide +kernel
theorem dX19_packOne_77 : decode cX19_packOne 77 = .ok (.goto 5, 3) := by decide +kernel
theorem dX19_packOne_80 : decode cX19_packOne 80 = .ok (.bipush 8, 2) := by decide +kernel
theorem dX19_packOne_82 : decode cX19_packOne 82 = .ok (.invokevirtual 571, 3) := by decide +kernel
theorem dX19_packOne_85 : decode cX19_packOne 85 = .ok (.iconst 1, 1) := by decide +kernel
theorem dX19_packOne_86 : decode cX19_packOne 86 = .ok (.istore 4, 2) := by decide +kernel
theorem dX19_packOne_88 : decode cX19_packOne 88 = .ok (.aload_n 0, 1) := by decide +kernel
theorem dX19_packOne_89 : decode cX19_packOne 89 = .ok (.getfield 110, 3) := by decide +kernel
theorem dX19_packOne_92 : decode cX19_packOne 92 = .ok (.iload 5, 2) := by decide +kernel
theorem dX19_packOne_94 : decode cX19_packOne 94 = .ok (.aload_n 0, 1) := by decide +kernel
theorem dX19_packOne_95 : decode cX19_packOne 95 = .ok (.getfield 211, 3) := by decide +kernel
theorem dX19_packOne_98 : decode cX19_packOne 98 = .ok (.iload_n 3, 1) := by decide +kernel
theorem dX19_packOne_99 : decode cX19_packOne 99 = .ok (.aaload, 1) := by decide +kernel
theorem dX19_packOne_100 : decode cX19_packOne 100 = .ok (.aload_n 0, 1) := by decide +kernel
theorem dX19_packOne_101 : decode cX19_packOne 101 = .ok (.getfield 94, 3) := by decide +kernel
theorem dX19_packOne_104 : decode cX19_packOne 104 = .ok (.iload 5, 2) := by decide +kernel
theorem dX19_packOne_106 : decode cX19_packOne 106 = .ok (.iaload, 1) := by decide +kernel
theorem dX19_packOne_107 : decode cX19_packOne 107 = .ok (.aload_n 0, 1) := by decide +kernel
theorem dX19_packOne_108 : decode cX19_packOne 108 = .ok (.getfield 103, 3) := by decide +kernel
theorem dX19_packOne_111 : decode cX19_packOne 111 = .ok (.iload 5, 2) := by decide +kernel
theorem dX19_packOne_113 : decode cX19_packOne 113 = .ok (.iaload, 1) := by decide +kernel
theorem dX19_packOne_114 : decode cX19_packOne 114 = .ok (.aload_n 0, 1) := by decide +kernel
theorem dX19_packOne_115 : decode cX19_packOne 115 = .ok (.getfield 106, 3) := by decide +kernel
theorem dX19_packOne_118 : decode cX19_packOne 118 = .ok (.iload 5, 2) := by decide +kernel
theorem dX19_packOne_120 : decode cX19_packOne 120 = .ok (.baload, 1) := by decide +kernel
theorem dX19_packOne_121 : decode cX19_packOne 121 = .ok (.invokevirtual 572, 3) := by decide +kernel
theorem dX19_packOne_124 : decode cX19_packOne 124 = .ok (.iastore, 1) := by decide +kernel
theorem dX19_packOne_125 : decode cX19_packOne 125 = .ok (.aload_n 0, 1) := by decide +kernel
theorem dX19_packOne_126 : decode cX19_packOne 126 = .ok (.getfield 110, 3) := by decide +kernel
theorem dX19_packOne_129 : decode cX19_packOne 129 = .ok (.iload 5, 2) := by decide +kernel
theorem dX19_packOne_131 : decode cX19_packOne 131 = .ok (.iaload, 1) := by decide +kernel
theorem dX19_packOne_132 : decode cX19_packOne 132 = .ok (.ifCond .ne 17, 3) := by decide +kernel
theorem dX19_packOne_135 : decode cX19_packOne 135 = .ok (.aload_n 0, 1) := by decide +kernel
theorem dX19_packOne_136 : decode cX19_packOne 136 = .ok (.bipush 8, 2) := by decide +kernel
theorem dX19_packOne_138 : decode cX19_packOne 138 = .ok (.aload_n 0, 1) := by decide +kernel
theorem dX19_packOne_139 : decode cX19_packOne 139 = .ok (.getfield 91, 3) := by decide +kernel
theorem dX19_packOne_142 : decode cX19_packOne 142 = .ok (.iload 5, 2) := by decide +kernel
theorem dX19_packOne_144 : decode cX19_packOne 144 = .ok (.iaload, 1) := by decide +kernel
theorem dX19_packOne_145 : decode cX19_packOne 145 = .ok (.invokevirtual 321, 3) := by decide +kernel
theorem dX19_packOne_148 : decode cX19_packOne 148 = .ok (.ireturn, 1) := by decide +kernel
theorem dX19_packOne_149 : decode cX19_packOne 149 = .ok (.iinc 5 1, 3) := by decide +kernel
theorem dX19_packOne_152 : decode cX19_packOne 152 = .ok (.goto (-146), 3) := by decide +kernel
theorem dX19_packOne_155 : decode cX19_packOne 155 = .ok (.iload 4, 2) := by decide +kernel
theorem dX19_packOne_157 : decode cX19_packOne 157 = .ok (.ifCond .eq 18, 3) := by decide +kernel
theorem dX19_packOne_160 : decode cX19_packOne 160 = .ok (.aload_n 0, 1) := by decide +kernel
theorem dX19_packOne_161 : decode cX19_packOne 161 = .ok (.getfield 211, 3) := by decide +kernel
theorem dX19_packOne_164 : decode cX19_packOne 164 = .ok (.iload_n 3, 1) := by decide +kernel
theorem dX19_packOne_165 : decode cX19_packOne 165 = .ok (.aaload, 1) := by decide +kernel
theorem dX19_packOne_166 : decode cX19_packOne 166 = .ok (.ldc2_w 576, 3) := by decide +kernel
theorem dX19_packOne_169 : decode cX19_packOne 169 = .ok (.invokevirtual 578, 3) := by decide +kernel
theorem dX19_packOne_172 : decode cX19_packOne 172 = .ok (.goto 4, 3) := by decide +kernel
theorem dX19_packOne_175 : decode cX19_packOne 175 = .ok (.iconst 0, 1) := by decide +kernel
theorem dX19_packOne_176 : decode cX19_packOne 176 = .ok (.istore 5, 2) := by decide +kernel
theorem dX19_packOne_178 : decode cX19_packOne 178 = .ok (.iconst 1, 1) := by decide +kernel
theorem dX19_packOne_179 : decode cX19_packOne 179 = .ok (.istore 6, 2) := by decide +kernel
theorem dX19_packOne_181 : decode cX19_packOne 181 = .ok (.iload 6, 2) := by decide +kernel
theorem dX19_packOne_183 : decode cX19_packOne 183 = .ok (.iload 5, 2) := by decide +kernel
theorem dX19_packOne_185 : decode cX19_packOne 185 = .ok (.if_icmp .gt 208, 3) := by decide +kernel
theorem dX19_packOne_188 : decode cX19_packOne 188 = .ok (.aload_n 0, 1) := by decide +kernel
theorem dX19_packOne_189 : decode cX19_packOne 189 = .ok (.getfield 150, 3) := by decide +kernel
theorem dX19_packOne_192 : decode cX19_packOne 192 = .ok (.aload_n 0, 1) := by decide +kernel
theorem dX19_packOne_193 : decode cX19_packOne 193 = .ok (.getfield 568, 3) := by decide +kernel
theorem dX19_packOne_196 : decode cX19_packOne 196 = .ok (.iload_n 1, 1) := by decide +kernel
theorem dX19_packOne_197 : decode cX19_packOne 197 = .ok (.iastore, 1) := by decide +kernel
theorem dX19_packOne_198 : decode cX19_packOne 198 = .ok (.aload_n 0, 1) := by decide +kernel
theorem dX19_packOne_199 : decode cX19_packOne 199 = .ok (.getfield 153, 3) := by decide +kernel
theorem dX19_packOne_202 : decode cX19_packOne 202 = .ok (.aload_n 0, 1) := by decide +kernel
theorem dX19_packOne_203 : decode cX19_packOne 203 = .ok (.getfield 568, 3) := by decide +kernel
theorem dX19_packOne_206 : decode cX19_packOne 206 = .ok (.iload_n 3, 1) := by decide +kernel
theorem dX19_packOne_207 : decode cX19_packOne 207 = .ok (.iastore, 1) := by decide +kernel
theorem dX19_packOne_208 : decode cX19_packOne 208 = .ok (.aload_n 0, 1) := by decide +kernel
theorem dX19_packOne_209 : decode cX19_packOne 209 = .ok (.getfield 156, 3) := by decide +kernel
theorem dX19_packOne_212 : decode cX19_packOne 212 = .ok (.aload_n 0, 1) := by decide +kernel
theorem dX19_packOne_213 : decode cX19_packOne 213 = .ok (.getfield 568, 3) := by decide +kernel
theorem dX19_packOne_216 : decode cX19_packOne 216 = .ok (.iload 6, 2) := by decide +kernel
theorem dX19_packOne_218 : decode cX19_packOne 218 = .ok (.iastore, 1) := by decide +kernel
theorem dX19_packOne_219 : decode cX19_packOne 219 = .ok (.aload_n 0, 1) := by decide +kernel
theorem dX19_packOne_220 : decode cX19_packOne 220 = .ok (.getfield 168, 3) := by decide +kernel
theorem dX19_packOne_223 : decode cX19_packOne 223 = .ok (.aload_n 0, 1) := by decide +kernel
theorem dX19_packOne_224 : decode cX19_packOne 224 = .ok (.getfield 568, 3) := by decide +kernel
theorem dX19_packOne_227 : decode cX19_packOne 227 = .ok (.iconst 0, 1) := by decide +kernel
theorem dX19_packOne_228 : decode cX19_packOne 228 = .ok (.iastore, 1) := by decide +kernel
theorem dX19_packOne_229 : decode cX19_packOne 229 = .ok (.iconst 0, 1) := by decide +kernel
theorem dX19_packOne_230 : decode cX19_packOne 230 = .ok (.istore 7, 2) := by decide +kernel
theorem dX19_packOne_232 : decode cX19_packOne 232 = .ok (.iload 7, 2) := by decide +kernel
theorem dX19_packOne_234 : decode cX19_packOne 234 = .ok (.aload_n 0, 1) := by decide +kernel
theorem dX19_packOne_235 : decode cX19_packOne 235 = .ok (.getfield 541, 3) := by decide +kernel
theorem dX19_packOne_238 : decode cX19_packOne 238 = .ok (.if_icmp .ge 139, 3) := by decide +kernel
theorem dX19_packOne_241 : decode cX19_packOne 241 = .ok (.aload_n 0, 1) := by decide +kernel
theorem dX19_packOne_242 : decode cX19_packOne 242 = .ok (.aload_n 0, 1) := by decide +kernel
theorem dX19_packOne_243 : decode cX19_packOne 243 = .ok (.iload 7, 2) := by decide +kernel
theorem dX19_packOne_245 : decode cX19_packOne 245 = .ok (.invokevirtual 552, 3) := by decide +kernel
theorem dX19_packOne_248 : decode cX19_packOne 248 = .ok (.aload_n 0, 1) := by decide +kernel
theorem dX19_packOne_249 : decode cX19_packOne 249 = .ok (.getfield 103, 3) := by decide +kernel
theorem dX19_packOne_252 : decode cX19_packOne 252 = .ok (.iload 7, 2) := by decide +kernel
theorem dX19_packOne_254 : decode cX19_packOne 254 = .ok (.iaload, 1) := by decide +kernel
theorem dX19_packOne_255 : decode cX19_packOne 255 = .ok (.invokevirtual 549, 3) := by decide +kernel
theorem dX19_packOne_258 : decode cX19_packOne 258 = .ok (.istore 8, 2) := by decide +kernel
theorem dX19_packOne_260 : decode cX19_packOne 260 = .ok (.aload_n 0, 1) := by decide +kernel
theorem dX19_packOne_261 : decode cX19_packOne 261 = .ok (.iload 7, 2) := by decide +kernel
theorem dX19_packOne_263 : decode cX19_packOne 263 = .ok (.invokevirtual 552, 3) := by decide +kernel
theorem dX19_packOne_266 : decode cX19_packOne 266 = .ok (.iload_n 1, 1) := by decide +kernel
theorem dX19_packOne_267 : decode cX19_packOne 267 = .ok (.if_icmp .ne 104, 3) := by decide +kernel
theorem dX19_packOne_270 : decode cX19_packOne 270 = .ok (.iload 8, 2) := by decide +kernel
theorem dX19_packOne_272 : decode cX19_packOne 272 = .ok (.ifCond .le 7, 3) := by decide +kernel
theorem dX19_packOne_275 : decode cX19_packOne 275 = .ok (.iconst 1, 1) := by decide +kernel
theorem dX19_packOne_276 : decode cX19_packOne 276 = .ok (.goto 4, 3) := by decide +kernel
theorem dX19_packOne_279 : decode cX19_packOne 279 = .ok (.iconst 0, 1) := by decide +kernel
theorem dX19_packOne_280 : decode cX19_packOne 280 = .ok (.iload_n 2, 1) := by decide +kernel
theorem dX19_packOne_281 : decode cX19_packOne 281 = .ok (.if_icmp .ne 90, 3) := by decide +kernel
theorem dX19_packOne_284 : decode cX19_packOne 284 = .ok (.aload_n 0, 1) := by decide +kernel
theorem dX19_packOne_285 : decode cX19_packOne 285 = .ok (.getfield 211, 3) := by decide +kernel
theorem dX19_packOne_288 : decode cX19_packOne 288 = .ok (.iload_n 3, 1) := by decide +kernel
theorem dX19_packOne_289 : decode cX19_packOne 289 = .ok (.aaload, 1) := by decide +kernel
theorem dX19_packOne_290 : decode cX19_packOne 290 = .ok (.aload_n 0, 1) := by decide +kernel
theorem dX19_packOne_291 : decode cX19_packOne 291 = .ok (.getfield 110, 3) := by decide +kernel
theorem dX19_packOne_294 : decode cX19_packOne 294 = .ok (.iload 7, 2) := by decide +kernel
theorem dX19_packOne_296 : decode cX19_packOne 296 = .ok (.iaload, 1) := by decide +kernel
theorem dX19_packOne_297 : decode cX19_packOne 297 = .ok (.iconst 0, 1) := by decide +kernel
theorem dX19_packOne_298 : decode cX19_packOne 298 = .ok (.invokevirtual 581, 3) := by decide +kernel
theorem dX19_packOne_301 : decode cX19_packOne 301 = .ok (.iload 6, 2) := by decide +kernel
theorem dX19_packOne_303 : decode cX19_packOne 303 = .ok (.if_icmp .eq 6, 3) := by decide +kernel
theorem dX19_packOne_306 : decode cX19_packOne 306 = .ok (.goto 65, 3) := by decide +kernel
theorem dX19_packOne_309 : decode cX19_packOne 309 = .ok (.aload_n 0, 1) := by decide +kernel
theorem dX19_packOne_310 : decode cX19_packOne 310 = .ok (.getfield 159, 3) := by decide +kernel
theorem dX19_packOne_313 : decode cX19_packOne 313 = .ok (.aload_n 0, 1) := by decide +kernel
theorem dX19_packOne_314 : decode cX19_packOne 314 = .ok (.getfield 568, 3) := by decide +kernel
theorem dX19_packOne_317 : decode cX19_packOne 317 = .ok (.aload_n 0, 1) := by decide +kernel
theorem dX19_packOne_318 : decode cX19_packOne 318 = .ok (.getfield 103, 3) := by decide +kernel
theorem dX19_packOne_321 : decode cX19_packOne 321 = .ok (.iload 7, 2) := by decide +kernel
theorem dX19_packOne_323 : decode cX19_packOne 323 = .ok (.iaload, 1) := by decide +kernel
theorem dX19_packOne_324 : decode cX19_packOne 324 = .ok (.iastore, 1) := by decide +kernel
theorem dX19_packOne_325 : decode cX19_packOne 325 = .ok (.aload_n 0, 1) := by decide +kernel
theorem dX19_packOne_326 : decode cX19_packOne 326 = .ok (.getfield 162, 3) := by decide +kernel
theorem dX19_packOne_329 : decode cX19_packOne 329 = .ok (.aload_n 0, 1) := by decide +kernel
theorem dX19_packOne_330 : decode cX19_packOne 330 = .ok (.getfield 568, 3) := by decide +kernel
theorem dX19_packOne_333 : decode cX19_packOne 333 = .ok (.iload 8, 2) := by decide +kernel
theorem dX19_packOne_335 : decode cX19_packOne 335 = .ok (.iastore, 1) := by decide +kernel
theorem dX19_packOne_336 : decode cX19_packOne 336 = .ok (.aload_n 0, 1) := by decide +kernel
theorem dX19_packOne_337 : decode cX19_packOne 337 = .ok (.getfield 113, 3) := by decide +kernel
theorem dX19_packOne_340 : decode cX19_packOne 340 = .ok (.iload 7, 2) := by decide +kernel
theorem dX19_packOne_342 : decode cX19_packOne 342 = .ok (.aload_n 0, 1) := by decide +kernel
theorem dX19_packOne_343 : decode cX19_packOne 343 = .ok (.getfield 568, 3) := by decide +kernel
theorem dX19_packOne_346 : decode cX19_packOne 346 = .ok (.iastore, 1) := by decide +kernel
theorem dX19_packOne_347 : decode cX19_packOne 347 = .ok (.aload_n 0, 1) := by decide +kernel
theorem dX19_packOne_348 : decode cX19_packOne 348 = .ok (.getfield 116, 3) := by decide +kernel
theorem dX19_packOne_351 : decode cX19_packOne 351 = .ok (.iload 7, 2) := by decide +kernel
theorem dX19_packOne_353 : decode cX19_packOne 353 = .ok (.aload_n 0, 1) := by decide +kernel
theorem dX19_packOne_354 : decode cX19_packOne 354 = .ok (.getfield 211, 3) := by decide +kernel
theorem dX19_packOne_357 : decode cX19_packOne 357 = .ok (.iload_n 3, 1) := by decide +kernel
theorem dX19_packOne_358 : decode cX19_packOne 358 = .ok (.aaload, 1) := by decide +kernel
theorem dX19_packOne_359 : decode cX19_packOne 359 = .ok (.aload_n 0, 1) := by decide +kernel
theorem dX19_packOne_360 : decode cX19_packOne 360 = .ok (.getfield 110, 3) := by decide +kernel
theorem dX19_packOne_363 : decode cX19_packOne 363 = .ok (.iload 7, 2) := by decide +kernel
theorem dX19_packOne_365 : decode cX19_packOne 365 = .ok (.iaload, 1) := by decide +kernel
theorem dX19_packOne_366 : decode cX19_packOne 366 = .ok (.iconst 1, 1) := by decide +kernel
theorem dX19_packOne_367 : decode cX19_packOne 367 = .ok (.invokevirtual 581, 3) := by decide +kernel
theorem dX19_packOne_370 : decode cX19_packOne 370 = .ok (.iastore, 1) := by decide +kernel
theorem dX19_packOne_371 : decode cX19_packOne 371 = .ok (.iinc 7 1, 3) := by decide +kernel
theorem dX19_packOne_374 : decode cX19_packOne 374 = .ok (.goto (-142), 3) := by decide +kernel
theorem dX19_packOne_377 : decode cX19_packOne 377 = .ok (.aload_n 0, 1) := by decide +kernel
theorem dX19_packOne_378 : decode cX19_packOne 378 = .ok (.dup, 1) := by decide +kernel
theorem dX19_packOne_379 : decode cX19_packOne 379 = .ok (.getfield 568, 3) := by decide +kernel
theorem dX19_packOne_382 : decode cX19_packOne 382 = .ok (.iconst 1, 1) := by decide +kernel
theorem dX19_packOne_383 : decode cX19_packOne 383 = .ok (.iadd, 1) := by decide +kernel
theorem dX19_packOne_384 : decode cX19_packOne 384 = .ok (.putfield 568, 3) := by decide +kernel
theorem dX19_packOne_387 : decode cX19_packOne 387 = .ok (.iinc 6 1, 3) := by decide +kernel
theorem dX19_packOne_390 : decode cX19_packOne 390 = .ok (.goto (-209), 3) := by decide +kernel
theorem dX19_packOne_393 : decode cX19_packOne 393 = .ok (.iconst 1, 1) := by decide +kernel
theorem dX19_packOne_394 : decode cX19_packOne 394 = .ok (.ireturn, 1) := by decide +kernel
theorem cwX19_packOne : mw_cwV yX19_packOne cX19_packOne 9 ((some .boolean)) 3 := ⟨⟨wd_13, wd_3398, by decide +kernel⟩, wd_3397, sl_194⟩
set_option maxHeartbeats 4000000 in
set_option maxRecDepth 100000 in
theorem tX19_packOne (l : Launch) (G : mwG) (ad : Nat → Nat) (fu : Nat) (a1 : Int32) (a2 : Int32) (a3 : Int32) (M : mwM) (L : mwL) {r0 : Int32} {M0 : mwM} {L0 : mwL} (hD : DX19_packOne fu a1 a2 a3 M L = some (r0, M0, L0)) : Met l yX19_packOne (Cond.code yX19_packOne cX19_packOne 9 ((some .boolean)) :: GT) ({ frames := 7, cells := 0, slots := 0, locals := 179 }) (mw_Pre G ad NF TF FF M L [.ref (ad 732), .int a1, .int a2, .int a3]) (mw_Qi G ad NF TF FF (mw_eqI r0 M0 L0)) 0 0 (mw_fr G) := by
  refine mw_enter (by decide) (Nat.le_of_ble_eq_true rfl) ?_
  intro p e s m below meth c ls C hr hlocks hnm hw hl
  have hl : lv_has ls 9 [(0, .ref (ad 732)), (1, .int a1), (2, .int a2), (3, .int a3)] := hl
  have hh181 : ∀ (f : Nat) (v5 : Int32) (v6 : Int32) (M : mwM) (L : mwL) (H : Heap) (locs : List Loc) (ls : Array Slot), fX19_packOne_h181 fu a1 a2 a3 f (v5, v6, M, L) = some (r0, M0, L0) → mw_W G ad NF TF FF M L H locs → lv_has ls 9 [(0, .ref (ad 732)), (1, .int a1), (2, .int a2), (3, .int a3), (5, .int v5), (6, .int v6)] → W p l e ({ frames := 7, cells := 0, slots := 0, locals := 179 }) s m [.ref (ad 732), .int a1, .int a2, .int a3].toArray below meth c H locs 0 0 (MQ below (mw_Qi G ad NF TF FF (mw_eqI r0 M0 L0)) [.ref (ad 732), .int a1, .int a2, .int a3].toArray s 0 0 (mw_fr G)) (F0 m 181 ls []) := by
    intro f
    induction f with
    | zero => intro v5 v6 M L H locs ls hD; cases hD
    | succ f181 ih181 =>
      intro v5 v6 M L H locs ls hD hw hl
      replace hD : fX19_packOne_i181 fu a1 a2 a3 (fX19_packOne_h181 fu a1 a2 a3 f181) v5 v6 M L = some (r0, M0, L0) := hD
      have hh232 : ∀ (f : Nat) (v5 : Int32) (v6 : Int32) (v7 : Int32) (M : mwM) (L : mwL) (H : Heap) (locs : List Loc) (ls : Array Slot), fX19_packOne_h232 fu a1 a2 a3 (fX19_packOne_h181 fu a1 a2 a3 f181) f (v5, v6, v7, M, L) = some (r0, M0, L0) → mw_W G ad NF TF FF M L H locs → lv_has ls 9 [(0, .ref (ad 732)), (1, .int a1), (2, .int a2), (3, .int a3), (5, .int v5), (6, .int v6), (7, .int v7)] → W p l e ({ frames := 7, cells := 0, slots := 0, locals := 179 }) s m [.ref (ad 732), .int a1, .int a2, .int a3].toArray below meth c H locs 0 0 (MQ below (mw_Qi G ad NF TF FF (mw_eqI r0 M0 L0)) [.ref (ad 732), .int a1, .int a2, .int a3].toArray s 0 0 (mw_fr G)) (F0 m 232 ls []) := by
        intro f
        induction f with
        | zero => intro v5 v6 v7 M L H locs ls hD; cases hD
        | succ f232 ih232 =>
          intro v5 v6 v7 M L H locs ls hD hw hl
          replace hD : fX19_packOne_i232 fu a1 a2 a3 (fX19_packOne_h181 fu a1 a2 a3 f181) (fX19_packOne_h232 fu a1 a2 a3 (fX19_packOne_h181 fu a1 a2 a3 f181) f232) v5 v6 v7 M L = some (r0, M0, L0) := hD
          have hb371 : ∀ (v5 : Int32) (v6 : Int32) (v7 : Int32) (M : mwM) (L : mwL) (H : Heap) (locs : List Loc) (ls : Array Slot), fX19_packOne_b371 fu a1 a2 a3 (fX19_packOne_h181 fu a1 a2 a3 f181) (fX19_packOne_h232 fu a1 a2 a3 (fX19_packOne_h181 fu a1 a2 a3 f181) f232) v5 v6 v7 M L = some (r0, M0, L0) → mw_W G ad NF TF FF M L H locs → lv_has ls 9 [(0, .ref (ad 732)), (1, .int a1), (2, .int a2), (3, .int a3), (5, .int v5), (6, .int v6), (7, .int v7)] → W p l e ({ frames := 7, cells := 0, slots := 0, locals := 179 }) s m [.ref (ad 732), .int a1, .int a2, .int a3].toArray below meth c H locs 0 0 (MQ below (mw_Qi G ad NF TF FF (mw_eqI r0 M0 L0)) [.ref (ad 732), .int a1, .int a2, .int a3].toArray s 0 0 (mw_fr G)) (F0 m 371 ls []) := by
            intro v5 v6 v7 M L H locs ls hD hw hl
            unfold fX19_packOne_b371 at hD
            obtain ⟨x88, ex88, hD⟩ := g_let hD
            refine lv_iinc (v := x88) (lv' := [(7, .int x88), (0, .ref (ad 732)), (1, .int a1), (2, .int a2), (3, .int a3), (5, .int v5), (6, .int v6)]) C.1.1 C.1.2.1 dX19_packOne_371 hl (k := 6) rfl (by rw [ex88]; rfl) (by decide) rfl (fun ls hl => ?_)
            refine lv_goto (tgt := 232) C.1.1 C.1.2.1 dX19_packOne_374 (by decide) ?_
            exact ih232 v5 v6 x88 M L _ _ ls hD hw (lv_sub hl [1, 2, 3, 4, 5, 6, 0] rfl)
          have hb280 : ∀ (v5 : Int32) (v6 : Int32) (v7 : Int32) (v8 : Int32) (s0 : Int32) (M : mwM) (L : mwL) (H : Heap) (locs : List Loc) (ls : Array Slot), fX19_packOne_b280 fu a1 a2 a3 (fX19_packOne_h181 fu a1 a2 a3 f181) (fX19_packOne_h232 fu a1 a2 a3 (fX19_packOne_h181 fu a1 a2 a3 f181) f232) v5 v6 v7 v8 s0 M L = some (r0, M0, L0) → mw_W G ad NF TF FF M L H locs → lv_has ls 9 [(0, .ref (ad 732)), (1, .int a1), (2, .int a2), (3, .int a3), (5, .int v5), (6, .int v6), (7, .int v7), (8, .int v8)] → W p l e ({ frames := 7, cells := 0, slots := 0, locals := 179 }) s m [.ref (ad 732), .int a1, .int a2, .int a3].toArray below meth c H locs 0 0 (MQ below (mw_Qi G ad NF TF FF (mw_eqI r0 M0 L0)) [.ref (ad 732), .int a1, .int a2, .int a3].toArray s 0 0 (mw_fr G)) (F0 m 280 ls [.int s0]) := by
            intro v5 v6 v7 v8 s0 M L H locs ls hD hw hl
            unfold fX19_packOne_b280 at hD
            refine lv_iload_n C.1.1 C.1.2.1 dX19_packOne_280 rfl (lv_at hl 2 rfl) ?_
            refine lv_icmp_ne (tgt := 371) C.1.1 C.1.2.1 dX19_packOne_281 (by decide) (fun c67 => ?_) (fun c67 => ?_)
            · replace hD := g_neg c67 hD
              exact hb371 v5 v6 v7 M L _ _ ls hD hw (lv_sub hl [0, 1, 2, 3, 4, 5, 6] rfl)
            · replace hD := g_pos c67 hD
              refine lv_aload_n C.1.1 C.1.2.1 dX19_packOne_284 rfl (lv_at hl 0 rfl) ?_
              refine mr_getR C hw kc_19 81 (by decide) tf_732 ff_732_81 wd_2862 dX19_packOne_285 (by decide) rfl ?_
              refine lv_iload_n C.1.1 C.1.2.1 dX19_packOne_288 rfl (lv_at hl 3 rfl) ?_
              obtain ⟨q68, hD⟩ := g_ck hD
              refine mr_aald C hw (by decide) tf_921 (by decide) (by decide) rfl rfl q68 (fr_921 _ (g_lt q68)) dX19_packOne_289 ?_
              refine lv_aload_n C.1.1 C.1.2.1 dX19_packOne_290 rfl (lv_at hl 0 rfl) ?_
              refine mr_getR C hw kc_19 52 (by decide) tf_732 ff_732_52 wd_2833 dX19_packOne_291 (by decide) rfl ?_
              refine lv_iload C.1.1 C.1.2.1 dX19_packOne_294 (lv_at hl 6 rfl) ?_
              obtain ⟨q69, hD⟩ := g_ck hD
              refine mr_iald C hw (by decide) tf_766 q69 dX19_packOne_296 ?_
              refine lv_iconst (v := 0) C.1.1 C.1.2.1 dX19_packOne_297 (by decide) ?_
              obtain ⟨r72, M70, L71, h1, hD⟩ := g_b3 hD
              refine md_cvI (As := [.int (M 766 v7.toNatClampNeg), .int 0]) (rest := []) C hw (tX16_place l G ad fu ((941 + 53 * a3.toNatClampNeg)) (M 766 v7.toNatClampNeg) 0 M L h1 (isMp_of (g_lt q68))) kc_16 (Mp_N0 (isMp_of (g_lt q68))) (Mp_T0 (isMp_of (g_lt q68))) wd_3479 cwX16_place ⟨Nat.le_of_ble_eq_true rfl, Nat.le_of_ble_eq_true rfl⟩ rfl hl.1 (Nat.le_of_ble_eq_true rfl) dX19_packOne_298 rfl rfl ⟨Nat.zero_le _, Nat.zero_le _⟩ rfl (fun H locs hw => ?_)
              refine lv_iload C.1.1 C.1.2.1 dX19_packOne_301 (lv_at hl 5 rfl) ?_
              refine lv_icmp_eq (tgt := 309) C.1.1 C.1.2.1 dX19_packOne_303 (by decide) (fun c73 => ?_) (fun c73 => ?_)
              · replace hD := g_pos c73 hD
                refine lv_aload_n C.1.1 C.1.2.1 dX19_packOne_309 rfl (lv_at hl 0 rfl) ?_
                refine mr_getR C hw kc_19 71 (by decide) tf_732 ff_732_71 wd_2852 dX19_packOne_310 (by decide) rfl ?_
                refine lv_aload_n C.1.1 C.1.2.1 dX19_packOne_313 rfl (lv_at hl 0 rfl) ?_
                refine mr_getI C hw kc_19 67 (by decide) tf_732 wd_2848 dX19_packOne_314 (by decide) rfl ?_
                refine lv_aload_n C.1.1 C.1.2.1 dX19_packOne_317 rfl (lv_at hl 0 rfl) ?_
                refine mr_getR C hw kc_19 50 (by decide) tf_732 ff_732_50 wd_2831 dX19_packOne_318 (by decide) rfl ?_
                refine lv_iload C.1.1 C.1.2.1 dX19_packOne_321 (lv_at hl 6 rfl) ?_
                obtain ⟨q74, hD⟩ := g_ck hD
                refine mr_iald C hw (by decide) tf_764 q74 dX19_packOne_323 ?_
                obtain ⟨q75, hD⟩ := g_ck hD
                obtain ⟨M76, eM76, hD⟩ := g_let hD
                refine mr_iast C hw (by decide) tf_782 q75 dX19_packOne_324 (fun H locs hw => ?_)
                replace hw : mw_W G ad NF TF FF M76 L71 H locs := by rw [eM76]; exact hw
                refine lv_aload_n C.1.1 C.1.2.1 dX19_packOne_325 rfl (lv_at hl 0 rfl) ?_
                refine mr_getR C hw kc_19 72 (by decide) tf_732 ff_732_72 wd_2853 dX19_packOne_326 (by decide) rfl ?_
                refine lv_aload_n C.1.1 C.1.2.1 dX19_packOne_329 rfl (lv_at hl 0 rfl) ?_
                refine mr_getI C hw kc_19 67 (by decide) tf_732 wd_2848 dX19_packOne_330 (by decide) rfl ?_
                refine lv_iload C.1.1 C.1.2.1 dX19_packOne_333 (lv_at hl 7 rfl) ?_
                obtain ⟨q77, hD⟩ := g_ck hD
                obtain ⟨M78, eM78, hD⟩ := g_let hD
                refine mr_iast C hw (by decide) tf_783 q77 dX19_packOne_335 (fun H locs hw => ?_)
                replace hw : mw_W G ad NF TF FF M78 L71 H locs := by rw [eM78]; exact hw
                refine lv_aload_n C.1.1 C.1.2.1 dX19_packOne_336 rfl (lv_at hl 0 rfl) ?_
                refine mr_getR C hw kc_19 53 (by decide) tf_732 ff_732_53 wd_2834 dX19_packOne_337 (by decide) rfl ?_
                refine lv_iload C.1.1 C.1.2.1 dX19_packOne_340 (lv_at hl 6 rfl) ?_
                refine lv_aload_n C.1.1 C.1.2.1 dX19_packOne_342 rfl (lv_at hl 0 rfl) ?_
                refine mr_getI C hw kc_19 67 (by decide) tf_732 wd_2848 dX19_packOne_343 (by decide) rfl ?_
                obtain ⟨q79, hD⟩ := g_ck hD
                obtain ⟨M80, eM80, hD⟩ := g_let hD
                refine mr_iast C hw (by decide) tf_767 q79 dX19_packOne_346 (fun H locs hw => ?_)
                replace hw : mw_W G ad NF TF FF M80 L71 H locs := by rw [eM80]; exact hw
                refine lv_aload_n C.1.1 C.1.2.1 dX19_packOne_347 rfl (lv_at hl 0 rfl) ?_
                refine mr_getR C hw kc_19 54 (by decide) tf_732 ff_732_54 wd_2835 dX19_packOne_348 (by decide) rfl ?_
                refine lv_iload C.1.1 C.1.2.1 dX19_packOne_351 (lv_at hl 6 rfl) ?_
                refine lv_aload_n C.1.1 C.1.2.1 dX19_packOne_353 rfl (lv_at hl 0 rfl) ?_
                refine mr_getR C hw kc_19 81 (by decide) tf_732 ff_732_81 wd_2862 dX19_packOne_354 (by decide) rfl ?_
                refine lv_iload_n C.1.1 C.1.2.1 dX19_packOne_357 rfl (lv_at hl 3 rfl) ?_
                obtain ⟨q81, hD⟩ := g_ck hD
                refine mr_aald C hw (by decide) tf_921 (by decide) (by decide) rfl rfl q81 (fr_921 _ (g_lt q81)) dX19_packOne_358 ?_
                refine lv_aload_n C.1.1 C.1.2.1 dX19_packOne_359 rfl (lv_at hl 0 rfl) ?_
                refine mr_getR C hw kc_19 52 (by decide) tf_732 ff_732_52 wd_2833 dX19_packOne_360 (by decide) rfl ?_
                refine lv_iload C.1.1 C.1.2.1 dX19_packOne_363 (lv_at hl 6 rfl) ?_
                obtain ⟨q82, hD⟩ := g_ck hD
                refine mr_iald C hw (by decide) tf_766 q82 dX19_packOne_365 ?_
                refine lv_iconst (v := 1) C.1.1 C.1.2.1 dX19_packOne_366 (by decide) ?_
                obtain ⟨r85, M83, L84, h1, hD⟩ := g_b3 hD
                refine md_cvI (As := [.int (M80 766 v7.toNatClampNeg), .int 1]) (rest := [.int v7, .ref (ad 768)]) C hw (tX16_place l G ad fu ((941 + 53 * a3.toNatClampNeg)) (M80 766 v7.toNatClampNeg) 1 M80 L71 h1 (isMp_of (g_lt q81))) kc_16 (Mp_N0 (isMp_of (g_lt q81))) (Mp_T0 (isMp_of (g_lt q81))) wd_3479 cwX16_place ⟨Nat.le_of_ble_eq_true rfl, Nat.le_of_ble_eq_true rfl⟩ rfl hl.1 (Nat.le_of_ble_eq_true rfl) dX19_packOne_367 rfl rfl ⟨Nat.zero_le _, Nat.zero_le _⟩ rfl (fun H locs hw => ?_)
                obtain ⟨q86, hD⟩ := g_ck hD
                obtain ⟨M87, eM87, hD⟩ := g_let hD
                refine mr_iast C hw (by decide) tf_768 q86 dX19_packOne_370 (fun H locs hw => ?_)
                replace hw : mw_W G ad NF TF FF M87 L84 H locs := by rw [eM87]; exact hw
                exact hb371 v5 v6 v7 M87 L84 _ _ ls hD hw (lv_sub hl [0, 1, 2, 3, 4, 5, 6] rfl)
              · replace hD := g_neg c73 hD
                refine lv_goto (tgt := 371) C.1.1 C.1.2.1 dX19_packOne_306 (by decide) ?_
                exact hb371 v5 v6 v7 M70 L71 _ _ ls hD hw (lv_sub hl [0, 1, 2, 3, 4, 5, 6] rfl)
          unfold fX19_packOne_i232 at hD
          refine lv_iload C.1.1 C.1.2.1 dX19_packOne_232 (lv_at hl 6 rfl) ?_
          refine lv_aload_n C.1.1 C.1.2.1 dX19_packOne_234 rfl (lv_at hl 0 rfl) ?_
          refine mr_getI C hw kc_19 45 (by decide) tf_732 wd_2826 dX19_packOne_235 (by decide) rfl ?_
          refine lv_icmp_ge (tgt := 377) C.1.1 C.1.2.1 dX19_packOne_238 (by decide) (fun c52 => ?_) (fun c52 => ?_)
          · replace hD := g_pos c52 hD
            refine lv_aload_n C.1.1 C.1.2.1 dX19_packOne_377 rfl (lv_at hl 0 rfl) ?_
            refine lv_dup C.1.1 C.1.2.1 dX19_packOne_378 rfl ?_
            refine mr_getI C hw kc_19 67 (by decide) tf_732 wd_2848 dX19_packOne_379 (by decide) rfl ?_
            refine lv_iconst (v := 1) C.1.1 C.1.2.1 dX19_packOne_382 (by decide) ?_
            refine lv_iadd C.1.1 C.1.2.1 dX19_packOne_383 ?_
            obtain ⟨M53, eM53, hD⟩ := g_let hD
            refine mr_putI C hw kc_19 67 (by decide) tf_732 wd_2848 dX19_packOne_384 (by decide) rfl rfl rfl rfl (fun H locs hw => ?_)
            replace hw : mw_W G ad NF TF FF M53 L H locs := by rw [eM53]; exact hw
            obtain ⟨x54, ex54, hD⟩ := g_let hD
            refine lv_iinc (v := x54) (lv' := [(6, .int x54), (0, .ref (ad 732)), (1, .int a1), (2, .int a2), (3, .int a3), (5, .int v5), (7, .int v7)]) C.1.1 C.1.2.1 dX19_packOne_387 hl (k := 5) rfl (by rw [ex54]; rfl) (by decide) rfl (fun ls hl => ?_)
            refine lv_goto (tgt := 181) C.1.1 C.1.2.1 dX19_packOne_390 (by decide) ?_
            exact ih181 v5 x54 M53 L _ _ ls hD hw (lv_sub hl [1, 2, 3, 4, 5, 0] rfl)
          · replace hD := g_neg c52 hD
            refine lv_aload_n C.1.1 C.1.2.1 dX19_packOne_241 rfl (lv_at hl 0 rfl) ?_
            refine lv_aload_n C.1.1 C.1.2.1 dX19_packOne_242 rfl (lv_at hl 0 rfl) ?_
            refine lv_iload C.1.1 C.1.2.1 dX19_packOne_243 (lv_at hl 6 rfl) ?_
            obtain ⟨r57, M55, L56, h1, hD⟩ := g_b3 hD
            refine md_cvI (As := [.int v7]) (rest := [.ref (ad 732)]) C hw (tX19_senderOf l G ad fu v7 M L h1) kc_19 (by decide) tf_732 wd_3362 cwX19_senderOf ⟨Nat.le_of_ble_eq_true rfl, Nat.le_of_ble_eq_true rfl⟩ rfl hl.1 (Nat.le_of_ble_eq_true rfl) dX19_packOne_245 rfl rfl ⟨Nat.zero_le _, Nat.zero_le _⟩ rfl (fun H locs hw => ?_)
            refine lv_aload_n C.1.1 C.1.2.1 dX19_packOne_248 rfl (lv_at hl 0 rfl) ?_
            refine mr_getR C hw kc_19 50 (by decide) tf_732 ff_732_50 wd_2831 dX19_packOne_249 (by decide) rfl ?_
            refine lv_iload C.1.1 C.1.2.1 dX19_packOne_252 (lv_at hl 6 rfl) ?_
            obtain ⟨q58, hD⟩ := g_ck hD
            refine mr_iald C hw (by decide) tf_764 q58 dX19_packOne_254 ?_
            obtain ⟨r61, M59, L60, h1, hD⟩ := g_b3 hD
            refine md_cvI (As := [.int r57, .int (M55 764 v7.toNatClampNeg)]) (rest := []) C hw (tX19_keyOf l G ad fu r57 (M55 764 v7.toNatClampNeg) M55 L56 h1) kc_19 (by decide) tf_732 wd_3353 cwX19_keyOf ⟨Nat.le_of_ble_eq_true rfl, Nat.le_of_ble_eq_true rfl⟩ rfl hl.1 (Nat.le_of_ble_eq_true rfl) dX19_packOne_255 rfl rfl ⟨Nat.zero_le _, Nat.zero_le _⟩ rfl (fun H locs hw => ?_)
            refine lv_istore (lv' := [(8, .int r61), (0, .ref (ad 732)), (1, .int a1), (2, .int a2), (3, .int a3), (5, .int v5), (6, .int v6), (7, .int v7)]) C.1.1 C.1.2.1 dX19_packOne_258 hl (by decide) rfl (fun ls hl => ?_)
            refine lv_aload_n C.1.1 C.1.2.1 dX19_packOne_260 rfl (lv_at hl 1 rfl) ?_
            refine lv_iload C.1.1 C.1.2.1 dX19_packOne_261 (lv_at hl 7 rfl) ?_
            obtain ⟨r64, M62, L63, h1, hD⟩ := g_b3 hD
            refine md_cvI (As := [.int v7]) (rest := []) C hw (tX19_senderOf l G ad fu v7 M59 L60 h1) kc_19 (by decide) tf_732 wd_3362 cwX19_senderOf ⟨Nat.le_of_ble_eq_true rfl, Nat.le_of_ble_eq_true rfl⟩ rfl hl.1 (Nat.le_of_ble_eq_true rfl) dX19_packOne_263 rfl rfl ⟨Nat.zero_le _, Nat.zero_le _⟩ rfl (fun H locs hw => ?_)
            refine lv_iload_n C.1.1 C.1.2.1 dX19_packOne_266 rfl (lv_at hl 2 rfl) ?_
            refine lv_icmp_ne (tgt := 371) C.1.1 C.1.2.1 dX19_packOne_267 (by decide) (fun c65 => ?_) (fun c65 => ?_)
            · replace hD := g_neg c65 hD
              exact hb371 v5 v6 v7 M62 L63 _ _ ls hD hw (lv_sub hl [1, 2, 3, 4, 5, 6, 7] rfl)
            · replace hD := g_pos c65 hD
              refine lv_iload C.1.1 C.1.2.1 dX19_packOne_270 (lv_at hl 0 rfl) ?_
              refine lv_if_le (tgt := 279) C.1.1 C.1.2.1 dX19_packOne_272 (by decide) (fun c66 => ?_) (fun c66 => ?_)
              · replace hD := g_pos c66 hD
                refine lv_iconst (v := 0) C.1.1 C.1.2.1 dX19_packOne_279 (by decide) ?_
                exact hb280 v5 v6 v7 r61 0 M62 L63 _ _ ls hD hw (lv_sub hl [1, 2, 3, 4, 5, 6, 7, 0] rfl)
              · replace hD := g_neg c66 hD
                refine lv_iconst (v := 1) C.1.1 C.1.2.1 dX19_packOne_275 (by decide) ?_
                refine lv_goto (tgt := 280) C.1.1 C.1.2.1 dX19_packOne_276 (by decide) ?_
                exact hb280 v5 v6 v7 r61 1 M62 L63 _ _ ls hD hw (lv_sub hl [1, 2, 3, 4, 5, 6, 7, 0] rfl)
      unfold fX19_packOne_i181 at hD
      refine lv_iload C.1.1 C.1.2.1 dX19_packOne_181 (lv_at hl 5 rfl) ?_
      refine lv_iload C.1.1 C.1.2.1 dX19_packOne_183 (lv_at hl 4 rfl) ?_
      refine lv_icmp_gt (tgt := 393) C.1.1 C.1.2.1 dX19_packOne_185 (by decide) (fun c43 => ?_) (fun c43 => ?_)
      · replace hD := g_pos c43 hD
        refine lv_iconst (v := 1) C.1.1 C.1.2.1 dX19_packOne_393 (by decide) ?_
        exact mr_iret C hr hlocks hw (by decide +kernel) (Option.some.inj hD) dX19_packOne_394
      · replace hD := g_neg c43 hD
        refine lv_aload_n C.1.1 C.1.2.1 dX19_packOne_188 rfl (lv_at hl 0 rfl) ?_
        refine mr_getR C hw kc_19 68 (by decide) tf_732 ff_732_68 wd_2849 dX19_packOne_189 (by decide) rfl ?_
        refine lv_aload_n C.1.1 C.1.2.1 dX19_packOne_192 rfl (lv_at hl 0 rfl) ?_
        refine mr_getI C hw kc_19 67 (by decide) tf_732 wd_2848 dX19_packOne_193 (by decide) rfl ?_
        refine lv_iload_n C.1.1 C.1.2.1 dX19_packOne_196 rfl (lv_at hl 1 rfl) ?_
        obtain ⟨q44, hD⟩ := g_ck hD
        obtain ⟨M45, eM45, hD⟩ := g_let hD
        refine mr_iast C hw (by decide) tf_779 q44 dX19_packOne_197 (fun H locs hw => ?_)
        replace hw : mw_W G ad NF TF FF M45 L H locs := by rw [eM45]; exact hw
        refine lv_aload_n C.1.1 C.1.2.1 dX19_packOne_198 rfl (lv_at hl 0 rfl) ?_
        refine mr_getR C hw kc_19 69 (by decide) tf_732 ff_732_69 wd_2850 dX19_packOne_199 (by decide) rfl ?_
        refine lv_aload_n C.1.1 C.1.2.1 dX19_packOne_202 rfl (lv_at hl 0 rfl) ?_
        refine mr_getI C hw kc_19 67 (by decide) tf_732 wd_2848 dX19_packOne_203 (by decide) rfl ?_
        refine lv_iload_n C.1.1 C.1.2.1 dX19_packOne_206 rfl (lv_at hl 3 rfl) ?_
        obtain ⟨q46, hD⟩ := g_ck hD
        obtain ⟨M47, eM47, hD⟩ := g_let hD
        refine mr_iast C hw (by decide) tf_780 q46 dX19_packOne_207 (fun H locs hw => ?_)
        replace hw : mw_W G ad NF TF FF M47 L H locs := by rw [eM47]; exact hw
        refine lv_aload_n C.1.1 C.1.2.1 dX19_packOne_208 rfl (lv_at hl 0 rfl) ?_
        refine mr_getR C hw kc_19 70 (by decide) tf_732 ff_732_70 wd_2851 dX19_packOne_209 (by decide) rfl ?_
        refine lv_aload_n C.1.1 C.1.2.1 dX19_packOne_212 rfl (lv_at hl 0 rfl) ?_
        refine mr_getI C hw kc_19 67 (by decide) tf_732 wd_2848 dX19_packOne_213 (by decide) rfl ?_
        refine lv_iload C.1.1 C.1.2.1 dX19_packOne_216 (lv_at hl 5 rfl) ?_
        obtain ⟨q48, hD⟩ := g_ck hD
        obtain ⟨M49, eM49, hD⟩ := g_let hD
        refine mr_iast C hw (by decide) tf_781 q48 dX19_packOne_218 (fun H locs hw => ?_)
        replace hw : mw_W G ad NF TF FF M49 L H locs := by rw [eM49]; exact hw
        refine lv_aload_n C.1.1 C.1.2.1 dX19_packOne_219 rfl (lv_at hl 0 rfl) ?_
        refine mr_getR C hw kc_19 74 (by decide) tf_732 ff_732_74 wd_2855 dX19_packOne_220 (by decide) rfl ?_
        refine lv_aload_n C.1.1 C.1.2.1 dX19_packOne_223 rfl (lv_at hl 0 rfl) ?_
        refine mr_getI C hw kc_19 67 (by decide) tf_732 wd_2848 dX19_packOne_224 (by decide) rfl ?_
        refine lv_iconst (v := 0) C.1.1 C.1.2.1 dX19_packOne_227 (by decide) ?_
        obtain ⟨q50, hD⟩ := g_ck hD
        obtain ⟨M51, eM51, hD⟩ := g_let hD
        refine mr_iast C hw (by decide) tf_785 q50 dX19_packOne_228 (fun H locs hw => ?_)
        replace hw : mw_W G ad NF TF FF M51 L H locs := by rw [eM51]; exact hw
        refine lv_iconst (v := 0) C.1.1 C.1.2.1 dX19_packOne_229 (by decide) ?_
        refine lv_istore (lv' := [(7, .int 0), (0, .ref (ad 732)), (1, .int a1), (2, .int a2), (3, .int a3), (5, .int v5), (6, .int v6)]) C.1.1 C.1.2.1 dX19_packOne_230 hl (by decide) rfl (fun ls hl => ?_)
        exact hh232 fu v5 v6 0 M51 L _ _ ls hD hw (lv_sub hl [1, 2, 3, 4, 5, 6, 0] rfl)
  have hb176 : ∀ (s0 : Int32) (M : mwM) (L : mwL) (H : Heap) (locs : List Loc) (ls : Array Slot), fX19_packOne_b176 fu a1 a2 a3 s0 M L = some (r0, M0, L0) → mw_W G ad NF TF FF M L H locs → lv_has ls 9 [(0, .ref (ad 732)), (1, .int a1), (2, .int a2), (3, .int a3)] → W p l e ({ frames := 7, cells := 0, slots := 0, locals := 179 }) s m [.ref (ad 732), .int a1, .int a2, .int a3].toArray below meth c H locs 0 0 (MQ below (mw_Qi G ad NF TF FF (mw_eqI r0 M0 L0)) [.ref (ad 732), .int a1, .int a2, .int a3].toArray s 0 0 (mw_fr G)) (F0 m 176 ls [.int s0]) := by
    intro s0 M L H locs ls hD hw hl
    unfold fX19_packOne_b176 at hD
    refine lv_istore (lv' := [(5, .int s0), (0, .ref (ad 732)), (1, .int a1), (2, .int a2), (3, .int a3)]) C.1.1 C.1.2.1 dX19_packOne_176 hl (by decide) rfl (fun ls hl => ?_)
    refine lv_iconst (v := 1) C.1.1 C.1.2.1 dX19_packOne_178 (by decide) ?_
    refine lv_istore (lv' := [(6, .int 1), (5, .int s0), (0, .ref (ad 732)), (1, .int a1), (2, .int a2), (3, .int a3)]) C.1.1 C.1.2.1 dX19_packOne_179 hl (by decide) rfl (fun ls hl => ?_)
    exact hh181 fu s0 1 M L _ _ ls hD hw (lv_sub hl [2, 3, 4, 5, 1, 0] rfl)
  have hh6 : ∀ (f : Nat) (v4 : Int32) (v5 : Int32) (M : mwM) (L : mwL) (H : Heap) (locs : List Loc) (ls : Array Slot), fX19_packOne_h6 fu a1 a2 a3 f (v4, v5, M, L) = some (r0, M0, L0) → mw_W G ad NF TF FF M L H locs → lv_has ls 9 [(0, .ref (ad 732)), (1, .int a1), (2, .int a2), (3, .int a3), (4, .int v4), (5, .int v5)] → W p l e ({ frames := 7, cells := 0, slots := 0, locals := 179 }) s m [.ref (ad 732), .int a1, .int a2, .int a3].toArray below meth c H locs 0 0 (MQ below (mw_Qi G ad NF TF FF (mw_eqI r0 M0 L0)) [.ref (ad 732), .int a1, .int a2, .int a3].toArray s 0 0 (mw_fr G)) (F0 m 6 ls []) := by
    intro f
    induction f with
    | zero => intro v4 v5 M L H locs ls hD; cases hD
    | succ f6 ih6 =>
      intro v4 v5 M L H locs ls hD hw hl
      replace hD : fX19_packOne_i6 fu a1 a2 a3 (fX19_packOne_h6 fu a1 a2 a3 f6) v4 v5 M L = some (r0, M0, L0) := hD
      have hb149 : ∀ (v4 : Int32) (v5 : Int32) (M : mwM) (L : mwL) (H : Heap) (locs : List Loc) (ls : Array Slot), fX19_packOne_b149 fu a1 a2 a3 (fX19_packOne_h6 fu a1 a2 a3 f6) v4 v5 M L = some (r0, M0, L0) → mw_W G ad NF TF FF M L H locs → lv_has ls 9 [(0, .ref (ad 732)), (1, .int a1), (2, .int a2), (3, .int a3), (4, .int v4), (5, .int v5)] → W p l e ({ frames := 7, cells := 0, slots := 0, locals := 179 }) s m [.ref (ad 732), .int a1, .int a2, .int a3].toArray below meth c H locs 0 0 (MQ below (mw_Qi G ad NF TF FF (mw_eqI r0 M0 L0)) [.ref (ad 732), .int a1, .int a2, .int a3].toArray s 0 0 (mw_fr G)) (F0 m 149 ls []) := by
        intro v4 v5 M L H locs ls hD hw hl
        unfold fX19_packOne_b149 at hD
        obtain ⟨x42, ex42, hD⟩ := g_let hD
        refine lv_iinc (v := x42) (lv' := [(5, .int x42), (0, .ref (ad 732)), (1, .int a1), (2, .int a2), (3, .int a3), (4, .int v4)]) C.1.1 C.1.2.1 dX19_packOne_149 hl (k := 5) rfl (by rw [ex42]; rfl) (by decide) rfl (fun ls hl => ?_)
        refine lv_goto (tgt := 6) C.1.1 C.1.2.1 dX19_packOne_152 (by decide) ?_
        exact ih6 v4 x42 M L _ _ ls hD hw (lv_sub hl [1, 2, 3, 4, 5, 0] rfl)
      have hb85 : ∀ (v5 : Int32) (M : mwM) (L : mwL) (H : Heap) (locs : List Loc) (ls : Array Slot), fX19_packOne_b85 fu a1 a2 a3 (fX19_packOne_h6 fu a1 a2 a3 f6) v5 M L = some (r0, M0, L0) → mw_W G ad NF TF FF M L H locs → lv_has ls 9 [(0, .ref (ad 732)), (1, .int a1), (2, .int a2), (3, .int a3), (5, .int v5)] → W p l e ({ frames := 7, cells := 0, slots := 0, locals := 179 }) s m [.ref (ad 732), .int a1, .int a2, .int a3].toArray below meth c H locs 0 0 (MQ below (mw_Qi G ad NF TF FF (mw_eqI r0 M0 L0)) [.ref (ad 732), .int a1, .int a2, .int a3].toArray s 0 0 (mw_fr G)) (F0 m 85 ls []) := by
        intro v5 M L H locs ls hD hw hl
        unfold fX19_packOne_b85 at hD
        refine lv_iconst (v := 1) C.1.1 C.1.2.1 dX19_packOne_85 (by decide) ?_
        refine lv_istore (lv' := [(4, .int 1), (0, .ref (ad 732)), (1, .int a1), (2, .int a2), (3, .int a3), (5, .int v5)]) C.1.1 C.1.2.1 dX19_packOne_86 hl (by decide) rfl (fun ls hl => ?_)
        refine lv_aload_n C.1.1 C.1.2.1 dX19_packOne_88 rfl (lv_at hl 1 rfl) ?_
        refine mr_getR C hw kc_19 52 (by decide) tf_732 ff_732_52 wd_2833 dX19_packOne_89 (by decide) rfl ?_
        refine lv_iload C.1.1 C.1.2.1 dX19_packOne_92 (lv_at hl 5 rfl) ?_
        refine lv_aload_n C.1.1 C.1.2.1 dX19_packOne_94 rfl (lv_at hl 1 rfl) ?_
        refine mr_getR C hw kc_19 81 (by decide) tf_732 ff_732_81 wd_2862 dX19_packOne_95 (by decide) rfl ?_
        refine lv_iload_n C.1.1 C.1.2.1 dX19_packOne_98 rfl (lv_at hl 4 rfl) ?_
        obtain ⟨q26, hD⟩ := g_ck hD
        refine mr_aald C hw (by decide) tf_921 (by decide) (by decide) rfl rfl q26 (fr_921 _ (g_lt q26)) dX19_packOne_99 ?_
        refine lv_aload_n C.1.1 C.1.2.1 dX19_packOne_100 rfl (lv_at hl 1 rfl) ?_
        refine mr_getR C hw kc_19 47 (by decide) tf_732 ff_732_47 wd_2828 dX19_packOne_101 (by decide) rfl ?_
        refine lv_iload C.1.1 C.1.2.1 dX19_packOne_104 (lv_at hl 5 rfl) ?_
        obtain ⟨q27, hD⟩ := g_ck hD
        refine mr_iald C hw (by decide) tf_761 q27 dX19_packOne_106 ?_
        refine lv_aload_n C.1.1 C.1.2.1 dX19_packOne_107 rfl (lv_at hl 1 rfl) ?_
        refine mr_getR C hw kc_19 50 (by decide) tf_732 ff_732_50 wd_2831 dX19_packOne_108 (by decide) rfl ?_
        refine lv_iload C.1.1 C.1.2.1 dX19_packOne_111 (lv_at hl 5 rfl) ?_
        obtain ⟨q28, hD⟩ := g_ck hD
        refine mr_iald C hw (by decide) tf_764 q28 dX19_packOne_113 ?_
        refine lv_aload_n C.1.1 C.1.2.1 dX19_packOne_114 rfl (lv_at hl 1 rfl) ?_
        refine mr_getR C hw kc_19 51 (by decide) tf_732 ff_732_51 wd_2832 dX19_packOne_115 (by decide) rfl ?_
        refine lv_iload C.1.1 C.1.2.1 dX19_packOne_118 (lv_at hl 5 rfl) ?_
        obtain ⟨q29, hD⟩ := g_ck hD
        refine mr_zald C hw (by decide) tf_765 q29 dX19_packOne_120 ?_
        obtain ⟨r32, M30, L31, h1, hD⟩ := g_b3 hD
        refine md_cvI (As := [.int (M 761 v5.toNatClampNeg), .int (M 764 v5.toNatClampNeg), .int (M 765 v5.toNatClampNeg)]) (rest := [.int v5, .ref (ad 766)]) C hw (tX16_signal l G ad fu ((941 + 53 * a3.toNatClampNeg)) (M 761 v5.toNatClampNeg) (M 764 v5.toNatClampNeg) (M 765 v5.toNatClampNeg) M L h1 (isMp_of (g_lt q26))) kc_16 (Mp_N0 (isMp_of (g_lt q26))) (Mp_T0 (isMp_of (g_lt q26))) wd_3403 cwX16_signal ⟨Nat.le_of_ble_eq_true rfl, Nat.le_of_ble_eq_true rfl⟩ rfl hl.1 (Nat.le_of_ble_eq_true rfl) dX19_packOne_121 rfl rfl ⟨Nat.zero_le _, Nat.zero_le _⟩ rfl (fun H locs hw => ?_)
        obtain ⟨q33, hD⟩ := g_ck hD
        obtain ⟨M34, eM34, hD⟩ := g_let hD
        refine mr_iast C hw (by decide) tf_766 q33 dX19_packOne_124 (fun H locs hw => ?_)
        replace hw : mw_W G ad NF TF FF M34 L31 H locs := by rw [eM34]; exact hw
        refine lv_aload_n C.1.1 C.1.2.1 dX19_packOne_125 rfl (lv_at hl 1 rfl) ?_
        refine mr_getR C hw kc_19 52 (by decide) tf_732 ff_732_52 wd_2833 dX19_packOne_126 (by decide) rfl ?_
        refine lv_iload C.1.1 C.1.2.1 dX19_packOne_129 (lv_at hl 5 rfl) ?_
        obtain ⟨q35, hD⟩ := g_ck hD
        refine mr_iald C hw (by decide) tf_766 q35 dX19_packOne_131 ?_
        refine lv_if_ne (tgt := 149) C.1.1 C.1.2.1 dX19_packOne_132 (by decide) (fun c36 => ?_) (fun c36 => ?_)
        · replace hD := g_neg c36 hD
          exact hb149 1 v5 M34 L31 _ _ ls hD hw (lv_sub hl [1, 2, 3, 4, 0, 5] rfl)
        · replace hD := g_pos c36 hD
          refine lv_aload_n C.1.1 C.1.2.1 dX19_packOne_135 rfl (lv_at hl 1 rfl) ?_
          refine lv_bipush (v := 8) C.1.1 C.1.2.1 dX19_packOne_136 (by decide) ?_
          refine lv_aload_n C.1.1 C.1.2.1 dX19_packOne_138 rfl (lv_at hl 1 rfl) ?_
          refine mr_getR C hw kc_19 46 (by decide) tf_732 ff_732_46 wd_2827 dX19_packOne_139 (by decide) rfl ?_
          refine lv_iload C.1.1 C.1.2.1 dX19_packOne_142 (lv_at hl 5 rfl) ?_
          obtain ⟨q37, hD⟩ := g_ck hD
          refine mr_iald C hw (by decide) tf_760 q37 dX19_packOne_144 ?_
          obtain ⟨r40, M38, L39, h1, hD⟩ := g_b3 hD
          refine md_cvI (As := [.int 8, .int (M34 760 v5.toNatClampNeg)]) (rest := []) C hw (tX19_fail l G ad fu 8 (M34 760 v5.toNatClampNeg) M34 L31 h1) kc_19 (by decide) tf_732 wd_3172 cwX19_fail ⟨Nat.le_of_ble_eq_true rfl, Nat.le_of_ble_eq_true rfl⟩ rfl hl.1 (Nat.le_of_ble_eq_true rfl) dX19_packOne_145 rfl rfl ⟨Nat.zero_le _, Nat.zero_le _⟩ rfl (fun H locs hw => ?_)
          obtain ⟨z41, hD⟩ := g_zz hD
          exact mr_iret C hr hlocks hw (nz_zz z41) (Option.some.inj hD) dX19_packOne_148
      have hb82 : ∀ (v5 : Int32) (s0 : Nat) (s1 : Int32) (M : mwM) (L : mwL) (H : Heap) (locs : List Loc) (ls : Array Slot), fX19_packOne_b82 fu a1 a2 a3 (fX19_packOne_h6 fu a1 a2 a3 f6) v5 s0 s1 M L = some (r0, M0, L0) → isMp s0 → mw_W G ad NF TF FF M L H locs → lv_has ls 9 [(0, .ref (ad 732)), (1, .int a1), (2, .int a2), (3, .int a3), (5, .int v5)] → W p l e ({ frames := 7, cells := 0, slots := 0, locals := 179 }) s m [.ref (ad 732), .int a1, .int a2, .int a3].toArray below meth c H locs 0 0 (MQ below (mw_Qi G ad NF TF FF (mw_eqI r0 M0 L0)) [.ref (ad 732), .int a1, .int a2, .int a3].toArray s 0 0 (mw_fr G)) (F0 m 82 ls [.int s1, .ref (ad s0)]) := by
        intro v5 s0 s1 M L H locs ls hD hs0 hw hl
        unfold fX19_packOne_b82 at hD
        obtain ⟨M24, L25, h1, hD⟩ := g_b2 hD
        refine md_cvV (As := [.int s1]) (rest := []) C hw (tX16_anew l G ad fu s0 s1 M L h1 hs0) kc_16 (Mp_N0 hs0) (Mp_T0 hs0) wd_3399 cwX16_anew ⟨Nat.le_of_ble_eq_true rfl, Nat.le_of_ble_eq_true rfl⟩ rfl hl.1 (Nat.le_of_ble_eq_true rfl) dX19_packOne_82 rfl rfl ⟨Nat.zero_le _, Nat.zero_le _⟩ rfl (fun H locs hw => ?_)
        exact hb85 v5 M24 L25 _ _ ls hD hw (lv_sub hl [0, 1, 2, 3, 4] rfl)
      have hb54 : ∀ (v4 : Int32) (v5 : Int32) (s0 : Int32) (M : mwM) (L : mwL) (H : Heap) (locs : List Loc) (ls : Array Slot), fX19_packOne_b54 fu a1 a2 a3 (fX19_packOne_h6 fu a1 a2 a3 f6) v4 v5 s0 M L = some (r0, M0, L0) → mw_W G ad NF TF FF M L H locs → lv_has ls 9 [(0, .ref (ad 732)), (1, .int a1), (2, .int a2), (3, .int a3), (4, .int v4), (5, .int v5)] → W p l e ({ frames := 7, cells := 0, slots := 0, locals := 179 }) s m [.ref (ad 732), .int a1, .int a2, .int a3].toArray below meth c H locs 0 0 (MQ below (mw_Qi G ad NF TF FF (mw_eqI r0 M0 L0)) [.ref (ad 732), .int a1, .int a2, .int a3].toArray s 0 0 (mw_fr G)) (F0 m 54 ls [.int s0]) := by
        intro v4 v5 s0 M L H locs ls hD hw hl
        unfold fX19_packOne_b54 at hD
        refine lv_iload_n C.1.1 C.1.2.1 dX19_packOne_54 rfl (lv_at hl 2 rfl) ?_
        refine lv_icmp_eq (tgt := 61) C.1.1 C.1.2.1 dX19_packOne_55 (by decide) (fun c20 => ?_) (fun c20 => ?_)
        · replace hD := g_pos c20 hD
          refine lv_iload C.1.1 C.1.2.1 dX19_packOne_61 (lv_at hl 4 rfl) ?_
          refine lv_if_ne (tgt := 85) C.1.1 C.1.2.1 dX19_packOne_63 (by decide) (fun c21 => ?_) (fun c21 => ?_)
          · replace hD := g_neg c21 hD
            exact hb85 v5 M L _ _ ls hD hw (lv_sub hl [0, 1, 2, 3, 5] rfl)
          · replace hD := g_pos c21 hD
            refine lv_aload_n C.1.1 C.1.2.1 dX19_packOne_66 rfl (lv_at hl 0 rfl) ?_
            refine mr_getR C hw kc_19 81 (by decide) tf_732 ff_732_81 wd_2862 dX19_packOne_67 (by decide) rfl ?_
            refine lv_iload_n C.1.1 C.1.2.1 dX19_packOne_70 rfl (lv_at hl 3 rfl) ?_
            obtain ⟨q22, hD⟩ := g_ck hD
            refine mr_aald C hw (by decide) tf_921 (by decide) (by decide) rfl rfl q22 (fr_921 _ (g_lt q22)) dX19_packOne_71 ?_
            refine lv_iload_n C.1.1 C.1.2.1 dX19_packOne_72 rfl (lv_at hl 2 rfl) ?_
            refine lv_if_eq (tgt := 80) C.1.1 C.1.2.1 dX19_packOne_73 (by decide) (fun c23 => ?_) (fun c23 => ?_)
            · replace hD := g_pos c23 hD
              refine lv_bipush (v := 8) C.1.1 C.1.2.1 dX19_packOne_80 (by decide) ?_
              exact hb82 v5 (((941 + 53 * a3.toNatClampNeg) + 0)) 8 M L _ _ ls hD (isMp_of (g_lt q22)) hw (lv_sub hl [0, 1, 2, 3, 5] rfl)
            · replace hD := g_neg c23 hD
              refine lv_iconst (v := 3) C.1.1 C.1.2.1 dX19_packOne_76 (by decide) ?_
              refine lv_goto (tgt := 82) C.1.1 C.1.2.1 dX19_packOne_77 (by decide) ?_
              exact hb82 v5 (((941 + 53 * a3.toNatClampNeg) + 0)) 3 M L _ _ ls hD (isMp_of (g_lt q22)) hw (lv_sub hl [0, 1, 2, 3, 5] rfl)
        · replace hD := g_neg c20 hD
          refine lv_goto (tgt := 149) C.1.1 C.1.2.1 dX19_packOne_58 (by decide) ?_
          exact hb149 v4 v5 M L _ _ ls hD hw (lv_sub hl [0, 1, 2, 3, 4, 5] rfl)
      unfold fX19_packOne_i6 at hD
      refine lv_iload C.1.1 C.1.2.1 dX19_packOne_6 (lv_at hl 5 rfl) ?_
      refine lv_aload_n C.1.1 C.1.2.1 dX19_packOne_8 rfl (lv_at hl 0 rfl) ?_
      refine mr_getI C hw kc_19 45 (by decide) tf_732 wd_2826 dX19_packOne_9 (by decide) rfl ?_
      refine lv_icmp_ge (tgt := 155) C.1.1 C.1.2.1 dX19_packOne_12 (by decide) (fun c1 => ?_) (fun c1 => ?_)
      · replace hD := g_pos c1 hD
        refine lv_iload C.1.1 C.1.2.1 dX19_packOne_155 (lv_at hl 4 rfl) ?_
        refine lv_if_eq (tgt := 175) C.1.1 C.1.2.1 dX19_packOne_157 (by decide) (fun c2 => ?_) (fun c2 => ?_)
        · replace hD := g_pos c2 hD
          refine lv_iconst (v := 0) C.1.1 C.1.2.1 dX19_packOne_175 (by decide) ?_
          exact hb176 0 M L _ _ ls hD hw (lv_sub hl [0, 1, 2, 3] rfl)
        · replace hD := g_neg c2 hD
          refine lv_aload_n C.1.1 C.1.2.1 dX19_packOne_160 rfl (lv_at hl 0 rfl) ?_
          refine mr_getR C hw kc_19 81 (by decide) tf_732 ff_732_81 wd_2862 dX19_packOne_161 (by decide) rfl ?_
          refine lv_iload_n C.1.1 C.1.2.1 dX19_packOne_164 rfl (lv_at hl 3 rfl) ?_
          obtain ⟨q3, hD⟩ := g_ck hD
          refine mr_aald C hw (by decide) tf_921 (by decide) (by decide) rfl rfl q3 (fr_921 _ (g_lt q3)) dX19_packOne_165 ?_
          refine lv_ldc2 (v := 5040) C.1.1 C.1.2.1 C.1.2.2.2.1 (C.1.2.2.2.2 _ wd_3408) dX19_packOne_166 ?_
          obtain ⟨r7, M4, L5, h1, hD⟩ := g_b3 hD
          refine md_cvI (As := [.long 5040]) (rest := []) C hw (tX16_pack l G ad fu ((941 + 53 * a3.toNatClampNeg)) 5040 M L h1 (isMp_of (g_lt q3))) kc_16 (Mp_N0 (isMp_of (g_lt q3))) (Mp_T0 (isMp_of (g_lt q3))) wd_3409 cwX16_pack ⟨Nat.le_of_ble_eq_true rfl, Nat.le_of_ble_eq_true rfl⟩ rfl hl.1 (Nat.le_of_ble_eq_true rfl) dX19_packOne_169 rfl rfl ⟨Nat.zero_le _, Nat.zero_le _⟩ rfl (fun H locs hw => ?_)
          refine lv_goto (tgt := 176) C.1.1 C.1.2.1 dX19_packOne_172 (by decide) ?_
          exact hb176 r7 M4 L5 _ _ ls hD hw (lv_sub hl [0, 1, 2, 3] rfl)
      · replace hD := g_neg c1 hD
        refine lv_aload_n C.1.1 C.1.2.1 dX19_packOne_15 rfl (lv_at hl 0 rfl) ?_
        refine lv_aload_n C.1.1 C.1.2.1 dX19_packOne_16 rfl (lv_at hl 0 rfl) ?_
        refine lv_iload C.1.1 C.1.2.1 dX19_packOne_17 (lv_at hl 5 rfl) ?_
        obtain ⟨r10, M8, L9, h1, hD⟩ := g_b3 hD
        refine md_cvI (As := [.int v5]) (rest := [.ref (ad 732)]) C hw (tX19_senderOf l G ad fu v5 M L h1) kc_19 (by decide) tf_732 wd_3362 cwX19_senderOf ⟨Nat.le_of_ble_eq_true rfl, Nat.le_of_ble_eq_true rfl⟩ rfl hl.1 (Nat.le_of_ble_eq_true rfl) dX19_packOne_19 rfl rfl ⟨Nat.zero_le _, Nat.zero_le _⟩ rfl (fun H locs hw => ?_)
        refine lv_aload_n C.1.1 C.1.2.1 dX19_packOne_22 rfl (lv_at hl 0 rfl) ?_
        refine mr_getR C hw kc_19 50 (by decide) tf_732 ff_732_50 wd_2831 dX19_packOne_23 (by decide) rfl ?_
        refine lv_iload C.1.1 C.1.2.1 dX19_packOne_26 (lv_at hl 5 rfl) ?_
        obtain ⟨q11, hD⟩ := g_ck hD
        refine mr_iald C hw (by decide) tf_764 q11 dX19_packOne_28 ?_
        obtain ⟨r14, M12, L13, h1, hD⟩ := g_b3 hD
        refine md_cvI (As := [.int r10, .int (M8 764 v5.toNatClampNeg)]) (rest := []) C hw (tX19_keyOf l G ad fu r10 (M8 764 v5.toNatClampNeg) M8 L9 h1) kc_19 (by decide) tf_732 wd_3353 cwX19_keyOf ⟨Nat.le_of_ble_eq_true rfl, Nat.le_of_ble_eq_true rfl⟩ rfl hl.1 (Nat.le_of_ble_eq_true rfl) dX19_packOne_29 rfl rfl ⟨Nat.zero_le _, Nat.zero_le _⟩ rfl (fun H locs hw => ?_)
        refine lv_istore (lv' := [(6, .int r14), (0, .ref (ad 732)), (1, .int a1), (2, .int a2), (3, .int a3), (4, .int v4), (5, .int v5)]) C.1.1 C.1.2.1 dX19_packOne_32 hl (by decide) rfl (fun ls hl => ?_)
        refine lv_aload_n C.1.1 C.1.2.1 dX19_packOne_34 rfl (lv_at hl 1 rfl) ?_
        refine lv_iload C.1.1 C.1.2.1 dX19_packOne_35 (lv_at hl 6 rfl) ?_
        obtain ⟨r17, M15, L16, h1, hD⟩ := g_b3 hD
        refine md_cvI (As := [.int v5]) (rest := []) C hw (tX19_senderOf l G ad fu v5 M12 L13 h1) kc_19 (by decide) tf_732 wd_3362 cwX19_senderOf ⟨Nat.le_of_ble_eq_true rfl, Nat.le_of_ble_eq_true rfl⟩ rfl hl.1 (Nat.le_of_ble_eq_true rfl) dX19_packOne_37 rfl rfl ⟨Nat.zero_le _, Nat.zero_le _⟩ rfl (fun H locs hw => ?_)
        refine lv_iload_n C.1.1 C.1.2.1 dX19_packOne_40 rfl (lv_at hl 2 rfl) ?_
        refine lv_icmp_ne (tgt := 149) C.1.1 C.1.2.1 dX19_packOne_41 (by decide) (fun c18 => ?_) (fun c18 => ?_)
        · replace hD := g_neg c18 hD
          exact hb149 v4 v5 M15 L16 _ _ ls hD hw (lv_sub hl [1, 2, 3, 4, 5, 6] rfl)
        · replace hD := g_pos c18 hD
          refine lv_iload C.1.1 C.1.2.1 dX19_packOne_44 (lv_at hl 0 rfl) ?_
          refine lv_if_le (tgt := 53) C.1.1 C.1.2.1 dX19_packOne_46 (by decide) (fun c19 => ?_) (fun c19 => ?_)
          · replace hD := g_pos c19 hD
            refine lv_iconst (v := 0) C.1.1 C.1.2.1 dX19_packOne_53 (by decide) ?_
            exact hb54 v4 v5 0 M15 L16 _ _ ls hD hw (lv_sub hl [1, 2, 3, 4, 5, 6] rfl)
          · replace hD := g_neg c19 hD
            refine lv_iconst (v := 1) C.1.1 C.1.2.1 dX19_packOne_49 (by decide) ?_
            refine lv_goto (tgt := 54) C.1.1 C.1.2.1 dX19_packOne_50 (by decide) ?_
            exact hb54 v4 v5 1 M15 L16 _ _ ls hD hw (lv_sub hl [1, 2, 3, 4, 5, 6] rfl)
  unfold DX19_packOne at hD
  refine lv_iconst (v := 0) C.1.1 C.1.2.1 dX19_packOne_0 (by decide) ?_
  refine lv_istore (lv' := [(4, .int 0), (0, .ref (ad 732)), (1, .int a1), (2, .int a2), (3, .int a3)]) C.1.1 C.1.2.1 dX19_packOne_1 hl (by decide) rfl (fun ls hl => ?_)
  refine lv_iconst (v := 0) C.1.1 C.1.2.1 dX19_packOne_3 (by decide) ?_
  refine lv_istore (lv' := [(5, .int 0), (4, .int 0), (0, .ref (ad 732)), (1, .int a1), (2, .int a2), (3, .int a3)]) C.1.1 C.1.2.1 dX19_packOne_4 hl (by decide) rfl (fun ls hl => ?_)
  exact hh6 fu 0 0 M L _ _ ls hD hw (lv_sub hl [2, 3, 4, 5, 1, 0] rfl)

theorem dX19_join_0 : decode cX19_join 0 = .ok (.iconst 0, 1) := by decide +kernel
theorem dX19_join_1 : decode cX19_join 1 = .ok (.istore_n 1, 1) := by decide +kernel
theorem dX19_join_2 : decode cX19_join 2 = .ok (.iload_n 1, 1) := by decide +kernel
theorem dX19_join_3 : decode cX19_join 3 = .ok (.iconst 2, 1) := by decide +kernel
theorem dX19_join_4 : decode cX19_join 4 = .ok (.aload_n 0, 1) := by decide +kernel
theorem dX19_join_5 : decode cX19_join 5 = .ok (.getfield 435, 3) := by decide +kernel
theorem dX19_join_8 : decode cX19_join 8 = .ok (.imul, 1) := by decide +kernel
theorem dX19_join_9 : decode cX19_join 9 = .ok (.if_icmp .ge 34, 3) := by decide +kernel
theorem dX19_join_12 : decode cX19_join 12 = .ok (.aload_n 0, 1) := by decide +kernel
theorem dX19_join_13 : decode cX19_join 13 = .ok (.iload_n 1, 1) := by decide +kernel
theorem dX19_join_14 : decode cX19_join 14 = .ok (.iconst 2, 1) := by decide +kernel
theorem dX19_join_15 : decode cX19_join 15 = .ok (.idiv, 1) := by decide +kernel
theorem dX19_join_16 : decode cX19_join 16 = .ok (.iload_n 1, 1) := by decide +kernel
theorem dX19_join_17 : decode cX19_join 17 = .ok (.iconst 2, 1) := by decide +kernel
theorem dX19_join_18 : decode cX19_join 18 = .ok (.irem, 1) := by decide +kernel
theorem dX19_join_19 : decode cX19_join 19 = .ok (.iconst 1, 1) := by decide +kernel
theorem dX19_join_20 : decode cX19_join 20 = .ok (.if_icmp .ne 7, 3) := by decide +kernel
theorem dX19_join_23 : decode cX19_join 23 = .ok (.iconst 1, 1) := by decide +kernel
theorem dX19_join_24 : decode cX19_join 24 = .ok (.goto 4, 3) := by decide +kernel
theorem dX19_join_27 : decode cX19_join 27 = .ok (.iconst 0, 1) := by decide +kernel
theorem dX19_join_28 : decode cX19_join 28 = .ok (.iload_n 1, 1) := by decide +kernel
theorem dX19_join_29 : decode cX19_join 29 = .ok (.invokevirtual 564, 3) := by decide +kernel
theorem dX19_join_32 : decode cX19_join 32 = .ok (.ifCond .ne 5, 3) := by decide +kernel
theorem dX19_join_35 : decode cX19_join 35 = .ok (.iconst 0, 1) := by decide +kernel
theorem dX19_join_36 : decode cX19_join 36 = .ok (.ireturn, 1) := by decide +kernel
theorem dX19_join_37 : decode cX19_join 37 = .ok (.iinc 1 1, 3) := by decide +kernel
theorem dX19_join_40 : decode cX19_join 40 = .ok (.goto (-38), 3) := by decide +kernel
theorem dX19_join_43 : decode cX19_join 43 = .ok (.iconst 0, 1) := by decide +kernel
theorem dX19_join_44 : decode cX19_join 44 = .ok (.istore_n 1, 1) := by decide +kernel
theorem dX19_join_45 : decode cX19_join 45 = .ok (.iload_n 1, 1) := by decide +kernel
theorem dX19_join_46 : decode cX19_join 46 = .ok (.aload_n 0, 1) := by decide +kernel
theorem dX19_join_47 : decode cX19_join 47 = .ok (.getfield 568, 3) := by decide +kernel
theorem dX19_join_50 : decode cX19_join 50 = .ok (.if_icmp .ge 100, 3) := by decide +kernel
theorem dX19_join_53 : decode cX19_join 53 = .ok (.aload_n 0, 1) := by decide +kernel
theorem dX19_join_54 : decode cX19_join 54 = .ok (.getfield 165, 3) := by decide +kernel
theorem dX19_join_57 : decode cX19_join 57 = .ok (.iload_n 1, 1) := by decide +kernel
theorem dX19_join_58 : decode cX19_join 58 = .ok (.iconst 0, 1) := by decide +kernel
theorem dX19_join_59 : decode cX19_join 59 = .ok (.iastore, 1) := by decide +kernel
theorem dX19_join_60 : decode cX19_join 60 = .ok (.iconst 0, 1) := by decide +kernel
theorem dX19_join_61 : decode cX19_join 61 = .ok (.istore_n 2, 1) := by decide +kernel
theorem dX19_join_62 : decode cX19_join 62 = .ok (.iload_n 2, 1) := by decide +kernel
theorem dX19_join_63 : decode cX19_join 63 = .ok (.aload_n 0, 1) := by decide +kernel
theorem dX19_join_64 : decode cX19_join 64 = .ok (.getfield 568, 3) := by decide +kernel
theorem dX19_join_67 : decode cX19_join 67 = .ok (.if_icmp .ge 77, 3) := by decide +kernel
theorem dX19_join_70 : decode cX19_join 70 = .ok (.aload_n 0, 1) := by decide +kernel
theorem dX19_join_71 : decode cX19_join 71 = .ok (.getfield 159, 3) := by decide +kernel
theorem dX19_join_74 : decode cX19_join 74 = .ok (.iload_n 2, 1) := by decide +kernel
theorem dX19_join_75 : decode cX19_join 75 = .ok (.iaload, 1) := by decide +kernel
theorem dX19_join_76 : decode cX19_join 76 = .ok (.aload_n 0, 1) := by decide +kernel
theorem dX19_join_77 : decode cX19_join 77 = .ok (.getfield 159, 3) := by decide +kernel
theorem dX19_join_80 : decode cX19_join 80 = .ok (.iload_n 1, 1) := by decide +kernel
theorem dX19_join_81 : decode cX19_join 81 = .ok (.iaload, 1) := by decide +kernel
theorem dX19_join_82 : decode cX19_join 82 = .ok (.if_icmp .lt 23, 3) := by decide +kernel
theorem dX19_join_85 : decode cX19_join 85 = .ok (.aload_n 0, 1) := by decide +kernel
theorem dX19_join_86 : decode cX19_join 86 = .ok (.getfield 159, 3) := by decide +kernel
theorem dX19_join_89 : decode cX19_join 89 = .ok (.iload_n 2, 1) := by decide +kernel
theorem dX19_join_90 : decode cX19_join 90 = .ok (.iaload, 1) := by decide +kernel
theorem dX19_join_91 : decode cX19_join 91 = .ok (.aload_n 0, 1) := by decide +kernel
theorem dX19_join_92 : decode cX19_join 92 = .ok (.getfield 159, 3) := by decide +kernel
theorem dX19_join_95 : decode cX19_join 95 = .ok (.iload_n 1, 1) := by decide +kernel
theorem dX19_join_96 : decode cX19_join 96 = .ok (.iaload, 1) := by decide +kernel
theorem dX19_join_97 : decode cX19_join 97 = .ok (.if_icmp .ne 12, 3) := by decide +kernel
theorem dX19_join_100 : decode cX19_join 100 = .ok (.iload_n 2, 1) := by decide +kernel
theorem dX19_join_101 : decode cX19_join 101 = .ok (.iload_n 1, 1) := by decide +kernel
theorem dX19_join_102 : decode cX19_join 102 = .ok (.if_icmp .ge 7, 3) := by decide +kernel
theorem dX19_join_105 : decode cX19_join 105 = .ok (.iconst 1, 1) := by decide +kernel
theorem dX19_join_106 : decode cX19_join 106 = .ok (.goto 4, 3) := by decide +kernel
theorem dX19_join_109 : decode cX19_join 109 = .ok (.iconst 0, 1) := by decide +kernel
theorem dX19_join_110 : decode cX19_join 110 = .ok (.istore_n 3, 1) := by decide +kernel
theorem dX19_join_111 : decode cX19_join 111 = .ok (.aload_n 0, 1) := by decide +kernel
theorem dX19_join_112 : decode cX19_join 112 = .ok (.getfield 165, 3) := by decide +kernel
theorem dX19_join_115 : decode cX19_join 115 = .ok (.iload_n 1, 1) := by decide +kernel
theorem dX19_join_116 : decode cX19_join 116 = .ok (.iload_n 3, 1) := by decide +kernel
theorem dX19_join_117 : decode cX19_join 117 = .ok (.ifCond .eq 14, 3) := by decide +kernel
theorem dX19_join_120 : decode cX19_join 120 = .ok (.aload_n 0, 1) := by decide +kernel
theorem dX19_join_121 : decode cX19_join 121 = .ok (.getfield 165, 3) := by decide +kernel
theorem dX19_join_124 : decode cX19_join 124 = .ok (.iload_n 1, 1) := by decide +kernel
theorem dX19_join_125 : decode cX19_join 125 = .ok (.iaload, 1) := by decide +kernel
theorem dX19_join_126 : decode cX19_join 126 = .ok (.iconst 1, 1) := by decide +kernel
theorem dX19_join_127 : decode cX19_join 127 = .ok (.iadd, 1) := by decide +kernel
theorem dX19_join_128 : decode cX19_join 128 = .ok (.goto 9, 3) := by decide +kernel
theorem dX19_join_131 : decode cX19_join 131 = .ok (.aload_n 0, 1) := by decide +kernel
theorem dX19_join_132 : decode cX19_join 132 = .ok (.getfield 165, 3) := by decide +kernel
theorem dX19_join_135 : decode cX19_join 135 = .ok (.iload_n 1, 1) := by decide +kernel
theorem dX19_join_136 : decode cX19_join 136 = .ok (.iaload, 1) := by decide +kernel
theorem dX19_join_137 : decode cX19_join 137 = .ok (.iastore, 1) := by decide +kernel
theorem dX19_join_138 : decode cX19_join 138 = .ok (.iinc 2 1, 3) := by decide +kernel
theorem dX19_join_141 : decode cX19_join 141 = .ok (.goto (-79), 3) := by decide +kernel
theorem dX19_join_144 : decode cX19_join 144 = .ok (.iinc 1 1, 3) := by decide +kernel
theorem dX19_join_147 : decode cX19_join 147 = .ok (.goto (-102), 3) := by decide +kernel
theorem dX19_join_150 : decode cX19_join 150 = .ok (.iconst 1, 1) := by decide +kernel
theorem dX19_join_151 : decode cX19_join 151 = .ok (.ireturn, 1) := by decide +kernel
theorem cwX19_join : mw_cwV yX19_join cX19_join 4 ((some .boolean)) 0 := ⟨⟨wd_13, wd_3394, by decide +kernel⟩, wd_3393, sl_193⟩
set_option maxHeartbeats 4000000 in
set_option maxRecDepth 100000 in
theorem tX19_join (l : Launch) (G : mwG) (ad : Nat → Nat) (fu : Nat) (M : mwM) (L : mwL) {r0 : Int32} {M0 : mwM} {L0 : mwL} (hD : DX19_join fu M L = some (r0, M0, L0)) : Met l yX19_join (Cond.code yX19_join cX19_join 4 ((some .boolean)) :: GT) ({ frames := 8, cells := 0, slots := 0, locals := 207 }) (mw_Pre G ad NF TF FF M L [.ref (ad 732)]) (mw_Qi G ad NF TF FF (mw_eqI r0 M0 L0)) 0 0 (mw_fr G) := by
  refine mw_enter (by decide) (Nat.le_of_ble_eq_true rfl) ?_
  intro p e s m below meth c ls C hr hlocks hnm hw hl
  have hl : lv_has ls 4 [(0, .ref (ad 732))] := hl
  have hh45 : ∀ (f : Nat) (v1 : Int32) (M : mwM) (L : mwL) (H : Heap) (locs : List Loc) (ls : Array Slot), fX19_join_h45 fu f (v1, M, L) = some (r0, M0, L0) → mw_W G ad NF TF FF M L H locs → lv_has ls 4 [(0, .ref (ad 732)), (1, .int v1)] → W p l e ({ frames := 8, cells := 0, slots := 0, locals := 207 }) s m [.ref (ad 732)].toArray below meth c H locs 0 0 (MQ below (mw_Qi G ad NF TF FF (mw_eqI r0 M0 L0)) [.ref (ad 732)].toArray s 0 0 (mw_fr G)) (F0 m 45 ls []) := by
    intro f
    induction f with
    | zero => intro v1 M L H locs ls hD; cases hD
    | succ f45 ih45 =>
      intro v1 M L H locs ls hD hw hl
      replace hD : fX19_join_i45 fu (fX19_join_h45 fu f45) v1 M L = some (r0, M0, L0) := hD
      have hh62 : ∀ (f : Nat) (v1 : Int32) (v2 : Int32) (M : mwM) (L : mwL) (H : Heap) (locs : List Loc) (ls : Array Slot), fX19_join_h62 fu (fX19_join_h45 fu f45) f (v1, v2, M, L) = some (r0, M0, L0) → mw_W G ad NF TF FF M L H locs → lv_has ls 4 [(0, .ref (ad 732)), (1, .int v1), (2, .int v2)] → W p l e ({ frames := 8, cells := 0, slots := 0, locals := 207 }) s m [.ref (ad 732)].toArray below meth c H locs 0 0 (MQ below (mw_Qi G ad NF TF FF (mw_eqI r0 M0 L0)) [.ref (ad 732)].toArray s 0 0 (mw_fr G)) (F0 m 62 ls []) := by
        intro f
        induction f with
        | zero => intro v1 v2 M L H locs ls hD; cases hD
        | succ f62 ih62 =>
          intro v1 v2 M L H locs ls hD hw hl
          replace hD : fX19_join_i62 fu (fX19_join_h45 fu f45) (fX19_join_h62 fu (fX19_join_h45 fu f45) f62) v1 v2 M L = some (r0, M0, L0) := hD
          have hb137 : ∀ (v1 : Int32) (v2 : Int32) (s1 : Int32) (s2 : Int32) (M : mwM) (L : mwL) (H : Heap) (locs : List Loc) (ls : Array Slot), fX19_join_b137 fu (fX19_join_h45 fu f45) (fX19_join_h62 fu (fX19_join_h45 fu f45) f62) v1 v2 s1 s2 M L = some (r0, M0, L0) → mw_W G ad NF TF FF M L H locs → lv_has ls 4 [(0, .ref (ad 732)), (1, .int v1), (2, .int v2)] → W p l e ({ frames := 8, cells := 0, slots := 0, locals := 207 }) s m [.ref (ad 732)].toArray below meth c H locs 0 0 (MQ below (mw_Qi G ad NF TF FF (mw_eqI r0 M0 L0)) [.ref (ad 732)].toArray s 0 0 (mw_fr G)) (F0 m 137 ls [.int s2, .int s1, .ref (ad 784)]) := by
            intro v1 v2 s1 s2 M L H locs ls hD hw hl
            unfold fX19_join_b137 at hD
            obtain ⟨q25, hD⟩ := g_ck hD
            obtain ⟨M26, eM26, hD⟩ := g_let hD
            refine mr_iast C hw (by decide) tf_784 q25 dX19_join_137 (fun H locs hw => ?_)
            replace hw : mw_W G ad NF TF FF M26 L H locs := by rw [eM26]; exact hw
            obtain ⟨x27, ex27, hD⟩ := g_let hD
            refine lv_iinc (v := x27) (lv' := [(2, .int x27), (0, .ref (ad 732)), (1, .int v1)]) C.1.1 C.1.2.1 dX19_join_138 hl (k := 2) rfl (by rw [ex27]; rfl) (by decide) rfl (fun ls hl => ?_)
            refine lv_goto (tgt := 62) C.1.1 C.1.2.1 dX19_join_141 (by decide) ?_
            exact ih62 v1 x27 M26 L _ _ ls hD hw (lv_sub hl [1, 2, 0] rfl)
          have hb110 : ∀ (v1 : Int32) (v2 : Int32) (s0 : Int32) (M : mwM) (L : mwL) (H : Heap) (locs : List Loc) (ls : Array Slot), fX19_join_b110 fu (fX19_join_h45 fu f45) (fX19_join_h62 fu (fX19_join_h45 fu f45) f62) v1 v2 s0 M L = some (r0, M0, L0) → mw_W G ad NF TF FF M L H locs → lv_has ls 4 [(0, .ref (ad 732)), (1, .int v1), (2, .int v2)] → W p l e ({ frames := 8, cells := 0, slots := 0, locals := 207 }) s m [.ref (ad 732)].toArray below meth c H locs 0 0 (MQ below (mw_Qi G ad NF TF FF (mw_eqI r0 M0 L0)) [.ref (ad 732)].toArray s 0 0 (mw_fr G)) (F0 m 110 ls [.int s0]) := by
            intro v1 v2 s0 M L H locs ls hD hw hl
            unfold fX19_join_b110 at hD
            refine lv_istore_n (lv' := [(3, .int s0), (0, .ref (ad 732)), (1, .int v1), (2, .int v2)]) C.1.1 C.1.2.1 dX19_join_110 rfl hl (by decide) rfl (fun ls hl => ?_)
            refine lv_aload_n C.1.1 C.1.2.1 dX19_join_111 rfl (lv_at hl 1 rfl) ?_
            refine mr_getR C hw kc_19 73 (by decide) tf_732 ff_732_73 wd_2854 dX19_join_112 (by decide) rfl ?_
            refine lv_iload_n C.1.1 C.1.2.1 dX19_join_115 rfl (lv_at hl 2 rfl) ?_
            refine lv_iload_n C.1.1 C.1.2.1 dX19_join_116 rfl (lv_at hl 0 rfl) ?_
            refine lv_if_eq (tgt := 131) C.1.1 C.1.2.1 dX19_join_117 (by decide) (fun c22 => ?_) (fun c22 => ?_)
            · replace hD := g_pos c22 hD
              refine lv_aload_n C.1.1 C.1.2.1 dX19_join_131 rfl (lv_at hl 1 rfl) ?_
              refine mr_getR C hw kc_19 73 (by decide) tf_732 ff_732_73 wd_2854 dX19_join_132 (by decide) rfl ?_
              refine lv_iload_n C.1.1 C.1.2.1 dX19_join_135 rfl (lv_at hl 2 rfl) ?_
              obtain ⟨q23, hD⟩ := g_ck hD
              refine mr_iald C hw (by decide) tf_784 q23 dX19_join_136 ?_
              exact hb137 v1 v2 v1 (M 784 v1.toNatClampNeg) M L _ _ ls hD hw (lv_sub hl [1, 2, 3] rfl)
            · replace hD := g_neg c22 hD
              refine lv_aload_n C.1.1 C.1.2.1 dX19_join_120 rfl (lv_at hl 1 rfl) ?_
              refine mr_getR C hw kc_19 73 (by decide) tf_732 ff_732_73 wd_2854 dX19_join_121 (by decide) rfl ?_
              refine lv_iload_n C.1.1 C.1.2.1 dX19_join_124 rfl (lv_at hl 2 rfl) ?_
              obtain ⟨q24, hD⟩ := g_ck hD
              refine mr_iald C hw (by decide) tf_784 q24 dX19_join_125 ?_
              refine lv_iconst (v := 1) C.1.1 C.1.2.1 dX19_join_126 (by decide) ?_
              refine lv_iadd C.1.1 C.1.2.1 dX19_join_127 ?_
              refine lv_goto (tgt := 137) C.1.1 C.1.2.1 dX19_join_128 (by decide) ?_
              exact hb137 v1 v2 v1 ((M 784 v1.toNatClampNeg) + 1) M L _ _ ls hD hw (lv_sub hl [1, 2, 3] rfl)
          have hb105 : ∀ (v1 : Int32) (v2 : Int32) (M : mwM) (L : mwL) (H : Heap) (locs : List Loc) (ls : Array Slot), fX19_join_b105 fu (fX19_join_h45 fu f45) (fX19_join_h62 fu (fX19_join_h45 fu f45) f62) v1 v2 M L = some (r0, M0, L0) → mw_W G ad NF TF FF M L H locs → lv_has ls 4 [(0, .ref (ad 732)), (1, .int v1), (2, .int v2)] → W p l e ({ frames := 8, cells := 0, slots := 0, locals := 207 }) s m [.ref (ad 732)].toArray below meth c H locs 0 0 (MQ below (mw_Qi G ad NF TF FF (mw_eqI r0 M0 L0)) [.ref (ad 732)].toArray s 0 0 (mw_fr G)) (F0 m 105 ls []) := by
            intro v1 v2 M L H locs ls hD hw hl
            unfold fX19_join_b105 at hD
            refine lv_iconst (v := 1) C.1.1 C.1.2.1 dX19_join_105 (by decide) ?_
            refine lv_goto (tgt := 110) C.1.1 C.1.2.1 dX19_join_106 (by decide) ?_
            exact hb110 v1 v2 1 M L _ _ ls hD hw (lv_sub hl [0, 1, 2] rfl)
          have hb109 : ∀ (v1 : Int32) (v2 : Int32) (M : mwM) (L : mwL) (H : Heap) (locs : List Loc) (ls : Array Slot), fX19_join_b109 fu (fX19_join_h45 fu f45) (fX19_join_h62 fu (fX19_join_h45 fu f45) f62) v1 v2 M L = some (r0, M0, L0) → mw_W G ad NF TF FF M L H locs → lv_has ls 4 [(0, .ref (ad 732)), (1, .int v1), (2, .int v2)] → W p l e ({ frames := 8, cells := 0, slots := 0, locals := 207 }) s m [.ref (ad 732)].toArray below meth c H locs 0 0 (MQ below (mw_Qi G ad NF TF FF (mw_eqI r0 M0 L0)) [.ref (ad 732)].toArray s 0 0 (mw_fr G)) (F0 m 109 ls []) := by
            intro v1 v2 M L H locs ls hD hw hl
            unfold fX19_join_b109 at hD
            refine lv_iconst (v := 0) C.1.1 C.1.2.1 dX19_join_109 (by decide) ?_
            exact hb110 v1 v2 0 M L _ _ ls hD hw (lv_sub hl [0, 1, 2] rfl)
          unfold fX19_join_i62 at hD
          refine lv_iload_n C.1.1 C.1.2.1 dX19_join_62 rfl (lv_at hl 2 rfl) ?_
          refine lv_aload_n C.1.1 C.1.2.1 dX19_join_63 rfl (lv_at hl 0 rfl) ?_
          refine mr_getI C hw kc_19 67 (by decide) tf_732 wd_2848 dX19_join_64 (by decide) rfl ?_
          refine lv_icmp_ge (tgt := 144) C.1.1 C.1.2.1 dX19_join_67 (by decide) (fun c13 => ?_) (fun c13 => ?_)
          · replace hD := g_pos c13 hD
            obtain ⟨x14, ex14, hD⟩ := g_let hD
            refine lv_iinc (v := x14) (lv' := [(1, .int x14), (0, .ref (ad 732)), (2, .int v2)]) C.1.1 C.1.2.1 dX19_join_144 hl (k := 1) rfl (by rw [ex14]; rfl) (by decide) rfl (fun ls hl => ?_)
            refine lv_goto (tgt := 45) C.1.1 C.1.2.1 dX19_join_147 (by decide) ?_
            exact ih45 x14 M L _ _ ls hD hw (lv_sub hl [1, 0] rfl)
          · replace hD := g_neg c13 hD
            refine lv_aload_n C.1.1 C.1.2.1 dX19_join_70 rfl (lv_at hl 0 rfl) ?_
            refine mr_getR C hw kc_19 71 (by decide) tf_732 ff_732_71 wd_2852 dX19_join_71 (by decide) rfl ?_
            refine lv_iload_n C.1.1 C.1.2.1 dX19_join_74 rfl (lv_at hl 2 rfl) ?_
            obtain ⟨q15, hD⟩ := g_ck hD
            refine mr_iald C hw (by decide) tf_782 q15 dX19_join_75 ?_
            refine lv_aload_n C.1.1 C.1.2.1 dX19_join_76 rfl (lv_at hl 0 rfl) ?_
            refine mr_getR C hw kc_19 71 (by decide) tf_732 ff_732_71 wd_2852 dX19_join_77 (by decide) rfl ?_
            refine lv_iload_n C.1.1 C.1.2.1 dX19_join_80 rfl (lv_at hl 1 rfl) ?_
            obtain ⟨q16, hD⟩ := g_ck hD
            refine mr_iald C hw (by decide) tf_782 q16 dX19_join_81 ?_
            refine lv_icmp_lt (tgt := 105) C.1.1 C.1.2.1 dX19_join_82 (by decide) (fun c17 => ?_) (fun c17 => ?_)
            · replace hD := g_pos c17 hD
              exact hb105 v1 v2 M L _ _ ls hD hw (lv_sub hl [0, 1, 2] rfl)
            · replace hD := g_neg c17 hD
              refine lv_aload_n C.1.1 C.1.2.1 dX19_join_85 rfl (lv_at hl 0 rfl) ?_
              refine mr_getR C hw kc_19 71 (by decide) tf_732 ff_732_71 wd_2852 dX19_join_86 (by decide) rfl ?_
              refine lv_iload_n C.1.1 C.1.2.1 dX19_join_89 rfl (lv_at hl 2 rfl) ?_
              obtain ⟨q18, hD⟩ := g_ck hD
              refine mr_iald C hw (by decide) tf_782 q18 dX19_join_90 ?_
              refine lv_aload_n C.1.1 C.1.2.1 dX19_join_91 rfl (lv_at hl 0 rfl) ?_
              refine mr_getR C hw kc_19 71 (by decide) tf_732 ff_732_71 wd_2852 dX19_join_92 (by decide) rfl ?_
              refine lv_iload_n C.1.1 C.1.2.1 dX19_join_95 rfl (lv_at hl 1 rfl) ?_
              obtain ⟨q19, hD⟩ := g_ck hD
              refine mr_iald C hw (by decide) tf_782 q19 dX19_join_96 ?_
              refine lv_icmp_ne (tgt := 109) C.1.1 C.1.2.1 dX19_join_97 (by decide) (fun c20 => ?_) (fun c20 => ?_)
              · replace hD := g_neg c20 hD
                exact hb109 v1 v2 M L _ _ ls hD hw (lv_sub hl [0, 1, 2] rfl)
              · replace hD := g_pos c20 hD
                refine lv_iload_n C.1.1 C.1.2.1 dX19_join_100 rfl (lv_at hl 2 rfl) ?_
                refine lv_iload_n C.1.1 C.1.2.1 dX19_join_101 rfl (lv_at hl 1 rfl) ?_
                refine lv_icmp_ge (tgt := 109) C.1.1 C.1.2.1 dX19_join_102 (by decide) (fun c21 => ?_) (fun c21 => ?_)
                · replace hD := g_pos c21 hD
                  exact hb109 v1 v2 M L _ _ ls hD hw (lv_sub hl [0, 1, 2] rfl)
                · replace hD := g_neg c21 hD
                  exact hb105 v1 v2 M L _ _ ls hD hw (lv_sub hl [0, 1, 2] rfl)
      unfold fX19_join_i45 at hD
      refine lv_iload_n C.1.1 C.1.2.1 dX19_join_45 rfl (lv_at hl 1 rfl) ?_
      refine lv_aload_n C.1.1 C.1.2.1 dX19_join_46 rfl (lv_at hl 0 rfl) ?_
      refine mr_getI C hw kc_19 67 (by decide) tf_732 wd_2848 dX19_join_47 (by decide) rfl ?_
      refine lv_icmp_ge (tgt := 150) C.1.1 C.1.2.1 dX19_join_50 (by decide) (fun c10 => ?_) (fun c10 => ?_)
      · replace hD := g_pos c10 hD
        refine lv_iconst (v := 1) C.1.1 C.1.2.1 dX19_join_150 (by decide) ?_
        exact mr_iret C hr hlocks hw (by decide +kernel) (Option.some.inj hD) dX19_join_151
      · replace hD := g_neg c10 hD
        refine lv_aload_n C.1.1 C.1.2.1 dX19_join_53 rfl (lv_at hl 0 rfl) ?_
        refine mr_getR C hw kc_19 73 (by decide) tf_732 ff_732_73 wd_2854 dX19_join_54 (by decide) rfl ?_
        refine lv_iload_n C.1.1 C.1.2.1 dX19_join_57 rfl (lv_at hl 1 rfl) ?_
        refine lv_iconst (v := 0) C.1.1 C.1.2.1 dX19_join_58 (by decide) ?_
        obtain ⟨q11, hD⟩ := g_ck hD
        obtain ⟨M12, eM12, hD⟩ := g_let hD
        refine mr_iast C hw (by decide) tf_784 q11 dX19_join_59 (fun H locs hw => ?_)
        replace hw : mw_W G ad NF TF FF M12 L H locs := by rw [eM12]; exact hw
        refine lv_iconst (v := 0) C.1.1 C.1.2.1 dX19_join_60 (by decide) ?_
        refine lv_istore_n (lv' := [(2, .int 0), (0, .ref (ad 732)), (1, .int v1)]) C.1.1 C.1.2.1 dX19_join_61 rfl hl (by decide) rfl (fun ls hl => ?_)
        exact hh62 fu v1 0 M12 L _ _ ls hD hw (lv_sub hl [1, 2, 0] rfl)
  have hh2 : ∀ (f : Nat) (v1 : Int32) (M : mwM) (L : mwL) (H : Heap) (locs : List Loc) (ls : Array Slot), fX19_join_h2 fu f (v1, M, L) = some (r0, M0, L0) → mw_W G ad NF TF FF M L H locs → lv_has ls 4 [(0, .ref (ad 732)), (1, .int v1)] → W p l e ({ frames := 8, cells := 0, slots := 0, locals := 207 }) s m [.ref (ad 732)].toArray below meth c H locs 0 0 (MQ below (mw_Qi G ad NF TF FF (mw_eqI r0 M0 L0)) [.ref (ad 732)].toArray s 0 0 (mw_fr G)) (F0 m 2 ls []) := by
    intro f
    induction f with
    | zero => intro v1 M L H locs ls hD; cases hD
    | succ f2 ih2 =>
      intro v1 M L H locs ls hD hw hl
      replace hD : fX19_join_i2 fu (fX19_join_h2 fu f2) v1 M L = some (r0, M0, L0) := hD
      have hb28 : ∀ (v1 : Int32) (s1 : Int32) (s2 : Int32) (M : mwM) (L : mwL) (H : Heap) (locs : List Loc) (ls : Array Slot), fX19_join_b28 fu (fX19_join_h2 fu f2) v1 s1 s2 M L = some (r0, M0, L0) → mw_W G ad NF TF FF M L H locs → lv_has ls 4 [(0, .ref (ad 732)), (1, .int v1)] → W p l e ({ frames := 8, cells := 0, slots := 0, locals := 207 }) s m [.ref (ad 732)].toArray below meth c H locs 0 0 (MQ below (mw_Qi G ad NF TF FF (mw_eqI r0 M0 L0)) [.ref (ad 732)].toArray s 0 0 (mw_fr G)) (F0 m 28 ls [.int s2, .int s1, .ref (ad 732)]) := by
        intro v1 s1 s2 M L H locs ls hD hw hl
        unfold fX19_join_b28 at hD
        refine lv_iload_n C.1.1 C.1.2.1 dX19_join_28 rfl (lv_at hl 1 rfl) ?_
        obtain ⟨r7, M5, L6, h1, hD⟩ := g_b3 hD
        refine md_cvI (As := [.int s1, .int s2, .int v1]) (rest := []) C hw (tX19_packOne l G ad fu s1 s2 v1 M L h1) kc_19 (by decide) tf_732 wd_3395 cwX19_packOne ⟨Nat.le_of_ble_eq_true rfl, Nat.le_of_ble_eq_true rfl⟩ rfl hl.1 (Nat.le_of_ble_eq_true rfl) dX19_join_29 rfl rfl ⟨Nat.zero_le _, Nat.zero_le _⟩ rfl (fun H locs hw => ?_)
        refine lv_if_ne (tgt := 37) C.1.1 C.1.2.1 dX19_join_32 (by decide) (fun c8 => ?_) (fun c8 => ?_)
        · replace hD := g_neg c8 hD
          obtain ⟨x9, ex9, hD⟩ := g_let hD
          refine lv_iinc (v := x9) (lv' := [(1, .int x9), (0, .ref (ad 732))]) C.1.1 C.1.2.1 dX19_join_37 hl (k := 1) rfl (by rw [ex9]; rfl) (by decide) rfl (fun ls hl => ?_)
          refine lv_goto (tgt := 2) C.1.1 C.1.2.1 dX19_join_40 (by decide) ?_
          exact ih2 x9 M5 L6 _ _ ls hD hw (lv_sub hl [1, 0] rfl)
        · replace hD := g_pos c8 hD
          refine lv_iconst (v := 0) C.1.1 C.1.2.1 dX19_join_35 (by decide) ?_
          exact mr_iret C hr hlocks hw (by decide +kernel) (Option.some.inj hD) dX19_join_36
      unfold fX19_join_i2 at hD
      refine lv_iload_n C.1.1 C.1.2.1 dX19_join_2 rfl (lv_at hl 1 rfl) ?_
      refine lv_iconst (v := 2) C.1.1 C.1.2.1 dX19_join_3 (by decide) ?_
      refine lv_aload_n C.1.1 C.1.2.1 dX19_join_4 rfl (lv_at hl 0 rfl) ?_
      refine mr_getI C hw kc_19 19 (by decide) tf_732 wd_2800 dX19_join_5 (by decide) rfl ?_
      refine lv_imul C.1.1 C.1.2.1 dX19_join_8 ?_
      refine lv_icmp_ge (tgt := 43) C.1.1 C.1.2.1 dX19_join_9 (by decide) (fun c1 => ?_) (fun c1 => ?_)
      · replace hD := g_pos c1 hD
        refine lv_iconst (v := 0) C.1.1 C.1.2.1 dX19_join_43 (by decide) ?_
        refine lv_istore_n (lv' := [(1, .int 0), (0, .ref (ad 732))]) C.1.1 C.1.2.1 dX19_join_44 rfl hl (by decide) rfl (fun ls hl => ?_)
        exact hh45 fu 0 M L _ _ ls hD hw (lv_sub hl [1, 0] rfl)
      · replace hD := g_neg c1 hD
        refine lv_aload_n C.1.1 C.1.2.1 dX19_join_12 rfl (lv_at hl 0 rfl) ?_
        refine lv_iload_n C.1.1 C.1.2.1 dX19_join_13 rfl (lv_at hl 1 rfl) ?_
        refine lv_iconst (v := 2) C.1.1 C.1.2.1 dX19_join_14 (by decide) ?_
        refine lv_idiv C.1.1 C.1.2.1 dX19_join_15 (by decide) ?_
        refine lv_iload_n C.1.1 C.1.2.1 dX19_join_16 rfl (lv_at hl 1 rfl) ?_
        refine lv_iconst (v := 2) C.1.1 C.1.2.1 dX19_join_17 (by decide) ?_
        refine lv_irem C.1.1 C.1.2.1 dX19_join_18 (by decide) ?_
        refine lv_iconst (v := 1) C.1.1 C.1.2.1 dX19_join_19 (by decide) ?_
        refine lv_icmp_ne (tgt := 27) C.1.1 C.1.2.1 dX19_join_20 (by decide) (fun c4 => ?_) (fun c4 => ?_)
        · replace hD := g_neg c4 hD
          refine lv_iconst (v := 0) C.1.1 C.1.2.1 dX19_join_27 (by decide) ?_
          exact hb28 v1 (v1 / 2) 0 M L _ _ ls hD hw (lv_sub hl [0, 1] rfl)
        · replace hD := g_pos c4 hD
          refine lv_iconst (v := 1) C.1.1 C.1.2.1 dX19_join_23 (by decide) ?_
          refine lv_goto (tgt := 28) C.1.1 C.1.2.1 dX19_join_24 (by decide) ?_
          exact hb28 v1 (v1 / 2) 1 M L _ _ ls hD hw (lv_sub hl [0, 1] rfl)
  unfold DX19_join at hD
  refine lv_iconst (v := 0) C.1.1 C.1.2.1 dX19_join_0 (by decide) ?_
  refine lv_istore_n (lv' := [(1, .int 0), (0, .ref (ad 732))]) C.1.1 C.1.2.1 dX19_join_1 rfl hl (by decide) rfl (fun ls hl => ?_)
  exact hh2 fu 0 M L _ _ ls hD hw (lv_sub hl [1, 0] rfl)

theorem dX19_build_0 : decode cX19_build 0 = .ok (.aload_n 0, 1) := by decide +kernel
theorem dX19_build_1 : decode cX19_build 1 = .ok (.getfield 177, 3) := by decide +kernel
theorem dX19_build_4 : decode cX19_build 4 = .ok (.aload_n 0, 1) := by decide +kernel
theorem dX19_build_5 : decode cX19_build 5 = .ok (.getfield 435, 3) := by decide +kernel
theorem dX19_build_8 : decode cX19_build 8 = .ok (.invokevirtual 584, 3) := by decide +kernel
theorem dX19_build_11 : decode cX19_build 11 = .ok (.aload_n 0, 1) := by decide +kernel
theorem dX19_build_12 : decode cX19_build 12 = .ok (.getfield 184, 3) := by decide +kernel
theorem dX19_build_15 : decode cX19_build 15 = .ok (.aload_n 0, 1) := by decide +kernel
theorem dX19_build_16 : decode cX19_build 16 = .ok (.getfield 435, 3) := by decide +kernel
theorem dX19_build_19 : decode cX19_build 19 = .ok (.iconst 1, 1) := by decide +kernel
theorem dX19_build_20 : decode cX19_build 20 = .ok (.iadd, 1) := by decide +kernel
theorem dX19_build_21 : decode cX19_build 21 = .ok (.invokevirtual 585, 3) := by decide +kernel
theorem dX19_build_24 : decode cX19_build 24 = .ok (.aload_n 0, 1) := by decide +kernel
theorem dX19_build_25 : decode cX19_build 25 = .ok (.getfield 198, 3) := by decide +kernel
theorem dX19_build_28 : decode cX19_build 28 = .ok (.sipush 4095, 3) := by decide +kernel
theorem dX19_build_31 : decode cX19_build 31 = .ok (.invokevirtual 588, 3) := by decide +kernel
theorem dX19_build_34 : decode cX19_build 34 = .ok (.iconst 0, 1) := by decide +kernel
theorem dX19_build_35 : decode cX19_build 35 = .ok (.istore_n 1, 1) := by decide +kernel
theorem dX19_build_36 : decode cX19_build 36 = .ok (.iload_n 1, 1) := by decide +kernel
theorem dX19_build_37 : decode cX19_build 37 = .ok (.aload_n 0, 1) := by decide +kernel
theorem dX19_build_38 : decode cX19_build 38 = .ok (.getfield 448, 3) := by decide +kernel
theorem dX19_build_41 : decode cX19_build 41 = .ok (.if_icmp .ge 105, 3) := by decide +kernel
theorem dX19_build_44 : decode cX19_build 44 = .ok (.aload_n 0, 1) := by decide +kernel
theorem dX19_build_45 : decode cX19_build 45 = .ok (.getfield 177, 3) := by decide +kernel
theorem dX19_build_48 : decode cX19_build 48 = .ok (.aload_n 0, 1) := by decide +kernel
theorem dX19_build_49 : decode cX19_build 49 = .ok (.getfield 40, 3) := by decide +kernel
theorem dX19_build_52 : decode cX19_build 52 = .ok (.iload_n 1, 1) := by decide +kernel
theorem dX19_build_53 : decode cX19_build 53 = .ok (.iaload, 1) := by decide +kernel
theorem dX19_build_54 : decode cX19_build 54 = .ok (.aload_n 0, 1) := by decide +kernel
theorem dX19_build_55 : decode cX19_build 55 = .ok (.getfield 37, 3) := by decide +kernel
theorem dX19_build_58 : decode cX19_build 58 = .ok (.iload_n 1, 1) := by decide +kernel
theorem dX19_build_59 : decode cX19_build 59 = .ok (.iaload, 1) := by decide +kernel
theorem dX19_build_60 : decode cX19_build 60 = .ok (.iconst 2, 1) := by decide +kernel
theorem dX19_build_61 : decode cX19_build 61 = .ok (.iconst 0, 1) := by decide +kernel
theorem dX19_build_62 : decode cX19_build 62 = .ok (.invokevirtual 589, 3) := by decide +kernel
theorem dX19_build_65 : decode cX19_build 65 = .ok (.istore_n 2, 1) := by decide +kernel
theorem dX19_build_66 : decode cX19_build 66 = .ok (.aload_n 0, 1) := by decide +kernel
theorem dX19_build_67 : decode cX19_build 67 = .ok (.getfield 177, 3) := by decide +kernel
theorem dX19_build_70 : decode cX19_build 70 = .ok (.iload_n 2, 1) := by decide +kernel
theorem dX19_build_71 : decode cX19_build 71 = .ok (.iconst 0, 1) := by decide +kernel
theorem dX19_build_72 : decode cX19_build 72 = .ok (.aload_n 0, 1) := by decide +kernel
theorem dX19_build_73 : decode cX19_build 73 = .ok (.getfield 49, 3) := by decide +kernel
theorem dX19_build_76 : decode cX19_build 76 = .ok (.iload_n 1, 1) := by decide +kernel
theorem dX19_build_77 : decode cX19_build 77 = .ok (.iaload, 1) := by decide +kernel
theorem dX19_build_78 : decode cX19_build 78 = .ok (.i2l, 1) := by decide +kernel
theorem dX19_build_79 : decode cX19_build 79 = .ok (.invokevirtual 593, 3) := by decide +kernel
theorem dX19_build_82 : decode cX19_build 82 = .ok (.istore_n 3, 1) := by decide +kernel
theorem dX19_build_83 : decode cX19_build 83 = .ok (.aload_n 0, 1) := by decide +kernel
theorem dX19_build_84 : decode cX19_build 84 = .ok (.getfield 46, 3) := by decide +kernel
theorem dX19_build_87 : decode cX19_build 87 = .ok (.iload_n 1, 1) := by decide +kernel
theorem dX19_build_88 : decode cX19_build 88 = .ok (.iaload, 1) := by decide +kernel
theorem dX19_build_89 : decode cX19_build 89 = .ok (.istore 4, 2) := by decide +kernel
theorem dX19_build_91 : decode cX19_build 91 = .ok (.iload 4, 2) := by decide +kernel
theorem dX19_build_93 : decode cX19_build 93 = .ok (.sipush 20000, 3) := by decide +kernel
theorem dX19_build_96 : decode cX19_build 96 = .ok (.if_icmp .ge 44, 3) := by decide +kernel
theorem dX19_build_99 : decode cX19_build 99 = .ok (.aload_n 0, 1) := by decide +kernel
theorem dX19_build_100 : decode cX19_build 100 = .ok (.getfield 177, 3) := by decide +kernel
theorem dX19_build_103 : decode cX19_build 103 = .ok (.iload_n 2, 1) := by decide +kernel
theorem dX19_build_104 : decode cX19_build 104 = .ok (.iload 4, 2) := by decide +kernel
theorem dX19_build_106 : decode cX19_build 106 = .ok (.i2l, 1) := by decide +kernel
theorem dX19_build_107 : decode cX19_build 107 = .ok (.invokevirtual 597, 3) := by decide +kernel
theorem dX19_build_110 : decode cX19_build 110 = .ok (.ifCond .ge 16, 3) := by decide +kernel
theorem dX19_build_113 : decode cX19_build 113 = .ok (.aload_n 0, 1) := by decide +kernel
theorem dX19_build_114 : decode cX19_build 114 = .ok (.bipush 6, 2) := by decide +kernel
theorem dX19_build_116 : decode cX19_build 116 = .ok (.aload_n 0, 1) := by decide +kernel
theorem dX19_build_117 : decode cX19_build 117 = .ok (.getfield 34, 3) := by decide +kernel
theorem dX19_build_120 : decode cX19_build 120 = .ok (.iload_n 1, 1) := by decide +kernel
theorem dX19_build_121 : decode cX19_build 121 = .ok (.iaload, 1) := by decide +kernel
theorem dX19_build_122 : decode cX19_build 122 = .ok (.invokevirtual 321, 3) := by decide +kernel
theorem dX19_build_125 : decode cX19_build 125 = .ok (.ireturn, 1) := by decide +kernel
theorem dX19_build_126 : decode cX19_build 126 = .ok (.iload 4, 2) := by decide +kernel
theorem dX19_build_128 : decode cX19_build 128 = .ok (.aload_n 0, 1) := by decide +kernel
theorem dX19_build_129 : decode cX19_build 129 = .ok (.getfield 43, 3) := by decide +kernel
theorem dX19_build_132 : decode cX19_build 132 = .ok (.iload_n 1, 1) := by decide +kernel
theorem dX19_build_133 : decode cX19_build 133 = .ok (.iaload, 1) := by decide +kernel
theorem dX19_build_134 : decode cX19_build 134 = .ok (.iadd, 1) := by decide +kernel
theorem dX19_build_135 : decode cX19_build 135 = .ok (.istore 4, 2) := by decide +kernel
theorem dX19_build_137 : decode cX19_build 137 = .ok (.goto (-46), 3) := by decide +kernel
theorem dX19_build_140 : decode cX19_build 140 = .ok (.iinc 1 1, 3) := by decide +kernel
theorem dX19_build_143 : decode cX19_build 143 = .ok (.goto (-107), 3) := by decide +kernel
theorem dX19_build_146 : decode cX19_build 146 = .ok (.aload_n 0, 1) := by decide +kernel
theorem dX19_build_147 : decode cX19_build 147 = .ok (.iconst 0, 1) := by decide +kernel
theorem dX19_build_148 : decode cX19_build 148 = .ok (.putfield 600, 3) := by decide +kernel
theorem dX19_build_151 : decode cX19_build 151 = .ok (.aload_n 0, 1) := by decide +kernel
theorem dX19_build_152 : decode cX19_build 152 = .ok (.iconst 0, 1) := by decide +kernel
theorem dX19_build_153 : decode cX19_build 153 = .ok (.putfield 603, 3) := by decide +kernel
theorem dX19_build_156 : decode cX19_build 156 = .ok (.aload_n 0, 1) := by decide +kernel
theorem dX19_build_157 : decode cX19_build 157 = .ok (.iconst 0, 1) := by decide +kernel
theorem dX19_build_158 : decode cX19_build 158 = .ok (.putfield 606, 3) := by decide +kernel
theorem dX19_build_161 : decode cX19_build 161 = .ok (.aload_n 0, 1) := by decide +kernel
theorem dX19_build_162 : decode cX19_build 162 = .ok (.iconst 0, 1) := by decide +kernel
theorem dX19_build_163 : decode cX19_build 163 = .ok (.putfield 609, 3) := by decide +kernel
theorem dX19_build_166 : decode cX19_build 166 = .ok (.aload_n 0, 1) := by decide +kernel
theorem dX19_build_167 : decode cX19_build 167 = .ok (.iconst 0, 1) := by decide +kernel
theorem dX19_build_168 : decode cX19_build 168 = .ok (.putfield 612, 3) := by decide +kernel
theorem dX19_build_171 : decode cX19_build 171 = .ok (.aload_n 0, 1) := by decide +kernel
theorem dX19_build_172 : decode cX19_build 172 = .ok (.iconst 0, 1) := by decide +kernel
theorem dX19_build_173 : decode cX19_build 173 = .ok (.putfield 615, 3) := by decide +kernel
theorem dX19_build_176 : decode cX19_build 176 = .ok (.aload_n 0, 1) := by decide +kernel
theorem dX19_build_177 : decode cX19_build 177 = .ok (.iconst (-1), 1) := by decide +kernel
theorem dX19_build_178 : decode cX19_build 178 = .ok (.putfield 245, 3) := by decide +kernel
theorem dX19_build_181 : decode cX19_build 181 = .ok (.aload_n 0, 1) := by decide +kernel
theorem dX19_build_182 : decode cX19_build 182 = .ok (.iconst 0, 1) := by decide +kernel
theorem dX19_build_183 : decode cX19_build 183 = .ok (.putfield 618, 3) := by decide +kernel
theorem dX19_build_186 : decode cX19_build 186 = .ok (.aload_n 0, 1) := by decide +kernel
theorem dX19_build_187 : decode cX19_build 187 = .ok (.iconst 0, 1) := by decide +kernel
theorem dX19_build_188 : decode cX19_build 188 = .ok (.putfield 621, 3) := by decide +kernel
theorem dX19_build_191 : decode cX19_build 191 = .ok (.iconst 0, 1) := by decide +kernel
theorem dX19_build_192 : decode cX19_build 192 = .ok (.istore_n 1, 1) := by decide +kernel
theorem dX19_build_193 : decode cX19_build 193 = .ok (.iload_n 1, 1) := by decide +kernel
theorem dX19_build_194 : decode cX19_build 194 = .ok (.bipush 7, 2) := by decide +kernel
theorem dX19_build_196 : decode cX19_build 196 = .ok (.if_icmp .ge 16, 3) := by decide +kernel
theorem dX19_build_199 : decode cX19_build 199 = .ok (.aload_n 0, 1) := by decide +kernel
theorem dX19_build_200 : decode cX19_build 200 = .ok (.getfield 224, 3) := by decide +kernel
theorem dX19_build_203 : decode cX19_build 203 = .ok (.iload_n 1, 1) := by decide +kernel
theorem dX19_build_204 : decode cX19_build 204 = .ok (.iconst 0, 1) := by decide +kernel
theorem dX19_build_205 : decode cX19_build 205 = .ok (.iastore, 1) := by decide +kernel
theorem dX19_build_206 : decode cX19_build 206 = .ok (.iinc 1 1, 3) := by decide +kernel
theorem dX19_build_209 : decode cX19_build 209 = .ok (.goto (-16), 3) := by decide +kernel
theorem dX19_build_212 : decode cX19_build 212 = .ok (.iconst 0, 1) := by decide +kernel
theorem dX19_build_213 : decode cX19_build 213 = .ok (.istore_n 1, 1) := by decide +kernel
theorem dX19_build_214 : decode cX19_build 214 = .ok (.iload_n 1, 1) := by decide +kernel
theorem dX19_build_215 : decode cX19_build 215 = .ok (.iconst 5, 1) := by decide +kernel
theorem dX19_build_216 : decode cX19_build 216 = .ok (.if_icmp .ge 16, 3) := by decide +kernel
theorem dX19_build_219 : decode cX19_build 219 = .ok (.aload_n 0, 1) := by decide +kernel
theorem dX19_build_220 : decode cX19_build 220 = .ok (.getfield 273, 3) := by decide +kernel
theorem dX19_build_223 : decode cX19_build 223 = .ok (.iload_n 1, 1) := by decide +kernel
theorem dX19_build_224 : decode cX19_build 224 = .ok (.iconst 0, 1) := by decide +kernel
theorem dX19_build_225 : decode cX19_build 225 = .ok (.iastore, 1) := by decide +kernel
theorem dX19_build_226 : decode cX19_build 226 = .ok (.iinc 1 1, 3) := by decide +kernel
theorem dX19_build_229 : decode cX19_build 229 = .ok (.goto (-15), 3) := by decide +kernel
theorem dX19_build_232 : decode cX19_build 232 = .ok (.iconst 0, 1) := by decide +kernel
theorem dX19_build_233 : decode cX19_build 233 = .ok (.istore_n 1, 1) := by decide +kernel
theorem dX19_build_234 : decode cX19_build 234 = .ok (.iload_n 1, 1) := by decide +kernel
theorem dX19_build_235 : decode cX19_build 235 = .ok (.sipush 240, 3) := by decide +kernel
theorem dX19_build_238 : decode cX19_build 238 = .ok (.if_icmp .ge 16, 3) := by decide +kernel
theorem dX19_build_241 : decode cX19_build 241 = .ok (.aload_n 0, 1) := by decide +kernel
theorem dX19_build_242 : decode cX19_build 242 = .ok (.getfield 171, 3) := by decide +kernel
theorem dX19_build_245 : decode cX19_build 245 = .ok (.iload_n 1, 1) := by decide +kernel
theorem dX19_build_246 : decode cX19_build 246 = .ok (.lconst 0, 1) := by decide +kernel
theorem dX19_build_247 : decode cX19_build 247 = .ok (.lastore, 1) := by decide +kernel
theorem dX19_build_248 : decode cX19_build 248 = .ok (.iinc 1 1, 3) := by decide +kernel
theorem dX19_build_251 : decode cX19_build 251 = .ok (.goto (-17), 3) := by decide +kernel
theorem dX19_build_254 : decode cX19_build 254 = .ok (.iconst 0, 1) := by decide +kernel
theorem dX19_build_255 : decode cX19_build 255 = .ok (.istore_n 1, 1) := by decide +kernel
theorem dX19_build_256 : decode cX19_build 256 = .ok (.iload_n 1, 1) := by decide +kernel
theorem dX19_build_257 : decode cX19_build 257 = .ok (.bipush 6, 2) := by decide +kernel
theorem dX19_build_259 : decode cX19_build 259 = .ok (.if_icmp .ge 51, 3) := by decide +kernel
theorem dX19_build_262 : decode cX19_build 262 = .ok (.aload_n 0, 1) := by decide +kernel
theorem dX19_build_263 : decode cX19_build 263 = .ok (.getfield 221, 3) := by decide +kernel
theorem dX19_build_266 : decode cX19_build 266 = .ok (.iload_n 1, 1) := by decide +kernel
theorem dX19_build_267 : decode cX19_build 267 = .ok (.iconst 0, 1) := by decide +kernel
theorem dX19_build_268 : decode cX19_build 268 = .ok (.bastore, 1) := by decide +kernel
theorem dX19_build_269 : decode cX19_build 269 = .ok (.aload_n 0, 1) := by decide +kernel
theorem dX19_build_270 : decode cX19_build 270 = .ok (.getfield 258, 3) := by decide +kernel
theorem dX19_build_273 : decode cX19_build 273 = .ok (.iload_n 1, 1) := by decide +kernel
theorem dX19_build_274 : decode cX19_build 274 = .ok (.iconst 1, 1) := by decide +kernel
theorem dX19_build_275 : decode cX19_build 275 = .ok (.iastore, 1) := by decide +kernel
theorem dX19_build_276 : decode cX19_build 276 = .ok (.aload_n 0, 1) := by decide +kernel
theorem dX19_build_277 : decode cX19_build 277 = .ok (.getfield 261, 3) := by decide +kernel
theorem dX19_build_280 : decode cX19_build 280 = .ok (.iload_n 1, 1) := by decide +kernel
theorem dX19_build_281 : decode cX19_build 281 = .ok (.iconst 0, 1) := by decide +kernel
theorem dX19_build_282 : decode cX19_build 282 = .ok (.bastore, 1) := by decide +kernel
theorem dX19_build_283 : decode cX19_build 283 = .ok (.aload_n 0, 1) := by decide +kernel
theorem dX19_build_284 : decode cX19_build 284 = .ok (.getfield 264, 3) := by decide +kernel
theorem dX19_build_287 : decode cX19_build 287 = .ok (.iload_n 1, 1) := by decide +kernel
theorem dX19_build_288 : decode cX19_build 288 = .ok (.iconst 0, 1) := by decide +kernel
theorem dX19_build_289 : decode cX19_build 289 = .ok (.bastore, 1) := by decide +kernel
theorem dX19_build_290 : decode cX19_build 290 = .ok (.aload_n 0, 1) := by decide +kernel
theorem dX19_build_291 : decode cX19_build 291 = .ok (.getfield 267, 3) := by decide +kernel
theorem dX19_build_294 : decode cX19_build 294 = .ok (.iload_n 1, 1) := by decide +kernel
theorem dX19_build_295 : decode cX19_build 295 = .ok (.iconst 0, 1) := by decide +kernel
theorem dX19_build_296 : decode cX19_build 296 = .ok (.iastore, 1) := by decide +kernel
theorem dX19_build_297 : decode cX19_build 297 = .ok (.aload_n 0, 1) := by decide +kernel
theorem dX19_build_298 : decode cX19_build 298 = .ok (.getfield 270, 3) := by decide +kernel
theorem dX19_build_301 : decode cX19_build 301 = .ok (.iload_n 1, 1) := by decide +kernel
theorem dX19_build_302 : decode cX19_build 302 = .ok (.iconst 0, 1) := by decide +kernel
theorem dX19_build_303 : decode cX19_build 303 = .ok (.iastore, 1) := by decide +kernel
theorem dX19_build_304 : decode cX19_build 304 = .ok (.iinc 1 1, 3) := by decide +kernel
theorem dX19_build_307 : decode cX19_build 307 = .ok (.goto (-51), 3) := by decide +kernel
theorem dX19_build_310 : decode cX19_build 310 = .ok (.iconst 1, 1) := by decide +kernel
theorem dX19_build_311 : decode cX19_build 311 = .ok (.ireturn, 1) := by decide +kernel
theorem cwX19_build : mw_cwV yX19_build cX19_build 5 ((some .boolean)) 0 := ⟨⟨wd_13, wd_3494, by decide +kernel⟩, wd_3493, sl_213⟩
set_option maxHeartbeats 4000000 in
set_option maxRecDepth 100000 in
theorem tX19_build (l : Launch) (G : mwG) (ad : Nat → Nat) (fu : Nat) (M : mwM) (L : mwL) {r0 : Int32} {M0 : mwM} {L0 : mwL} (hD : DX19_build fu M L = some (r0, M0, L0)) : Met l yX19_build (Cond.code yX19_build cX19_build 5 ((some .boolean)) :: GT) ({ frames := 2, cells := 0, slots := 0, locals := 48 }) (mw_Pre G ad NF TF FF M L [.ref (ad 732)]) (mw_Qi G ad NF TF FF (mw_eqI r0 M0 L0)) 0 0 (mw_fr G) := by
  refine mw_enter (by decide) (Nat.le_of_ble_eq_true rfl) ?_
  intro p e s m below meth c ls C hr hlocks hnm hw hl
  have hl : lv_has ls 5 [(0, .ref (ad 732))] := hl
  have hh256 : ∀ (f : Nat) (v1 : Int32) (M : mwM) (L : mwL) (H : Heap) (locs : List Loc) (ls : Array Slot), fX19_build_h256 fu f (v1, M, L) = some (r0, M0, L0) → mw_W G ad NF TF FF M L H locs → lv_has ls 5 [(0, .ref (ad 732)), (1, .int v1)] → W p l e ({ frames := 2, cells := 0, slots := 0, locals := 48 }) s m [.ref (ad 732)].toArray below meth c H locs 0 0 (MQ below (mw_Qi G ad NF TF FF (mw_eqI r0 M0 L0)) [.ref (ad 732)].toArray s 0 0 (mw_fr G)) (F0 m 256 ls []) := by
    intro f
    induction f with
    | zero => intro v1 M L H locs ls hD; cases hD
    | succ f256 ih256 =>
      intro v1 M L H locs ls hD hw hl
      replace hD : fX19_build_i256 fu (fX19_build_h256 fu f256) v1 M L = some (r0, M0, L0) := hD
      unfold fX19_build_i256 at hD
      refine lv_iload_n C.1.1 C.1.2.1 dX19_build_256 rfl (lv_at hl 1 rfl) ?_
      refine lv_bipush (v := 6) C.1.1 C.1.2.1 dX19_build_257 (by decide) ?_
      refine lv_icmp_ge (tgt := 310) C.1.1 C.1.2.1 dX19_build_259 (by decide) (fun c47 => ?_) (fun c47 => ?_)
      · replace hD := g_pos c47 hD
        refine lv_iconst (v := 1) C.1.1 C.1.2.1 dX19_build_310 (by decide) ?_
        exact mr_iret C hr hlocks hw (by decide +kernel) (Option.some.inj hD) dX19_build_311
      · replace hD := g_neg c47 hD
        refine lv_aload_n C.1.1 C.1.2.1 dX19_build_262 rfl (lv_at hl 0 rfl) ?_
        refine mr_getR C hw kc_19 84 (by decide) tf_732 ff_732_84 wd_2865 dX19_build_263 (by decide) rfl ?_
        refine lv_iload_n C.1.1 C.1.2.1 dX19_build_266 rfl (lv_at hl 1 rfl) ?_
        refine lv_iconst (v := 0) C.1.1 C.1.2.1 dX19_build_267 (by decide) ?_
        obtain ⟨q48, hD⟩ := g_ck hD
        obtain ⟨M49, eM49, hD⟩ := g_let hD
        refine mr_zast C hw (by decide) tf_923 q48 dX19_build_268 (fun H locs hw => ?_)
        replace hw : mw_W G ad NF TF FF M49 L H locs := by rw [eM49]; exact hw
        refine lv_aload_n C.1.1 C.1.2.1 dX19_build_269 rfl (lv_at hl 0 rfl) ?_
        refine mr_getR C hw kc_19 103 (by decide) tf_732 ff_732_103 wd_2884 dX19_build_270 (by decide) rfl ?_
        refine lv_iload_n C.1.1 C.1.2.1 dX19_build_273 rfl (lv_at hl 1 rfl) ?_
        refine lv_iconst (v := 1) C.1.1 C.1.2.1 dX19_build_274 (by decide) ?_
        obtain ⟨q50, hD⟩ := g_ck hD
        obtain ⟨M51, eM51, hD⟩ := g_let hD
        refine mr_iast C hw (by decide) tf_934 q50 dX19_build_275 (fun H locs hw => ?_)
        replace hw : mw_W G ad NF TF FF M51 L H locs := by rw [eM51]; exact hw
        refine lv_aload_n C.1.1 C.1.2.1 dX19_build_276 rfl (lv_at hl 0 rfl) ?_
        refine mr_getR C hw kc_19 104 (by decide) tf_732 ff_732_104 wd_2885 dX19_build_277 (by decide) rfl ?_
        refine lv_iload_n C.1.1 C.1.2.1 dX19_build_280 rfl (lv_at hl 1 rfl) ?_
        refine lv_iconst (v := 0) C.1.1 C.1.2.1 dX19_build_281 (by decide) ?_
        obtain ⟨q52, hD⟩ := g_ck hD
        obtain ⟨M53, eM53, hD⟩ := g_let hD
        refine mr_zast C hw (by decide) tf_935 q52 dX19_build_282 (fun H locs hw => ?_)
        replace hw : mw_W G ad NF TF FF M53 L H locs := by rw [eM53]; exact hw
        refine lv_aload_n C.1.1 C.1.2.1 dX19_build_283 rfl (lv_at hl 0 rfl) ?_
        refine mr_getR C hw kc_19 105 (by decide) tf_732 ff_732_105 wd_2886 dX19_build_284 (by decide) rfl ?_
        refine lv_iload_n C.1.1 C.1.2.1 dX19_build_287 rfl (lv_at hl 1 rfl) ?_
        refine lv_iconst (v := 0) C.1.1 C.1.2.1 dX19_build_288 (by decide) ?_
        obtain ⟨q54, hD⟩ := g_ck hD
        obtain ⟨M55, eM55, hD⟩ := g_let hD
        refine mr_zast C hw (by decide) tf_936 q54 dX19_build_289 (fun H locs hw => ?_)
        replace hw : mw_W G ad NF TF FF M55 L H locs := by rw [eM55]; exact hw
        refine lv_aload_n C.1.1 C.1.2.1 dX19_build_290 rfl (lv_at hl 0 rfl) ?_
        refine mr_getR C hw kc_19 106 (by decide) tf_732 ff_732_106 wd_2887 dX19_build_291 (by decide) rfl ?_
        refine lv_iload_n C.1.1 C.1.2.1 dX19_build_294 rfl (lv_at hl 1 rfl) ?_
        refine lv_iconst (v := 0) C.1.1 C.1.2.1 dX19_build_295 (by decide) ?_
        obtain ⟨q56, hD⟩ := g_ck hD
        obtain ⟨M57, eM57, hD⟩ := g_let hD
        refine mr_iast C hw (by decide) tf_937 q56 dX19_build_296 (fun H locs hw => ?_)
        replace hw : mw_W G ad NF TF FF M57 L H locs := by rw [eM57]; exact hw
        refine lv_aload_n C.1.1 C.1.2.1 dX19_build_297 rfl (lv_at hl 0 rfl) ?_
        refine mr_getR C hw kc_19 107 (by decide) tf_732 ff_732_107 wd_2888 dX19_build_298 (by decide) rfl ?_
        refine lv_iload_n C.1.1 C.1.2.1 dX19_build_301 rfl (lv_at hl 1 rfl) ?_
        refine lv_iconst (v := 0) C.1.1 C.1.2.1 dX19_build_302 (by decide) ?_
        obtain ⟨q58, hD⟩ := g_ck hD
        obtain ⟨M59, eM59, hD⟩ := g_let hD
        refine mr_iast C hw (by decide) tf_938 q58 dX19_build_303 (fun H locs hw => ?_)
        replace hw : mw_W G ad NF TF FF M59 L H locs := by rw [eM59]; exact hw
        obtain ⟨x60, ex60, hD⟩ := g_let hD
        refine lv_iinc (v := x60) (lv' := [(1, .int x60), (0, .ref (ad 732))]) C.1.1 C.1.2.1 dX19_build_304 hl (k := 1) rfl (by rw [ex60]; rfl) (by decide) rfl (fun ls hl => ?_)
        refine lv_goto (tgt := 256) C.1.1 C.1.2.1 dX19_build_307 (by decide) ?_
        exact ih256 x60 M59 L _ _ ls hD hw (lv_sub hl [1, 0] rfl)
  have hh234 : ∀ (f : Nat) (v1 : Int32) (M : mwM) (L : mwL) (H : Heap) (locs : List Loc) (ls : Array Slot), fX19_build_h234 fu f (v1, M, L) = some (r0, M0, L0) → mw_W G ad NF TF FF M L H locs → lv_has ls 5 [(0, .ref (ad 732)), (1, .int v1)] → W p l e ({ frames := 2, cells := 0, slots := 0, locals := 48 }) s m [.ref (ad 732)].toArray below meth c H locs 0 0 (MQ below (mw_Qi G ad NF TF FF (mw_eqI r0 M0 L0)) [.ref (ad 732)].toArray s 0 0 (mw_fr G)) (F0 m 234 ls []) := by
    intro f
    induction f with
    | zero => intro v1 M L H locs ls hD; cases hD
    | succ f234 ih234 =>
      intro v1 M L H locs ls hD hw hl
      replace hD : fX19_build_i234 fu (fX19_build_h234 fu f234) v1 M L = some (r0, M0, L0) := hD
      unfold fX19_build_i234 at hD
      refine lv_iload_n C.1.1 C.1.2.1 dX19_build_234 rfl (lv_at hl 1 rfl) ?_
      refine lv_sipush (v := 240) C.1.1 C.1.2.1 dX19_build_235 (by decide) ?_
      refine lv_icmp_ge (tgt := 254) C.1.1 C.1.2.1 dX19_build_238 (by decide) (fun c43 => ?_) (fun c43 => ?_)
      · replace hD := g_pos c43 hD
        refine lv_iconst (v := 0) C.1.1 C.1.2.1 dX19_build_254 (by decide) ?_
        refine lv_istore_n (lv' := [(1, .int 0), (0, .ref (ad 732))]) C.1.1 C.1.2.1 dX19_build_255 rfl hl (by decide) rfl (fun ls hl => ?_)
        exact hh256 fu 0 M L _ _ ls hD hw (lv_sub hl [1, 0] rfl)
      · replace hD := g_neg c43 hD
        refine lv_aload_n C.1.1 C.1.2.1 dX19_build_241 rfl (lv_at hl 0 rfl) ?_
        refine mr_getR C hw kc_19 75 (by decide) tf_732 ff_732_75 wd_2856 dX19_build_242 (by decide) rfl ?_
        refine lv_iload_n C.1.1 C.1.2.1 dX19_build_245 rfl (lv_at hl 1 rfl) ?_
        refine lv_lconst (v := 0) C.1.1 C.1.2.1 dX19_build_246 (by decide) ?_
        obtain ⟨q44, hD⟩ := g_ck hD
        obtain ⟨L45, eL45, hD⟩ := g_let hD
        refine mr_last C hw (by decide) tf_786 q44 dX19_build_247 (fun H locs hw => ?_)
        replace hw : mw_W G ad NF TF FF M L45 H locs := by rw [eL45]; exact hw
        obtain ⟨x46, ex46, hD⟩ := g_let hD
        refine lv_iinc (v := x46) (lv' := [(1, .int x46), (0, .ref (ad 732))]) C.1.1 C.1.2.1 dX19_build_248 hl (k := 1) rfl (by rw [ex46]; rfl) (by decide) rfl (fun ls hl => ?_)
        refine lv_goto (tgt := 234) C.1.1 C.1.2.1 dX19_build_251 (by decide) ?_
        exact ih234 x46 M L45 _ _ ls hD hw (lv_sub hl [1, 0] rfl)
  have hh214 : ∀ (f : Nat) (v1 : Int32) (M : mwM) (L : mwL) (H : Heap) (locs : List Loc) (ls : Array Slot), fX19_build_h214 fu f (v1, M, L) = some (r0, M0, L0) → mw_W G ad NF TF FF M L H locs → lv_has ls 5 [(0, .ref (ad 732)), (1, .int v1)] → W p l e ({ frames := 2, cells := 0, slots := 0, locals := 48 }) s m [.ref (ad 732)].toArray below meth c H locs 0 0 (MQ below (mw_Qi G ad NF TF FF (mw_eqI r0 M0 L0)) [.ref (ad 732)].toArray s 0 0 (mw_fr G)) (F0 m 214 ls []) := by
    intro f
    induction f with
    | zero => intro v1 M L H locs ls hD; cases hD
    | succ f214 ih214 =>
      intro v1 M L H locs ls hD hw hl
      replace hD : fX19_build_i214 fu (fX19_build_h214 fu f214) v1 M L = some (r0, M0, L0) := hD
      unfold fX19_build_i214 at hD
      refine lv_iload_n C.1.1 C.1.2.1 dX19_build_214 rfl (lv_at hl 1 rfl) ?_
      refine lv_iconst (v := 5) C.1.1 C.1.2.1 dX19_build_215 (by decide) ?_
      refine lv_icmp_ge (tgt := 232) C.1.1 C.1.2.1 dX19_build_216 (by decide) (fun c39 => ?_) (fun c39 => ?_)
      · replace hD := g_pos c39 hD
        refine lv_iconst (v := 0) C.1.1 C.1.2.1 dX19_build_232 (by decide) ?_
        refine lv_istore_n (lv' := [(1, .int 0), (0, .ref (ad 732))]) C.1.1 C.1.2.1 dX19_build_233 rfl hl (by decide) rfl (fun ls hl => ?_)
        exact hh234 fu 0 M L _ _ ls hD hw (lv_sub hl [1, 0] rfl)
      · replace hD := g_neg c39 hD
        refine lv_aload_n C.1.1 C.1.2.1 dX19_build_219 rfl (lv_at hl 0 rfl) ?_
        refine mr_getR C hw kc_19 109 (by decide) tf_732 ff_732_109 wd_2890 dX19_build_220 (by decide) rfl ?_
        refine lv_iload_n C.1.1 C.1.2.1 dX19_build_223 rfl (lv_at hl 1 rfl) ?_
        refine lv_iconst (v := 0) C.1.1 C.1.2.1 dX19_build_224 (by decide) ?_
        obtain ⟨q40, hD⟩ := g_ck hD
        obtain ⟨M41, eM41, hD⟩ := g_let hD
        refine mr_iast C hw (by decide) tf_939 q40 dX19_build_225 (fun H locs hw => ?_)
        replace hw : mw_W G ad NF TF FF M41 L H locs := by rw [eM41]; exact hw
        obtain ⟨x42, ex42, hD⟩ := g_let hD
        refine lv_iinc (v := x42) (lv' := [(1, .int x42), (0, .ref (ad 732))]) C.1.1 C.1.2.1 dX19_build_226 hl (k := 1) rfl (by rw [ex42]; rfl) (by decide) rfl (fun ls hl => ?_)
        refine lv_goto (tgt := 214) C.1.1 C.1.2.1 dX19_build_229 (by decide) ?_
        exact ih214 x42 M41 L _ _ ls hD hw (lv_sub hl [1, 0] rfl)
  have hh193 : ∀ (f : Nat) (v1 : Int32) (M : mwM) (L : mwL) (H : Heap) (locs : List Loc) (ls : Array Slot), fX19_build_h193 fu f (v1, M, L) = some (r0, M0, L0) → mw_W G ad NF TF FF M L H locs → lv_has ls 5 [(0, .ref (ad 732)), (1, .int v1)] → W p l e ({ frames := 2, cells := 0, slots := 0, locals := 48 }) s m [.ref (ad 732)].toArray below meth c H locs 0 0 (MQ below (mw_Qi G ad NF TF FF (mw_eqI r0 M0 L0)) [.ref (ad 732)].toArray s 0 0 (mw_fr G)) (F0 m 193 ls []) := by
    intro f
    induction f with
    | zero => intro v1 M L H locs ls hD; cases hD
    | succ f193 ih193 =>
      intro v1 M L H locs ls hD hw hl
      replace hD : fX19_build_i193 fu (fX19_build_h193 fu f193) v1 M L = some (r0, M0, L0) := hD
      unfold fX19_build_i193 at hD
      refine lv_iload_n C.1.1 C.1.2.1 dX19_build_193 rfl (lv_at hl 1 rfl) ?_
      refine lv_bipush (v := 7) C.1.1 C.1.2.1 dX19_build_194 (by decide) ?_
      refine lv_icmp_ge (tgt := 212) C.1.1 C.1.2.1 dX19_build_196 (by decide) (fun c35 => ?_) (fun c35 => ?_)
      · replace hD := g_pos c35 hD
        refine lv_iconst (v := 0) C.1.1 C.1.2.1 dX19_build_212 (by decide) ?_
        refine lv_istore_n (lv' := [(1, .int 0), (0, .ref (ad 732))]) C.1.1 C.1.2.1 dX19_build_213 rfl hl (by decide) rfl (fun ls hl => ?_)
        exact hh214 fu 0 M L _ _ ls hD hw (lv_sub hl [1, 0] rfl)
      · replace hD := g_neg c35 hD
        refine lv_aload_n C.1.1 C.1.2.1 dX19_build_199 rfl (lv_at hl 0 rfl) ?_
        refine mr_getR C hw kc_19 85 (by decide) tf_732 ff_732_85 wd_2866 dX19_build_200 (by decide) rfl ?_
        refine lv_iload_n C.1.1 C.1.2.1 dX19_build_203 rfl (lv_at hl 1 rfl) ?_
        refine lv_iconst (v := 0) C.1.1 C.1.2.1 dX19_build_204 (by decide) ?_
        obtain ⟨q36, hD⟩ := g_ck hD
        obtain ⟨M37, eM37, hD⟩ := g_let hD
        refine mr_iast C hw (by decide) tf_924 q36 dX19_build_205 (fun H locs hw => ?_)
        replace hw : mw_W G ad NF TF FF M37 L H locs := by rw [eM37]; exact hw
        obtain ⟨x38, ex38, hD⟩ := g_let hD
        refine lv_iinc (v := x38) (lv' := [(1, .int x38), (0, .ref (ad 732))]) C.1.1 C.1.2.1 dX19_build_206 hl (k := 1) rfl (by rw [ex38]; rfl) (by decide) rfl (fun ls hl => ?_)
        refine lv_goto (tgt := 193) C.1.1 C.1.2.1 dX19_build_209 (by decide) ?_
        exact ih193 x38 M37 L _ _ ls hD hw (lv_sub hl [1, 0] rfl)
  have hh36 : ∀ (f : Nat) (v1 : Int32) (M : mwM) (L : mwL) (H : Heap) (locs : List Loc) (ls : Array Slot), fX19_build_h36 fu f (v1, M, L) = some (r0, M0, L0) → mw_W G ad NF TF FF M L H locs → lv_has ls 5 [(0, .ref (ad 732)), (1, .int v1)] → W p l e ({ frames := 2, cells := 0, slots := 0, locals := 48 }) s m [.ref (ad 732)].toArray below meth c H locs 0 0 (MQ below (mw_Qi G ad NF TF FF (mw_eqI r0 M0 L0)) [.ref (ad 732)].toArray s 0 0 (mw_fr G)) (F0 m 36 ls []) := by
    intro f
    induction f with
    | zero => intro v1 M L H locs ls hD; cases hD
    | succ f36 ih36 =>
      intro v1 M L H locs ls hD hw hl
      replace hD : fX19_build_i36 fu (fX19_build_h36 fu f36) v1 M L = some (r0, M0, L0) := hD
      have hh91 : ∀ (f : Nat) (v1 : Int32) (v2 : Int32) (v4 : Int32) (M : mwM) (L : mwL) (H : Heap) (locs : List Loc) (ls : Array Slot), fX19_build_h91 fu (fX19_build_h36 fu f36) f (v1, v2, v4, M, L) = some (r0, M0, L0) → mw_W G ad NF TF FF M L H locs → lv_has ls 5 [(0, .ref (ad 732)), (1, .int v1), (2, .int v2), (4, .int v4)] → W p l e ({ frames := 2, cells := 0, slots := 0, locals := 48 }) s m [.ref (ad 732)].toArray below meth c H locs 0 0 (MQ below (mw_Qi G ad NF TF FF (mw_eqI r0 M0 L0)) [.ref (ad 732)].toArray s 0 0 (mw_fr G)) (F0 m 91 ls []) := by
        intro f
        induction f with
        | zero => intro v1 v2 v4 M L H locs ls hD; cases hD
        | succ f91 ih91 =>
          intro v1 v2 v4 M L H locs ls hD hw hl
          replace hD : fX19_build_i91 fu (fX19_build_h36 fu f36) (fX19_build_h91 fu (fX19_build_h36 fu f36) f91) v1 v2 v4 M L = some (r0, M0, L0) := hD
          unfold fX19_build_i91 at hD
          refine lv_iload C.1.1 C.1.2.1 dX19_build_91 (lv_at hl 3 rfl) ?_
          refine lv_sipush (v := 20000) C.1.1 C.1.2.1 dX19_build_93 (by decide) ?_
          refine lv_icmp_ge (tgt := 140) C.1.1 C.1.2.1 dX19_build_96 (by decide) (fun c22 => ?_) (fun c22 => ?_)
          · replace hD := g_pos c22 hD
            obtain ⟨x23, ex23, hD⟩ := g_let hD
            refine lv_iinc (v := x23) (lv' := [(1, .int x23), (0, .ref (ad 732)), (2, .int v2), (4, .int v4)]) C.1.1 C.1.2.1 dX19_build_140 hl (k := 1) rfl (by rw [ex23]; rfl) (by decide) rfl (fun ls hl => ?_)
            refine lv_goto (tgt := 36) C.1.1 C.1.2.1 dX19_build_143 (by decide) ?_
            exact ih36 x23 M L _ _ ls hD hw (lv_sub hl [1, 0] rfl)
          · replace hD := g_neg c22 hD
            refine lv_aload_n C.1.1 C.1.2.1 dX19_build_99 rfl (lv_at hl 0 rfl) ?_
            refine mr_getR C hw kc_19 76 (by decide) tf_732 ff_732_76 wd_2857 dX19_build_100 (by decide) rfl ?_
            refine lv_iload_n C.1.1 C.1.2.1 dX19_build_103 rfl (lv_at hl 2 rfl) ?_
            refine lv_iload C.1.1 C.1.2.1 dX19_build_104 (lv_at hl 3 rfl) ?_
            refine lv_i2l C.1.1 C.1.2.1 dX19_build_106 rfl ?_
            obtain ⟨r26, M24, L25, h1, hD⟩ := g_b3 hD
            refine md_cvI (As := [.int v2, .long v4.toInt64]) (rest := []) C hw (tX15_activate l G ad fu v2 v4.toInt64 M L h1) kc_15 (by decide) tf_787 wd_3530 cwX15_activate ⟨Nat.le_of_ble_eq_true rfl, Nat.le_of_ble_eq_true rfl⟩ rfl hl.1 (Nat.le_of_ble_eq_true rfl) dX19_build_107 rfl rfl ⟨Nat.zero_le _, Nat.zero_le _⟩ rfl (fun H locs hw => ?_)
            refine lv_if_ge (tgt := 126) C.1.1 C.1.2.1 dX19_build_110 (by decide) (fun c27 => ?_) (fun c27 => ?_)
            · replace hD := g_pos c27 hD
              refine lv_iload C.1.1 C.1.2.1 dX19_build_126 (lv_at hl 3 rfl) ?_
              refine lv_aload_n C.1.1 C.1.2.1 dX19_build_128 rfl (lv_at hl 0 rfl) ?_
              refine mr_getR C hw kc_19 28 (by decide) tf_732 ff_732_28 wd_2809 dX19_build_129 (by decide) rfl ?_
              refine lv_iload_n C.1.1 C.1.2.1 dX19_build_132 rfl (lv_at hl 1 rfl) ?_
              obtain ⟨q28, hD⟩ := g_ck hD
              refine mr_iald C hw (by decide) tf_744 q28 dX19_build_133 ?_
              refine lv_iadd C.1.1 C.1.2.1 dX19_build_134 ?_
              obtain ⟨x29, ex29, hD⟩ := g_let hD
              refine W.eq (g2 := F0 m 135 ls (.int x29 :: [])) (by rw [ex29]) ?_
              refine lv_istore (lv' := [(4, .int x29), (0, .ref (ad 732)), (1, .int v1), (2, .int v2)]) C.1.1 C.1.2.1 dX19_build_135 hl (by decide) rfl (fun ls hl => ?_)
              refine lv_goto (tgt := 91) C.1.1 C.1.2.1 dX19_build_137 (by decide) ?_
              exact ih91 v1 v2 x29 M24 L25 _ _ ls hD hw (lv_sub hl [1, 2, 3, 0] rfl)
            · replace hD := g_neg c27 hD
              refine lv_aload_n C.1.1 C.1.2.1 dX19_build_113 rfl (lv_at hl 0 rfl) ?_
              refine lv_bipush (v := 6) C.1.1 C.1.2.1 dX19_build_114 (by decide) ?_
              refine lv_aload_n C.1.1 C.1.2.1 dX19_build_116 rfl (lv_at hl 0 rfl) ?_
              refine mr_getR C hw kc_19 25 (by decide) tf_732 ff_732_25 wd_2806 dX19_build_117 (by decide) rfl ?_
              refine lv_iload_n C.1.1 C.1.2.1 dX19_build_120 rfl (lv_at hl 1 rfl) ?_
              obtain ⟨q30, hD⟩ := g_ck hD
              refine mr_iald C hw (by decide) tf_741 q30 dX19_build_121 ?_
              obtain ⟨r33, M31, L32, h1, hD⟩ := g_b3 hD
              refine md_cvI (As := [.int 6, .int (M24 741 v1.toNatClampNeg)]) (rest := []) C hw (tX19_fail l G ad fu 6 (M24 741 v1.toNatClampNeg) M24 L25 h1) kc_19 (by decide) tf_732 wd_3172 cwX19_fail ⟨Nat.le_of_ble_eq_true rfl, Nat.le_of_ble_eq_true rfl⟩ rfl hl.1 (Nat.le_of_ble_eq_true rfl) dX19_build_122 rfl rfl ⟨Nat.zero_le _, Nat.zero_le _⟩ rfl (fun H locs hw => ?_)
              obtain ⟨z34, hD⟩ := g_zz hD
              exact mr_iret C hr hlocks hw (nz_zz z34) (Option.some.inj hD) dX19_build_125
      unfold fX19_build_i36 at hD
      refine lv_iload_n C.1.1 C.1.2.1 dX19_build_36 rfl (lv_at hl 1 rfl) ?_
      refine lv_aload_n C.1.1 C.1.2.1 dX19_build_37 rfl (lv_at hl 0 rfl) ?_
      refine mr_getI C hw kc_19 24 (by decide) tf_732 wd_2805 dX19_build_38 (by decide) rfl ?_
      refine lv_icmp_ge (tgt := 146) C.1.1 C.1.2.1 dX19_build_41 (by decide) (fun c1 => ?_) (fun c1 => ?_)
      · replace hD := g_pos c1 hD
        refine lv_aload_n C.1.1 C.1.2.1 dX19_build_146 rfl (lv_at hl 0 rfl) ?_
        refine lv_iconst (v := 0) C.1.1 C.1.2.1 dX19_build_147 (by decide) ?_
        obtain ⟨M2, eM2, hD⟩ := g_let hD
        refine mr_putI C hw kc_19 83 (by decide) tf_732 wd_2864 dX19_build_148 (by decide) rfl rfl rfl rfl (fun H locs hw => ?_)
        replace hw : mw_W G ad NF TF FF M2 L H locs := by rw [eM2]; exact hw
        refine lv_aload_n C.1.1 C.1.2.1 dX19_build_151 rfl (lv_at hl 0 rfl) ?_
        refine lv_iconst (v := 0) C.1.1 C.1.2.1 dX19_build_152 (by decide) ?_
        obtain ⟨M3, eM3, hD⟩ := g_let hD
        refine mr_putI C hw kc_19 88 (by decide) tf_732 wd_2869 dX19_build_153 (by decide) rfl rfl rfl rfl (fun H locs hw => ?_)
        replace hw : mw_W G ad NF TF FF M3 L H locs := by rw [eM3]; exact hw
        refine lv_aload_n C.1.1 C.1.2.1 dX19_build_156 rfl (lv_at hl 0 rfl) ?_
        refine lv_iconst (v := 0) C.1.1 C.1.2.1 dX19_build_157 (by decide) ?_
        obtain ⟨M4, eM4, hD⟩ := g_let hD
        refine mr_putI C hw kc_19 91 (by decide) tf_732 wd_2872 dX19_build_158 (by decide) rfl rfl rfl rfl (fun H locs hw => ?_)
        replace hw : mw_W G ad NF TF FF M4 L H locs := by rw [eM4]; exact hw
        refine lv_aload_n C.1.1 C.1.2.1 dX19_build_161 rfl (lv_at hl 0 rfl) ?_
        refine lv_iconst (v := 0) C.1.1 C.1.2.1 dX19_build_162 (by decide) ?_
        obtain ⟨M5, eM5, hD⟩ := g_let hD
        refine mr_putI C hw kc_19 94 (by decide) tf_732 wd_2875 dX19_build_163 (by decide) rfl rfl rfl rfl (fun H locs hw => ?_)
        replace hw : mw_W G ad NF TF FF M5 L H locs := by rw [eM5]; exact hw
        refine lv_aload_n C.1.1 C.1.2.1 dX19_build_166 rfl (lv_at hl 0 rfl) ?_
        refine lv_iconst (v := 0) C.1.1 C.1.2.1 dX19_build_167 (by decide) ?_
        obtain ⟨M6, eM6, hD⟩ := g_let hD
        refine mr_putI C hw kc_19 95 (by decide) tf_732 wd_2876 dX19_build_168 (by decide) rfl rfl rfl rfl (fun H locs hw => ?_)
        replace hw : mw_W G ad NF TF FF M6 L H locs := by rw [eM6]; exact hw
        refine lv_aload_n C.1.1 C.1.2.1 dX19_build_171 rfl (lv_at hl 0 rfl) ?_
        refine lv_iconst (v := 0) C.1.1 C.1.2.1 dX19_build_172 (by decide) ?_
        obtain ⟨M7, eM7, hD⟩ := g_let hD
        refine mr_putI C hw kc_19 96 (by decide) tf_732 wd_2877 dX19_build_173 (by decide) rfl rfl rfl rfl (fun H locs hw => ?_)
        replace hw : mw_W G ad NF TF FF M7 L H locs := by rw [eM7]; exact hw
        refine lv_aload_n C.1.1 C.1.2.1 dX19_build_176 rfl (lv_at hl 0 rfl) ?_
        refine lv_iconst (v := (-1)) C.1.1 C.1.2.1 dX19_build_177 (by decide) ?_
        obtain ⟨M8, eM8, hD⟩ := g_let hD
        refine mr_putI C hw kc_19 97 (by decide) tf_732 wd_2878 dX19_build_178 (by decide) rfl rfl rfl rfl (fun H locs hw => ?_)
        replace hw : mw_W G ad NF TF FF M8 L H locs := by rw [eM8]; exact hw
        refine lv_aload_n C.1.1 C.1.2.1 dX19_build_181 rfl (lv_at hl 0 rfl) ?_
        refine lv_iconst (v := 0) C.1.1 C.1.2.1 dX19_build_182 (by decide) ?_
        obtain ⟨M9, eM9, hD⟩ := g_let hD
        refine mr_putI C hw kc_19 98 (by decide) tf_732 wd_2879 dX19_build_183 (by decide) rfl rfl rfl rfl (fun H locs hw => ?_)
        replace hw : mw_W G ad NF TF FF M9 L H locs := by rw [eM9]; exact hw
        refine lv_aload_n C.1.1 C.1.2.1 dX19_build_186 rfl (lv_at hl 0 rfl) ?_
        refine lv_iconst (v := 0) C.1.1 C.1.2.1 dX19_build_187 (by decide) ?_
        obtain ⟨M10, eM10, hD⟩ := g_let hD
        refine mr_putI C hw kc_19 108 (by decide) tf_732 wd_2889 dX19_build_188 (by decide) rfl rfl rfl rfl (fun H locs hw => ?_)
        replace hw : mw_W G ad NF TF FF M10 L H locs := by rw [eM10]; exact hw
        refine lv_iconst (v := 0) C.1.1 C.1.2.1 dX19_build_191 (by decide) ?_
        refine lv_istore_n (lv' := [(1, .int 0), (0, .ref (ad 732))]) C.1.1 C.1.2.1 dX19_build_192 rfl hl (by decide) rfl (fun ls hl => ?_)
        exact hh193 fu 0 M10 L _ _ ls hD hw (lv_sub hl [1, 0] rfl)
      · replace hD := g_neg c1 hD
        refine lv_aload_n C.1.1 C.1.2.1 dX19_build_44 rfl (lv_at hl 0 rfl) ?_
        refine mr_getR C hw kc_19 76 (by decide) tf_732 ff_732_76 wd_2857 dX19_build_45 (by decide) rfl ?_
        refine lv_aload_n C.1.1 C.1.2.1 dX19_build_48 rfl (lv_at hl 0 rfl) ?_
        refine mr_getR C hw kc_19 27 (by decide) tf_732 ff_732_27 wd_2808 dX19_build_49 (by decide) rfl ?_
        refine lv_iload_n C.1.1 C.1.2.1 dX19_build_52 rfl (lv_at hl 1 rfl) ?_
        obtain ⟨q11, hD⟩ := g_ck hD
        refine mr_iald C hw (by decide) tf_743 q11 dX19_build_53 ?_
        refine lv_aload_n C.1.1 C.1.2.1 dX19_build_54 rfl (lv_at hl 0 rfl) ?_
        refine mr_getR C hw kc_19 26 (by decide) tf_732 ff_732_26 wd_2807 dX19_build_55 (by decide) rfl ?_
        refine lv_iload_n C.1.1 C.1.2.1 dX19_build_58 rfl (lv_at hl 1 rfl) ?_
        obtain ⟨q12, hD⟩ := g_ck hD
        refine mr_iald C hw (by decide) tf_742 q12 dX19_build_59 ?_
        refine lv_iconst (v := 2) C.1.1 C.1.2.1 dX19_build_60 (by decide) ?_
        refine lv_iconst (v := 0) C.1.1 C.1.2.1 dX19_build_61 (by decide) ?_
        obtain ⟨r15, M13, L14, h1, hD⟩ := g_b3 hD
        refine md_cvI (As := [.int (M 743 v1.toNatClampNeg), .int (M 742 v1.toNatClampNeg), .int 2, .int 0]) (rest := []) C hw (tX15_task l G ad fu (M 743 v1.toNatClampNeg) (M 742 v1.toNatClampNeg) 2 0 M L h1) kc_15 (by decide) tf_787 wd_3507 cwX15_task ⟨Nat.le_of_ble_eq_true rfl, Nat.le_of_ble_eq_true rfl⟩ rfl hl.1 (Nat.le_of_ble_eq_true rfl) dX19_build_62 rfl rfl ⟨Nat.zero_le _, Nat.zero_le _⟩ rfl (fun H locs hw => ?_)
        refine lv_istore_n (lv' := [(2, .int r15), (0, .ref (ad 732)), (1, .int v1)]) C.1.1 C.1.2.1 dX19_build_65 rfl hl (by decide) rfl (fun ls hl => ?_)
        refine lv_aload_n C.1.1 C.1.2.1 dX19_build_66 rfl (lv_at hl 1 rfl) ?_
        refine mr_getR C hw kc_19 76 (by decide) tf_732 ff_732_76 wd_2857 dX19_build_67 (by decide) rfl ?_
        refine lv_iload_n C.1.1 C.1.2.1 dX19_build_70 rfl (lv_at hl 0 rfl) ?_
        refine lv_iconst (v := 0) C.1.1 C.1.2.1 dX19_build_71 (by decide) ?_
        refine lv_aload_n C.1.1 C.1.2.1 dX19_build_72 rfl (lv_at hl 1 rfl) ?_
        refine mr_getR C hw kc_19 30 (by decide) tf_732 ff_732_30 wd_2811 dX19_build_73 (by decide) rfl ?_
        refine lv_iload_n C.1.1 C.1.2.1 dX19_build_76 rfl (lv_at hl 2 rfl) ?_
        obtain ⟨q16, hD⟩ := g_ck hD
        refine mr_iald C hw (by decide) tf_746 q16 dX19_build_77 ?_
        refine lv_i2l C.1.1 C.1.2.1 dX19_build_78 rfl ?_
        obtain ⟨r19, M17, L18, h1, hD⟩ := g_b3 hD
        refine md_cvI (As := [.int r15, .int 0, .long ((M13 746 v1.toNatClampNeg).toInt64)]) (rest := []) C hw (tX15_part l G ad fu r15 0 ((M13 746 v1.toNatClampNeg).toInt64) M13 L14 h1) kc_15 (by decide) tf_787 wd_3511 cwX15_part ⟨Nat.le_of_ble_eq_true rfl, Nat.le_of_ble_eq_true rfl⟩ rfl hl.1 (Nat.le_of_ble_eq_true rfl) dX19_build_79 rfl rfl ⟨Nat.zero_le _, Nat.zero_le _⟩ rfl (fun H locs hw => ?_)
        refine lv_istore_n (lv' := [(3, .int r19), (2, .int r15), (0, .ref (ad 732)), (1, .int v1)]) C.1.1 C.1.2.1 dX19_build_82 rfl hl (by decide) rfl (fun ls hl => ?_)
        refine lv_aload_n C.1.1 C.1.2.1 dX19_build_83 rfl (lv_at hl 2 rfl) ?_
        refine mr_getR C hw kc_19 29 (by decide) tf_732 ff_732_29 wd_2810 dX19_build_84 (by decide) rfl ?_
        refine lv_iload_n C.1.1 C.1.2.1 dX19_build_87 rfl (lv_at hl 3 rfl) ?_
        obtain ⟨q20, hD⟩ := g_ck hD
        refine mr_iald C hw (by decide) tf_745 q20 dX19_build_88 ?_
        obtain ⟨x21, ex21, hD⟩ := g_let hD
        refine W.eq (g2 := F0 m 89 ls (.int x21 :: [])) (by rw [ex21]) ?_
        refine lv_istore (lv' := [(4, .int x21), (3, .int r19), (2, .int r15), (0, .ref (ad 732)), (1, .int v1)]) C.1.1 C.1.2.1 dX19_build_89 hl (by decide) rfl (fun ls hl => ?_)
        exact hh91 fu v1 r15 x21 M17 L18 _ _ ls hD hw (lv_sub hl [3, 4, 2, 0] rfl)
  unfold DX19_build at hD
  refine lv_aload_n C.1.1 C.1.2.1 dX19_build_0 rfl (lv_at hl 0 rfl) ?_
  refine mr_getR C hw kc_19 76 (by decide) tf_732 ff_732_76 wd_2857 dX19_build_1 (by decide) rfl ?_
  refine lv_aload_n C.1.1 C.1.2.1 dX19_build_4 rfl (lv_at hl 0 rfl) ?_
  refine mr_getI C hw kc_19 19 (by decide) tf_732 wd_2800 dX19_build_5 (by decide) rfl ?_
  obtain ⟨M61, L62, h1, hD⟩ := g_b2 hD
  refine md_cvV (As := [.int (M 732 19)]) (rest := []) C hw (tX15_anew l G ad fu (M 732 19) M L h1) kc_15 (by decide) tf_787 wd_3495 cwX15_anew ⟨Nat.le_of_ble_eq_true rfl, Nat.le_of_ble_eq_true rfl⟩ rfl hl.1 (Nat.le_of_ble_eq_true rfl) dX19_build_8 rfl rfl ⟨Nat.zero_le _, Nat.zero_le _⟩ rfl (fun H locs hw => ?_)
  refine lv_aload_n C.1.1 C.1.2.1 dX19_build_11 rfl (lv_at hl 0 rfl) ?_
  refine mr_getR C hw kc_19 77 (by decide) tf_732 ff_732_77 wd_2858 dX19_build_12 (by decide) rfl ?_
  refine lv_aload_n C.1.1 C.1.2.1 dX19_build_15 rfl (lv_at hl 0 rfl) ?_
  refine mr_getI C hw kc_19 19 (by decide) tf_732 wd_2800 dX19_build_16 (by decide) rfl ?_
  refine lv_iconst (v := 1) C.1.1 C.1.2.1 dX19_build_19 (by decide) ?_
  refine lv_iadd C.1.1 C.1.2.1 dX19_build_20 ?_
  obtain ⟨M63, L64, h1, hD⟩ := g_b2 hD
  refine md_cvV (As := [.int ((M61 732 19) + 1)]) (rest := []) C hw (tX12_nodes l G ad fu ((M61 732 19) + 1) M61 L62 h1) kc_12 (by decide) tf_821 wd_3499 cwX12_nodes ⟨Nat.le_of_ble_eq_true rfl, Nat.le_of_ble_eq_true rfl⟩ rfl hl.1 (Nat.le_of_ble_eq_true rfl) dX19_build_21 rfl rfl ⟨Nat.zero_le _, Nat.zero_le _⟩ rfl (fun H locs hw => ?_)
  refine lv_aload_n C.1.1 C.1.2.1 dX19_build_24 rfl (lv_at hl 0 rfl) ?_
  refine mr_getR C hw kc_19 79 (by decide) tf_732 ff_732_79 wd_2860 dX19_build_25 (by decide) rfl ?_
  refine lv_sipush (v := 4095) C.1.1 C.1.2.1 dX19_build_28 (by decide) ?_
  obtain ⟨M65, L66, h1, hD⟩ := g_b2 hD
  refine md_cvV (As := [.int 4095]) (rest := []) C hw (tX17_anew l G ad fu 4095 M63 L64 h1) kc_17 (by decide) tf_869 wd_3503 cwX17_anew ⟨Nat.le_of_ble_eq_true rfl, Nat.le_of_ble_eq_true rfl⟩ rfl hl.1 (Nat.le_of_ble_eq_true rfl) dX19_build_31 rfl rfl ⟨Nat.zero_le _, Nat.zero_le _⟩ rfl (fun H locs hw => ?_)
  refine lv_iconst (v := 0) C.1.1 C.1.2.1 dX19_build_34 (by decide) ?_
  refine lv_istore_n (lv' := [(1, .int 0), (0, .ref (ad 732))]) C.1.1 C.1.2.1 dX19_build_35 rfl hl (by decide) rfl (fun ls hl => ?_)
  exact hh36 fu 0 M65 L66 _ _ ls hD hw (lv_sub hl [1, 0] rfl)

theorem dX19_read_0 : decode cX19_read 0 = .ok (.iconst 0, 1) := by decide +kernel
theorem dX19_read_1 : decode cX19_read 1 = .ok (.istore_n 1, 1) := by decide +kernel
theorem dX19_read_2 : decode cX19_read 2 = .ok (.iload_n 1, 1) := by decide +kernel
theorem dX19_read_3 : decode cX19_read 3 = .ok (.aload_n 0, 1) := by decide +kernel
theorem dX19_read_4 : decode cX19_read 4 = .ok (.getfield 296, 3) := by decide +kernel
theorem dX19_read_7 : decode cX19_read 7 = .ok (.if_icmp .ge 77, 3) := by decide +kernel
theorem dX19_read_10 : decode cX19_read 10 = .ok (.aload_n 0, 1) := by decide +kernel
theorem dX19_read_11 : decode cX19_read 11 = .ok (.iload_n 1, 1) := by decide +kernel
theorem dX19_read_12 : decode cX19_read 12 = .ok (.putfield 308, 3) := by decide +kernel
theorem dX19_read_15 : decode cX19_read 15 = .ok (.aload_n 0, 1) := by decide +kernel
theorem dX19_read_16 : decode cX19_read 16 = .ok (.getfield 308, 3) := by decide +kernel
theorem dX19_read_19 : decode cX19_read 19 = .ok (.aload_n 0, 1) := by decide +kernel
theorem dX19_read_20 : decode cX19_read 20 = .ok (.getfield 296, 3) := by decide +kernel
theorem dX19_read_23 : decode cX19_read 23 = .ok (.if_icmp .ge 30, 3) := by decide +kernel
theorem dX19_read_26 : decode cX19_read 26 = .ok (.aload_n 0, 1) := by decide +kernel
theorem dX19_read_27 : decode cX19_read 27 = .ok (.getfield 7, 3) := by decide +kernel
theorem dX19_read_30 : decode cX19_read 30 = .ok (.aload_n 0, 1) := by decide +kernel
theorem dX19_read_31 : decode cX19_read 31 = .ok (.getfield 308, 3) := by decide +kernel
theorem dX19_read_34 : decode cX19_read 34 = .ok (.iaload, 1) := by decide +kernel
theorem dX19_read_35 : decode cX19_read 35 = .ok (.bipush 10, 2) := by decide +kernel
theorem dX19_read_37 : decode cX19_read 37 = .ok (.if_icmp .eq 16, 3) := by decide +kernel
theorem dX19_read_40 : decode cX19_read 40 = .ok (.aload_n 0, 1) := by decide +kernel
theorem dX19_read_41 : decode cX19_read 41 = .ok (.dup, 1) := by decide +kernel
theorem dX19_read_42 : decode cX19_read 42 = .ok (.getfield 308, 3) := by decide +kernel
theorem dX19_read_45 : decode cX19_read 45 = .ok (.iconst 1, 1) := by decide +kernel
theorem dX19_read_46 : decode cX19_read 46 = .ok (.iadd, 1) := by decide +kernel
theorem dX19_read_47 : decode cX19_read 47 = .ok (.putfield 308, 3) := by decide +kernel
theorem dX19_read_50 : decode cX19_read 50 = .ok (.goto (-35), 3) := by decide +kernel
theorem dX19_read_53 : decode cX19_read 53 = .ok (.aload_n 0, 1) := by decide +kernel
theorem dX19_read_54 : decode cX19_read 54 = .ok (.iload_n 1, 1) := by decide +kernel
theorem dX19_read_55 : decode cX19_read 55 = .ok (.putfield 305, 3) := by decide +kernel
theorem dX19_read_58 : decode cX19_read 58 = .ok (.aload_n 0, 1) := by decide +kernel
theorem dX19_read_59 : decode cX19_read 59 = .ok (.invokevirtual 317, 3) := by decide +kernel
theorem dX19_read_62 : decode cX19_read 62 = .ok (.ifCond .eq 12, 3) := by decide +kernel
theorem dX19_read_65 : decode cX19_read 65 = .ok (.aload_n 0, 1) := by decide +kernel
theorem dX19_read_66 : decode cX19_read 66 = .ok (.invokevirtual 624, 3) := by decide +kernel
theorem dX19_read_69 : decode cX19_read 69 = .ok (.ifCond .ne 5, 3) := by decide +kernel
theorem dX19_read_72 : decode cX19_read 72 = .ok (.iconst 0, 1) := by decide +kernel
theorem dX19_read_73 : decode cX19_read 73 = .ok (.ireturn, 1) := by decide +kernel
theorem dX19_read_74 : decode cX19_read 74 = .ok (.aload_n 0, 1) := by decide +kernel
theorem dX19_read_75 : decode cX19_read 75 = .ok (.getfield 308, 3) := by decide +kernel
theorem dX19_read_78 : decode cX19_read 78 = .ok (.iconst 1, 1) := by decide +kernel
theorem dX19_read_79 : decode cX19_read 79 = .ok (.iadd, 1) := by decide +kernel
theorem dX19_read_80 : decode cX19_read 80 = .ok (.istore_n 1, 1) := by decide +kernel
theorem dX19_read_81 : decode cX19_read 81 = .ok (.goto (-79), 3) := by decide +kernel
theorem dX19_read_84 : decode cX19_read 84 = .ok (.aload_n 0, 1) := by decide +kernel
theorem dX19_read_85 : decode cX19_read 85 = .ok (.getfield 435, 3) := by decide +kernel
theorem dX19_read_88 : decode cX19_read 88 = .ok (.ifCond .gt 15, 3) := by decide +kernel
theorem dX19_read_91 : decode cX19_read 91 = .ok (.aload_n 0, 1) := by decide +kernel
theorem dX19_read_92 : decode cX19_read 92 = .ok (.iconst 4, 1) := by decide +kernel
theorem dX19_read_93 : decode cX19_read 93 = .ok (.aload_n 0, 1) := by decide +kernel
theorem dX19_read_94 : decode cX19_read 94 = .ok (.getfield 296, 3) := by decide +kernel
theorem dX19_read_97 : decode cX19_read 97 = .ok (.invokevirtual 321, 3) := by decide +kernel
theorem dX19_read_100 : decode cX19_read 100 = .ok (.ifCond .eq 7, 3) := by decide +kernel
theorem dX19_read_103 : decode cX19_read 103 = .ok (.iconst 1, 1) := by decide +kernel
theorem dX19_read_104 : decode cX19_read 104 = .ok (.goto 4, 3) := by decide +kernel
theorem dX19_read_107 : decode cX19_read 107 = .ok (.iconst 0, 1) := by decide +kernel
theorem dX19_read_108 : decode cX19_read 108 = .ok (.ireturn, 1) := by decide +kernel
theorem cwX19_read : mw_cwV yX19_read cX19_read 2 ((some .boolean)) 0 := ⟨⟨wd_13, wd_3144, by decide +kernel⟩, wd_3143, sl_148⟩
set_option maxHeartbeats 4000000 in
set_option maxRecDepth 100000 in
theorem tX19_read (l : Launch) (G : mwG) (ad : Nat → Nat) (fu : Nat) (M : mwM) (L : mwL) {r0 : Int32} {M0 : mwM} {L0 : mwL} (hD : DX19_read fu M L = some (r0, M0, L0)) : Met l yX19_read (Cond.code yX19_read cX19_read 2 ((some .boolean)) :: GT) ({ frames := 6, cells := 0, slots := 0, locals := 139 }) (mw_Pre G ad NF TF FF M L [.ref (ad 732)]) (mw_Qi G ad NF TF FF (mw_eqI r0 M0 L0)) 0 0 (mw_fr G) := by
  refine mw_enter (by decide) (Nat.le_of_ble_eq_true rfl) ?_
  intro p e s m below meth c ls C hr hlocks hnm hw hl
  have hl : lv_has ls 2 [(0, .ref (ad 732))] := hl
  have hb108 : ∀ (s0 : Int32) (M : mwM) (L : mwL) (H : Heap) (locs : List Loc) (ls : Array Slot), fX19_read_b108 fu s0 M L = some (r0, M0, L0) → mw_W G ad NF TF FF M L H locs → lv_has ls 2 [] → W p l e ({ frames := 6, cells := 0, slots := 0, locals := 139 }) s m [.ref (ad 732)].toArray below meth c H locs 0 0 (MQ below (mw_Qi G ad NF TF FF (mw_eqI r0 M0 L0)) [.ref (ad 732)].toArray s 0 0 (mw_fr G)) (F0 m 108 ls [.int s0]) := by
    intro s0 M L H locs ls hD hw hl
    unfold fX19_read_b108 at hD
    obtain ⟨z23, hD⟩ := g_zz hD
    exact mr_iret C hr hlocks hw (nz_zz z23) (Option.some.inj hD) dX19_read_108
  have hb103 : ∀ (M : mwM) (L : mwL) (H : Heap) (locs : List Loc) (ls : Array Slot), fX19_read_b103 fu M L = some (r0, M0, L0) → mw_W G ad NF TF FF M L H locs → lv_has ls 2 [] → W p l e ({ frames := 6, cells := 0, slots := 0, locals := 139 }) s m [.ref (ad 732)].toArray below meth c H locs 0 0 (MQ below (mw_Qi G ad NF TF FF (mw_eqI r0 M0 L0)) [.ref (ad 732)].toArray s 0 0 (mw_fr G)) (F0 m 103 ls []) := by
    intro M L H locs ls hD hw hl
    unfold fX19_read_b103 at hD
    refine lv_iconst (v := 1) C.1.1 C.1.2.1 dX19_read_103 (by decide) ?_
    refine lv_goto (tgt := 108) C.1.1 C.1.2.1 dX19_read_104 (by decide) ?_
    exact hb108 1 M L _ _ ls hD hw (lv_sub hl [] rfl)
  have hh2 : ∀ (f : Nat) (v1 : Int32) (M : mwM) (L : mwL) (H : Heap) (locs : List Loc) (ls : Array Slot), fX19_read_h2 fu f (v1, M, L) = some (r0, M0, L0) → mw_W G ad NF TF FF M L H locs → lv_has ls 2 [(0, .ref (ad 732)), (1, .int v1)] → W p l e ({ frames := 6, cells := 0, slots := 0, locals := 139 }) s m [.ref (ad 732)].toArray below meth c H locs 0 0 (MQ below (mw_Qi G ad NF TF FF (mw_eqI r0 M0 L0)) [.ref (ad 732)].toArray s 0 0 (mw_fr G)) (F0 m 2 ls []) := by
    intro f
    induction f with
    | zero => intro v1 M L H locs ls hD; cases hD
    | succ f2 ih2 =>
      intro v1 M L H locs ls hD hw hl
      replace hD : fX19_read_i2 fu (fX19_read_h2 fu f2) v1 M L = some (r0, M0, L0) := hD
      have hb74 : ∀ (M : mwM) (L : mwL) (H : Heap) (locs : List Loc) (ls : Array Slot), fX19_read_b74 fu (fX19_read_h2 fu f2) M L = some (r0, M0, L0) → mw_W G ad NF TF FF M L H locs → lv_has ls 2 [(0, .ref (ad 732))] → W p l e ({ frames := 6, cells := 0, slots := 0, locals := 139 }) s m [.ref (ad 732)].toArray below meth c H locs 0 0 (MQ below (mw_Qi G ad NF TF FF (mw_eqI r0 M0 L0)) [.ref (ad 732)].toArray s 0 0 (mw_fr G)) (F0 m 74 ls []) := by
        intro M L H locs ls hD hw hl
        unfold fX19_read_b74 at hD
        refine lv_aload_n C.1.1 C.1.2.1 dX19_read_74 rfl (lv_at hl 0 rfl) ?_
        refine mr_getI C hw kc_19 7 (by decide) tf_732 wd_2788 dX19_read_75 (by decide) rfl ?_
        refine lv_iconst (v := 1) C.1.1 C.1.2.1 dX19_read_78 (by decide) ?_
        refine lv_iadd C.1.1 C.1.2.1 dX19_read_79 ?_
        obtain ⟨x22, ex22, hD⟩ := g_let hD
        refine W.eq (g2 := F0 m 80 ls (.int x22 :: [])) (by rw [ex22]) ?_
        refine lv_istore_n (lv' := [(1, .int x22), (0, .ref (ad 732))]) C.1.1 C.1.2.1 dX19_read_80 rfl hl (by decide) rfl (fun ls hl => ?_)
        refine lv_goto (tgt := 2) C.1.1 C.1.2.1 dX19_read_81 (by decide) ?_
        exact ih2 x22 M L _ _ ls hD hw (lv_sub hl [1, 0] rfl)
      have hb53 : ∀ (v1 : Int32) (M : mwM) (L : mwL) (H : Heap) (locs : List Loc) (ls : Array Slot), fX19_read_b53 fu (fX19_read_h2 fu f2) v1 M L = some (r0, M0, L0) → mw_W G ad NF TF FF M L H locs → lv_has ls 2 [(0, .ref (ad 732)), (1, .int v1)] → W p l e ({ frames := 6, cells := 0, slots := 0, locals := 139 }) s m [.ref (ad 732)].toArray below meth c H locs 0 0 (MQ below (mw_Qi G ad NF TF FF (mw_eqI r0 M0 L0)) [.ref (ad 732)].toArray s 0 0 (mw_fr G)) (F0 m 53 ls []) := by
        intro v1 M L H locs ls hD hw hl
        unfold fX19_read_b53 at hD
        refine lv_aload_n C.1.1 C.1.2.1 dX19_read_53 rfl (lv_at hl 0 rfl) ?_
        refine lv_iload_n C.1.1 C.1.2.1 dX19_read_54 rfl (lv_at hl 1 rfl) ?_
        obtain ⟨M12, eM12, hD⟩ := g_let hD
        refine mr_putI C hw kc_19 6 (by decide) tf_732 wd_2787 dX19_read_55 (by decide) rfl rfl rfl rfl (fun H locs hw => ?_)
        replace hw : mw_W G ad NF TF FF M12 L H locs := by rw [eM12]; exact hw
        refine lv_aload_n C.1.1 C.1.2.1 dX19_read_58 rfl (lv_at hl 0 rfl) ?_
        obtain ⟨r16, M13, L14, h1, hD⟩ := g_b3 hD
        refine md_cvI (As := []) (rest := []) C hw (tX19_next l G ad fu M12 L h1) kc_19 (by decide) tf_732 wd_3145 cwX19_next ⟨Nat.le_of_ble_eq_true rfl, Nat.le_of_ble_eq_true rfl⟩ rfl hl.1 (Nat.le_of_ble_eq_true rfl) dX19_read_59 rfl rfl ⟨Nat.zero_le _, Nat.zero_le _⟩ rfl (fun H locs hw => ?_)
        refine lv_if_eq (tgt := 74) C.1.1 C.1.2.1 dX19_read_62 (by decide) (fun c17 => ?_) (fun c17 => ?_)
        · replace hD := g_pos c17 hD
          exact hb74 M13 L14 _ _ ls hD hw (lv_sub hl [0] rfl)
        · replace hD := g_neg c17 hD
          refine lv_aload_n C.1.1 C.1.2.1 dX19_read_65 rfl (lv_at hl 0 rfl) ?_
          obtain ⟨r20, M18, L19, h1, hD⟩ := g_b3 hD
          refine md_cvI (As := []) (rest := []) C hw (tX19_line l G ad fu M13 L14 h1) kc_19 (by decide) tf_732 wd_3149 cwX19_line ⟨Nat.le_of_ble_eq_true rfl, Nat.le_of_ble_eq_true rfl⟩ rfl hl.1 (Nat.le_of_ble_eq_true rfl) dX19_read_66 rfl rfl ⟨Nat.zero_le _, Nat.zero_le _⟩ rfl (fun H locs hw => ?_)
          refine lv_if_ne (tgt := 74) C.1.1 C.1.2.1 dX19_read_69 (by decide) (fun c21 => ?_) (fun c21 => ?_)
          · replace hD := g_neg c21 hD
            exact hb74 M18 L19 _ _ ls hD hw (lv_sub hl [0] rfl)
          · replace hD := g_pos c21 hD
            refine lv_iconst (v := 0) C.1.1 C.1.2.1 dX19_read_72 (by decide) ?_
            exact mr_iret C hr hlocks hw (by decide +kernel) (Option.some.inj hD) dX19_read_73
      have hh15 : ∀ (f : Nat) (v1 : Int32) (M : mwM) (L : mwL) (H : Heap) (locs : List Loc) (ls : Array Slot), fX19_read_h15 fu (fX19_read_h2 fu f2) f (v1, M, L) = some (r0, M0, L0) → mw_W G ad NF TF FF M L H locs → lv_has ls 2 [(0, .ref (ad 732)), (1, .int v1)] → W p l e ({ frames := 6, cells := 0, slots := 0, locals := 139 }) s m [.ref (ad 732)].toArray below meth c H locs 0 0 (MQ below (mw_Qi G ad NF TF FF (mw_eqI r0 M0 L0)) [.ref (ad 732)].toArray s 0 0 (mw_fr G)) (F0 m 15 ls []) := by
        intro f
        induction f with
        | zero => intro v1 M L H locs ls hD; cases hD
        | succ f15 ih15 =>
          intro v1 M L H locs ls hD hw hl
          replace hD : fX19_read_i15 fu (fX19_read_h2 fu f2) (fX19_read_h15 fu (fX19_read_h2 fu f2) f15) v1 M L = some (r0, M0, L0) := hD
          unfold fX19_read_i15 at hD
          refine lv_aload_n C.1.1 C.1.2.1 dX19_read_15 rfl (lv_at hl 0 rfl) ?_
          refine mr_getI C hw kc_19 7 (by decide) tf_732 wd_2788 dX19_read_16 (by decide) rfl ?_
          refine lv_aload_n C.1.1 C.1.2.1 dX19_read_19 rfl (lv_at hl 0 rfl) ?_
          refine mr_getI C hw kc_19 2 (by decide) tf_732 wd_2783 dX19_read_20 (by decide) rfl ?_
          refine lv_icmp_ge (tgt := 53) C.1.1 C.1.2.1 dX19_read_23 (by decide) (fun c8 => ?_) (fun c8 => ?_)
          · replace hD := g_pos c8 hD
            exact hb53 v1 M L _ _ ls hD hw (lv_sub hl [0, 1] rfl)
          · replace hD := g_neg c8 hD
            refine lv_aload_n C.1.1 C.1.2.1 dX19_read_26 rfl (lv_at hl 0 rfl) ?_
            refine mr_getR C hw kc_19 1 (by decide) tf_732 ff_732_1 wd_2782 dX19_read_27 (by decide) rfl ?_
            refine lv_aload_n C.1.1 C.1.2.1 dX19_read_30 rfl (lv_at hl 0 rfl) ?_
            refine mr_getI C hw kc_19 7 (by decide) tf_732 wd_2788 dX19_read_31 (by decide) rfl ?_
            obtain ⟨q9, hD⟩ := g_ck hD
            refine mr_iald C hw (by decide) tf_733 q9 dX19_read_34 ?_
            refine lv_bipush (v := 10) C.1.1 C.1.2.1 dX19_read_35 (by decide) ?_
            refine lv_icmp_eq (tgt := 53) C.1.1 C.1.2.1 dX19_read_37 (by decide) (fun c10 => ?_) (fun c10 => ?_)
            · replace hD := g_pos c10 hD
              exact hb53 v1 M L _ _ ls hD hw (lv_sub hl [0, 1] rfl)
            · replace hD := g_neg c10 hD
              refine lv_aload_n C.1.1 C.1.2.1 dX19_read_40 rfl (lv_at hl 0 rfl) ?_
              refine lv_dup C.1.1 C.1.2.1 dX19_read_41 rfl ?_
              refine mr_getI C hw kc_19 7 (by decide) tf_732 wd_2788 dX19_read_42 (by decide) rfl ?_
              refine lv_iconst (v := 1) C.1.1 C.1.2.1 dX19_read_45 (by decide) ?_
              refine lv_iadd C.1.1 C.1.2.1 dX19_read_46 ?_
              obtain ⟨M11, eM11, hD⟩ := g_let hD
              refine mr_putI C hw kc_19 7 (by decide) tf_732 wd_2788 dX19_read_47 (by decide) rfl rfl rfl rfl (fun H locs hw => ?_)
              replace hw : mw_W G ad NF TF FF M11 L H locs := by rw [eM11]; exact hw
              refine lv_goto (tgt := 15) C.1.1 C.1.2.1 dX19_read_50 (by decide) ?_
              exact ih15 v1 M11 L _ _ ls hD hw (lv_sub hl [0, 1] rfl)
      unfold fX19_read_i2 at hD
      refine lv_iload_n C.1.1 C.1.2.1 dX19_read_2 rfl (lv_at hl 1 rfl) ?_
      refine lv_aload_n C.1.1 C.1.2.1 dX19_read_3 rfl (lv_at hl 0 rfl) ?_
      refine mr_getI C hw kc_19 2 (by decide) tf_732 wd_2783 dX19_read_4 (by decide) rfl ?_
      refine lv_icmp_ge (tgt := 84) C.1.1 C.1.2.1 dX19_read_7 (by decide) (fun c1 => ?_) (fun c1 => ?_)
      · replace hD := g_pos c1 hD
        refine lv_aload_n C.1.1 C.1.2.1 dX19_read_84 rfl (lv_at hl 0 rfl) ?_
        refine mr_getI C hw kc_19 19 (by decide) tf_732 wd_2800 dX19_read_85 (by decide) rfl ?_
        refine lv_if_gt (tgt := 103) C.1.1 C.1.2.1 dX19_read_88 (by decide) (fun c2 => ?_) (fun c2 => ?_)
        · replace hD := g_pos c2 hD
          exact hb103 M L _ _ ls hD hw (lv_sub hl [] rfl)
        · replace hD := g_neg c2 hD
          refine lv_aload_n C.1.1 C.1.2.1 dX19_read_91 rfl (lv_at hl 0 rfl) ?_
          refine lv_iconst (v := 4) C.1.1 C.1.2.1 dX19_read_92 (by decide) ?_
          refine lv_aload_n C.1.1 C.1.2.1 dX19_read_93 rfl (lv_at hl 0 rfl) ?_
          refine mr_getI C hw kc_19 2 (by decide) tf_732 wd_2783 dX19_read_94 (by decide) rfl ?_
          obtain ⟨r5, M3, L4, h1, hD⟩ := g_b3 hD
          refine md_cvI (As := [.int 4, .int (M 732 2)]) (rest := []) C hw (tX19_fail l G ad fu 4 (M 732 2) M L h1) kc_19 (by decide) tf_732 wd_3172 cwX19_fail ⟨Nat.le_of_ble_eq_true rfl, Nat.le_of_ble_eq_true rfl⟩ rfl hl.1 (Nat.le_of_ble_eq_true rfl) dX19_read_97 rfl rfl ⟨Nat.zero_le _, Nat.zero_le _⟩ rfl (fun H locs hw => ?_)
          refine lv_if_eq (tgt := 107) C.1.1 C.1.2.1 dX19_read_100 (by decide) (fun c6 => ?_) (fun c6 => ?_)
          · replace hD := g_pos c6 hD
            refine lv_iconst (v := 0) C.1.1 C.1.2.1 dX19_read_107 (by decide) ?_
            exact hb108 0 M3 L4 _ _ ls hD hw (lv_sub hl [] rfl)
          · replace hD := g_neg c6 hD
            exact hb103 M3 L4 _ _ ls hD hw (lv_sub hl [] rfl)
      · replace hD := g_neg c1 hD
        refine lv_aload_n C.1.1 C.1.2.1 dX19_read_10 rfl (lv_at hl 0 rfl) ?_
        refine lv_iload_n C.1.1 C.1.2.1 dX19_read_11 rfl (lv_at hl 1 rfl) ?_
        obtain ⟨M7, eM7, hD⟩ := g_let hD
        refine mr_putI C hw kc_19 7 (by decide) tf_732 wd_2788 dX19_read_12 (by decide) rfl rfl rfl rfl (fun H locs hw => ?_)
        replace hw : mw_W G ad NF TF FF M7 L H locs := by rw [eM7]; exact hw
        exact hh15 fu v1 M7 L _ _ ls hD hw (lv_sub hl [0, 1] rfl)
  unfold DX19_read at hD
  refine lv_iconst (v := 0) C.1.1 C.1.2.1 dX19_read_0 (by decide) ?_
  refine lv_istore_n (lv' := [(1, .int 0), (0, .ref (ad 732))]) C.1.1 C.1.2.1 dX19_read_1 rfl hl (by decide) rfl (fun ls hl => ?_)
  exact hh2 fu 0 M L _ _ ls hD hw (lv_sub hl [1, 0] rfl)
