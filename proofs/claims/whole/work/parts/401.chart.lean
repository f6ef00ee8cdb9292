theorem dX2_aimAt_0 : decode cX2_aimAt 0 = .ok (.aload_n 0, 1) := by decide +kernel
theorem dX2_aimAt_1 : decode cX2_aimAt 1 = .ok (.getfield 13, 3) := by decide +kernel
theorem dX2_aimAt_4 : decode cX2_aimAt 4 = .ok (.iconst 1, 1) := by decide +kernel
theorem dX2_aimAt_5 : decode cX2_aimAt 5 = .ok (.aaload, 1) := by decide +kernel
theorem dX2_aimAt_6 : decode cX2_aimAt 6 = .ok (.iload_n 1, 1) := by decide +kernel
theorem dX2_aimAt_7 : decode cX2_aimAt 7 = .ok (.iaload, 1) := by decide +kernel
theorem dX2_aimAt_8 : decode cX2_aimAt 8 = .ok (.iconst 2, 1) := by decide +kernel
theorem dX2_aimAt_9 : decode cX2_aimAt 9 = .ok (.if_icmp .lt 7, 3) := by decide +kernel
theorem dX2_aimAt_12 : decode cX2_aimAt 12 = .ok (.iconst 1, 1) := by decide +kernel
theorem dX2_aimAt_13 : decode cX2_aimAt 13 = .ok (.goto 4, 3) := by decide +kernel
theorem dX2_aimAt_16 : decode cX2_aimAt 16 = .ok (.iconst 0, 1) := by decide +kernel
theorem dX2_aimAt_17 : decode cX2_aimAt 17 = .ok (.istore_n 3, 1) := by decide +kernel
theorem dX2_aimAt_18 : decode cX2_aimAt 18 = .ok (.iload_n 3, 1) := by decide +kernel
theorem dX2_aimAt_19 : decode cX2_aimAt 19 = .ok (.ifCond .eq 14, 3) := by decide +kernel
theorem dX2_aimAt_22 : decode cX2_aimAt 22 = .ok (.aload_n 0, 1) := by decide +kernel
theorem dX2_aimAt_23 : decode cX2_aimAt 23 = .ok (.getfield 13, 3) := by decide +kernel
theorem dX2_aimAt_26 : decode cX2_aimAt 26 = .ok (.iconst 0, 1) := by decide +kernel
theorem dX2_aimAt_27 : decode cX2_aimAt 27 = .ok (.aaload, 1) := by decide +kernel
theorem dX2_aimAt_28 : decode cX2_aimAt 28 = .ok (.iload_n 1, 1) := by decide +kernel
theorem dX2_aimAt_29 : decode cX2_aimAt 29 = .ok (.iaload, 1) := by decide +kernel
theorem dX2_aimAt_30 : decode cX2_aimAt 30 = .ok (.goto 4, 3) := by decide +kernel
theorem dX2_aimAt_33 : decode cX2_aimAt 33 = .ok (.iload_n 1, 1) := by decide +kernel
theorem dX2_aimAt_34 : decode cX2_aimAt 34 = .ok (.istore 4, 2) := by decide +kernel
theorem dX2_aimAt_36 : decode cX2_aimAt 36 = .ok (.iload 4, 2) := by decide +kernel
theorem dX2_aimAt_38 : decode cX2_aimAt 38 = .ok (.istore 5, 2) := by decide +kernel
theorem dX2_aimAt_40 : decode cX2_aimAt 40 = .ok (.iconst 0, 1) := by decide +kernel
theorem dX2_aimAt_41 : decode cX2_aimAt 41 = .ok (.istore 6, 2) := by decide +kernel
theorem dX2_aimAt_43 : decode cX2_aimAt 43 = .ok (.iload 6, 2) := by decide +kernel
theorem dX2_aimAt_45 : decode cX2_aimAt 45 = .ok (.bipush 40, 2) := by decide +kernel
theorem dX2_aimAt_47 : decode cX2_aimAt 47 = .ok (.if_icmp .gt 76, 3) := by decide +kernel
theorem dX2_aimAt_50 : decode cX2_aimAt 50 = .ok (.iload 5, 2) := by decide +kernel
theorem dX2_aimAt_52 : decode cX2_aimAt 52 = .ok (.iload_n 2, 1) := by decide +kernel
theorem dX2_aimAt_53 : decode cX2_aimAt 53 = .ok (.if_icmp .eq 70, 3) := by decide +kernel
theorem dX2_aimAt_56 : decode cX2_aimAt 56 = .ok (.iload 5, 2) := by decide +kernel
theorem dX2_aimAt_58 : decode cX2_aimAt 58 = .ok (.ifCond .eq 65, 3) := by decide +kernel
theorem dX2_aimAt_61 : decode cX2_aimAt 61 = .ok (.aload_n 0, 1) := by decide +kernel
theorem dX2_aimAt_62 : decode cX2_aimAt 62 = .ok (.getfield 13, 3) := by decide +kernel
theorem dX2_aimAt_65 : decode cX2_aimAt 65 = .ok (.iconst 0, 1) := by decide +kernel
theorem dX2_aimAt_66 : decode cX2_aimAt 66 = .ok (.aaload, 1) := by decide +kernel
theorem dX2_aimAt_67 : decode cX2_aimAt 67 = .ok (.iload 5, 2) := by decide +kernel
theorem dX2_aimAt_69 : decode cX2_aimAt 69 = .ok (.iaload, 1) := by decide +kernel
theorem dX2_aimAt_70 : decode cX2_aimAt 70 = .ok (.istore 7, 2) := by decide +kernel
theorem dX2_aimAt_72 : decode cX2_aimAt 72 = .ok (.aload_n 0, 1) := by decide +kernel
theorem dX2_aimAt_73 : decode cX2_aimAt 73 = .ok (.getfield 13, 3) := by decide +kernel
theorem dX2_aimAt_76 : decode cX2_aimAt 76 = .ok (.iconst 1, 1) := by decide +kernel
theorem dX2_aimAt_77 : decode cX2_aimAt 77 = .ok (.aaload, 1) := by decide +kernel
theorem dX2_aimAt_78 : decode cX2_aimAt 78 = .ok (.iload 7, 2) := by decide +kernel
theorem dX2_aimAt_80 : decode cX2_aimAt 80 = .ok (.iaload, 1) := by decide +kernel
theorem dX2_aimAt_81 : decode cX2_aimAt 81 = .ok (.ifCond .ne 32, 3) := by decide +kernel
theorem dX2_aimAt_84 : decode cX2_aimAt 84 = .ok (.aload_n 0, 1) := by decide +kernel
theorem dX2_aimAt_85 : decode cX2_aimAt 85 = .ok (.getfield 13, 3) := by decide +kernel
theorem dX2_aimAt_88 : decode cX2_aimAt 88 = .ok (.bipush 10, 2) := by decide +kernel
theorem dX2_aimAt_90 : decode cX2_aimAt 90 = .ok (.aaload, 1) := by decide +kernel
theorem dX2_aimAt_91 : decode cX2_aimAt 91 = .ok (.iload 7, 2) := by decide +kernel
theorem dX2_aimAt_93 : decode cX2_aimAt 93 = .ok (.iaload, 1) := by decide +kernel
theorem dX2_aimAt_94 : decode cX2_aimAt 94 = .ok (.ifCond .eq 19, 3) := by decide +kernel
theorem dX2_aimAt_97 : decode cX2_aimAt 97 = .ok (.aload_n 0, 1) := by decide +kernel
theorem dX2_aimAt_98 : decode cX2_aimAt 98 = .ok (.getfield 13, 3) := by decide +kernel
theorem dX2_aimAt_101 : decode cX2_aimAt 101 = .ok (.bipush 10, 2) := by decide +kernel
theorem dX2_aimAt_103 : decode cX2_aimAt 103 = .ok (.aaload, 1) := by decide +kernel
theorem dX2_aimAt_104 : decode cX2_aimAt 104 = .ok (.iload 7, 2) := by decide +kernel
theorem dX2_aimAt_106 : decode cX2_aimAt 106 = .ok (.iaload, 1) := by decide +kernel
theorem dX2_aimAt_107 : decode cX2_aimAt 107 = .ok (.iload 5, 2) := by decide +kernel
theorem dX2_aimAt_109 : decode cX2_aimAt 109 = .ok (.if_icmp .eq 4, 3) := by decide +kernel
theorem dX2_aimAt_112 : decode cX2_aimAt 112 = .ok (.return_, 1) := by decide +kernel
theorem dX2_aimAt_113 : decode cX2_aimAt 113 = .ok (.iload 7, 2) := by decide +kernel
theorem dX2_aimAt_115 : decode cX2_aimAt 115 = .ok (.istore 5, 2) := by decide +kernel
theorem dX2_aimAt_117 : decode cX2_aimAt 117 = .ok (.iinc 6 1, 3) := by decide +kernel
theorem dX2_aimAt_120 : decode cX2_aimAt 120 = .ok (.goto (-77), 3) := by decide +kernel
theorem dX2_aimAt_123 : decode cX2_aimAt 123 = .ok (.iload 4, 2) := by decide +kernel
theorem dX2_aimAt_125 : decode cX2_aimAt 125 = .ok (.istore 5, 2) := by decide +kernel
theorem dX2_aimAt_127 : decode cX2_aimAt 127 = .ok (.iconst 0, 1) := by decide +kernel
theorem dX2_aimAt_128 : decode cX2_aimAt 128 = .ok (.istore 6, 2) := by decide +kernel
theorem dX2_aimAt_130 : decode cX2_aimAt 130 = .ok (.iload 6, 2) := by decide +kernel
theorem dX2_aimAt_132 : decode cX2_aimAt 132 = .ok (.bipush 40, 2) := by decide +kernel
theorem dX2_aimAt_134 : decode cX2_aimAt 134 = .ok (.if_icmp .gt 50, 3) := by decide +kernel
theorem dX2_aimAt_137 : decode cX2_aimAt 137 = .ok (.iload 5, 2) := by decide +kernel
theorem dX2_aimAt_139 : decode cX2_aimAt 139 = .ok (.iload_n 2, 1) := by decide +kernel
theorem dX2_aimAt_140 : decode cX2_aimAt 140 = .ok (.if_icmp .eq 44, 3) := by decide +kernel
theorem dX2_aimAt_143 : decode cX2_aimAt 143 = .ok (.iload 5, 2) := by decide +kernel
theorem dX2_aimAt_145 : decode cX2_aimAt 145 = .ok (.ifCond .eq 39, 3) := by decide +kernel
theorem dX2_aimAt_148 : decode cX2_aimAt 148 = .ok (.aload_n 0, 1) := by decide +kernel
theorem dX2_aimAt_149 : decode cX2_aimAt 149 = .ok (.getfield 13, 3) := by decide +kernel
theorem dX2_aimAt_152 : decode cX2_aimAt 152 = .ok (.bipush 10, 2) := by decide +kernel
theorem dX2_aimAt_154 : decode cX2_aimAt 154 = .ok (.aaload, 1) := by decide +kernel
theorem dX2_aimAt_155 : decode cX2_aimAt 155 = .ok (.aload_n 0, 1) := by decide +kernel
theorem dX2_aimAt_156 : decode cX2_aimAt 156 = .ok (.getfield 13, 3) := by decide +kernel
theorem dX2_aimAt_159 : decode cX2_aimAt 159 = .ok (.iconst 0, 1) := by decide +kernel
theorem dX2_aimAt_160 : decode cX2_aimAt 160 = .ok (.aaload, 1) := by decide +kernel
theorem dX2_aimAt_161 : decode cX2_aimAt 161 = .ok (.iload 5, 2) := by decide +kernel
theorem dX2_aimAt_163 : decode cX2_aimAt 163 = .ok (.iaload, 1) := by decide +kernel
theorem dX2_aimAt_164 : decode cX2_aimAt 164 = .ok (.iload 5, 2) := by decide +kernel
theorem dX2_aimAt_166 : decode cX2_aimAt 166 = .ok (.iastore, 1) := by decide +kernel
theorem dX2_aimAt_167 : decode cX2_aimAt 167 = .ok (.aload_n 0, 1) := by decide +kernel
theorem dX2_aimAt_168 : decode cX2_aimAt 168 = .ok (.getfield 13, 3) := by decide +kernel
theorem dX2_aimAt_171 : decode cX2_aimAt 171 = .ok (.iconst 0, 1) := by decide +kernel
theorem dX2_aimAt_172 : decode cX2_aimAt 172 = .ok (.aaload, 1) := by decide +kernel
theorem dX2_aimAt_173 : decode cX2_aimAt 173 = .ok (.iload 5, 2) := by decide +kernel
theorem dX2_aimAt_175 : decode cX2_aimAt 175 = .ok (.iaload, 1) := by decide +kernel
theorem dX2_aimAt_176 : decode cX2_aimAt 176 = .ok (.istore 5, 2) := by decide +kernel
theorem dX2_aimAt_178 : decode cX2_aimAt 178 = .ok (.iinc 6 1, 3) := by decide +kernel
theorem dX2_aimAt_181 : decode cX2_aimAt 181 = .ok (.goto (-51), 3) := by decide +kernel
theorem dX2_aimAt_184 : decode cX2_aimAt 184 = .ok (.iload_n 3, 1) := by decide +kernel
theorem dX2_aimAt_185 : decode cX2_aimAt 185 = .ok (.ifCond .eq 33, 3) := by decide +kernel
theorem dX2_aimAt_188 : decode cX2_aimAt 188 = .ok (.aload_n 0, 1) := by decide +kernel
theorem dX2_aimAt_189 : decode cX2_aimAt 189 = .ok (.getfield 13, 3) := by decide +kernel
theorem dX2_aimAt_192 : decode cX2_aimAt 192 = .ok (.bipush 11, 2) := by decide +kernel
theorem dX2_aimAt_194 : decode cX2_aimAt 194 = .ok (.aaload, 1) := by decide +kernel
theorem dX2_aimAt_195 : decode cX2_aimAt 195 = .ok (.iload 4, 2) := by decide +kernel
theorem dX2_aimAt_197 : decode cX2_aimAt 197 = .ok (.dup2, 1) := by decide +kernel
theorem dX2_aimAt_198 : decode cX2_aimAt 198 = .ok (.iaload, 1) := by decide +kernel
theorem dX2_aimAt_199 : decode cX2_aimAt 199 = .ok (.aload_n 0, 1) := by decide +kernel
theorem dX2_aimAt_200 : decode cX2_aimAt 200 = .ok (.getfield 13, 3) := by decide +kernel
theorem dX2_aimAt_203 : decode cX2_aimAt 203 = .ok (.iconst 1, 1) := by decide +kernel
theorem dX2_aimAt_204 : decode cX2_aimAt 204 = .ok (.aaload, 1) := by decide +kernel
theorem dX2_aimAt_205 : decode cX2_aimAt 205 = .ok (.iload_n 1, 1) := by decide +kernel
theorem dX2_aimAt_206 : decode cX2_aimAt 206 = .ok (.iaload, 1) := by decide +kernel
theorem dX2_aimAt_207 : decode cX2_aimAt 207 = .ok (.iconst 3, 1) := by decide +kernel
theorem dX2_aimAt_208 : decode cX2_aimAt 208 = .ok (.if_icmp .ne 7, 3) := by decide +kernel
theorem dX2_aimAt_211 : decode cX2_aimAt 211 = .ok (.iconst 2, 1) := by decide +kernel
theorem dX2_aimAt_212 : decode cX2_aimAt 212 = .ok (.goto 4, 3) := by decide +kernel
theorem dX2_aimAt_215 : decode cX2_aimAt 215 = .ok (.iconst 1, 1) := by decide +kernel
theorem dX2_aimAt_216 : decode cX2_aimAt 216 = .ok (.ior, 1) := by decide +kernel
theorem dX2_aimAt_217 : decode cX2_aimAt 217 = .ok (.iastore, 1) := by decide +kernel
theorem dX2_aimAt_218 : decode cX2_aimAt 218 = .ok (.return_, 1) := by decide +kernel
theorem cwX2_aimAt : mw_cwV yX2_aimAt cX2_aimAt 8 (none) 2 := ⟨⟨wd_12, wd_1662, by decide +kernel⟩, wd_1661, sl_118⟩
set_option maxHeartbeats 4000000 in
set_option maxRecDepth 100000 in
theorem tX2_aimAt (l : Launch) (G : mwG) (ad : Nat → Nat) (fu : Nat) (k : Nat) (a1 : Int32) (a2 : Int32) (M : mwM) (L : mwL) {M0 : mwM} {L0 : mwL} (hD : DX2_aimAt fu k a1 a2 M L = some (M0, L0)) (hk0 : isCh k) : Met l yX2_aimAt (Cond.code yX2_aimAt cX2_aimAt 8 (none) :: GT) ({ frames := 0, cells := 0, slots := 0, locals := 0 }) (mw_Pre G ad NF TF FF M L [.ref (ad k), .int a1, .int a2]) (mw_Qv G ad NF TF FF (mw_eqV M0 L0)) 0 0 (mw_fr G) := by
  refine mw_enter (by decide) (Nat.le_of_ble_eq_true rfl) ?_
  intro p e s m below meth c ls C hr hlocks hnm hw hl
  have hl : lv_has ls 8 [(0, .ref (ad k)), (1, .int a1), (2, .int a2)] := hl
  have hb218 : ∀ (M : mwM) (L : mwL) (H : Heap) (locs : List Loc) (ls : Array Slot), fX2_aimAt_b218 fu k a1 a2 M L = some (M0, L0) → mw_W G ad NF TF FF M L H locs → lv_has ls 8 [] → W p l e ({ frames := 0, cells := 0, slots := 0, locals := 0 }) s m [.ref (ad k), .int a1, .int a2].toArray below meth c H locs 0 0 (MQ below (mw_Qv G ad NF TF FF (mw_eqV M0 L0)) [.ref (ad k), .int a1, .int a2].toArray s 0 0 (mw_fr G)) (F0 m 218 ls []) := by
    intro M L H locs ls hD hw hl
    unfold fX2_aimAt_b218 at hD
    exact mr_vret C hr hlocks hw (Option.some.inj hD) dX2_aimAt_218
  have hb216 : ∀ (s1 : Int32) (s2 : Int32) (s3 : Int32) (M : mwM) (L : mwL) (H : Heap) (locs : List Loc) (ls : Array Slot), fX2_aimAt_b216 fu k a1 a2 s1 s2 s3 M L = some (M0, L0) → mw_W G ad NF TF FF M L H locs → lv_has ls 8 [] → W p l e ({ frames := 0, cells := 0, slots := 0, locals := 0 }) s m [.ref (ad k), .int a1, .int a2].toArray below meth c H locs 0 0 (MQ below (mw_Qv G ad NF TF FF (mw_eqV M0 L0)) [.ref (ad k), .int a1, .int a2].toArray s 0 0 (mw_fr G)) (F0 m 216 ls [.int s3, .int s2, .int s1, .ref (ad (k + 13))]) := by
    intro s1 s2 s3 M L H locs ls hD hw hl
    unfold fX2_aimAt_b216 at hD
    refine lv_ior C.1.1 C.1.2.1 dX2_aimAt_216 ?_
    obtain ⟨q38, hD⟩ := g_ck hD
    obtain ⟨M39, eM39, hD⟩ := g_let hD
    refine mr_iast C hw (Ch_N13 hk0) (Ch_T13 hk0) q38 dX2_aimAt_217 (fun H locs hw => ?_)
    replace hw : mw_W G ad NF TF FF M39 L H locs := by rw [eM39]; exact hw
    exact hb218 M39 L _ _ ls hD hw (lv_sub hl [] rfl)
  have hb184 : ∀ (v3 : Int32) (v4 : Int32) (M : mwM) (L : mwL) (H : Heap) (locs : List Loc) (ls : Array Slot), fX2_aimAt_b184 fu k a1 a2 v3 v4 M L = some (M0, L0) → mw_W G ad NF TF FF M L H locs → lv_has ls 8 [(0, .ref (ad k)), (1, .int a1), (3, .int v3), (4, .int v4)] → W p l e ({ frames := 0, cells := 0, slots := 0, locals := 0 }) s m [.ref (ad k), .int a1, .int a2].toArray below meth c H locs 0 0 (MQ below (mw_Qv G ad NF TF FF (mw_eqV M0 L0)) [.ref (ad k), .int a1, .int a2].toArray s 0 0 (mw_fr G)) (F0 m 184 ls []) := by
    intro v3 v4 M L H locs ls hD hw hl
    unfold fX2_aimAt_b184 at hD
    refine lv_iload_n C.1.1 C.1.2.1 dX2_aimAt_184 rfl (lv_at hl 2 rfl) ?_
    refine lv_if_eq (tgt := 218) C.1.1 C.1.2.1 dX2_aimAt_185 (by decide) (fun c32 => ?_) (fun c32 => ?_)
    · replace hD := g_pos c32 hD
      exact hb218 M L _ _ ls hD hw (lv_sub hl [] rfl)
    · replace hD := g_neg c32 hD
      refine lv_aload_n C.1.1 C.1.2.1 dX2_aimAt_188 rfl (lv_at hl 0 rfl) ?_
      refine mr_getR C hw kc_2 0 (Ch_N0 hk0) (Ch_T0 hk0) (Ch_F0_0 hk0) wd_444 dX2_aimAt_189 (by decide) rfl ?_
      refine lv_bipush (v := 11) C.1.1 C.1.2.1 dX2_aimAt_192 (by decide) ?_
      refine mr_aald C hw (Ch_N1 hk0) (Ch_T1 hk0) (by decide) (by decide) rfl rfl (show vp_in 11 18 from by unfold vp_in; decide) (Ch_R1 hk0 _ (by decide : 11 < 18)).1 dX2_aimAt_194 ?_
      refine lv_iload C.1.1 C.1.2.1 dX2_aimAt_195 (lv_at hl 3 rfl) ?_
      refine lv_dup2_11 C.1.1 C.1.2.1 dX2_aimAt_197 rfl rfl ?_
      obtain ⟨q34, hD⟩ := g_ck hD
      refine mr_iald C hw (Ch_N13 hk0) (Ch_T13 hk0) q34 dX2_aimAt_198 ?_
      refine lv_aload_n C.1.1 C.1.2.1 dX2_aimAt_199 rfl (lv_at hl 0 rfl) ?_
      refine mr_getR C hw kc_2 0 (Ch_N0 hk0) (Ch_T0 hk0) (Ch_F0_0 hk0) wd_444 dX2_aimAt_200 (by decide) rfl ?_
      refine lv_iconst (v := 1) C.1.1 C.1.2.1 dX2_aimAt_203 (by decide) ?_
      refine mr_aald C hw (Ch_N1 hk0) (Ch_T1 hk0) (by decide) (by decide) rfl rfl (show vp_in 1 18 from by unfold vp_in; decide) (Ch_R1 hk0 _ (by decide : 1 < 18)).1 dX2_aimAt_204 ?_
      refine lv_iload_n C.1.1 C.1.2.1 dX2_aimAt_205 rfl (lv_at hl 1 rfl) ?_
      obtain ⟨q36, hD⟩ := g_ck hD
      refine mr_iald C hw (Ch_N3 hk0) (Ch_T3 hk0) q36 dX2_aimAt_206 ?_
      refine lv_iconst (v := 3) C.1.1 C.1.2.1 dX2_aimAt_207 (by decide) ?_
      refine lv_icmp_ne (tgt := 215) C.1.1 C.1.2.1 dX2_aimAt_208 (by decide) (fun c37 => ?_) (fun c37 => ?_)
      · replace hD := g_neg c37 hD
        refine lv_iconst (v := 1) C.1.1 C.1.2.1 dX2_aimAt_215 (by decide) ?_
        exact hb216 v4 (M (k + 13) v4.toNatClampNeg) 1 M L _ _ ls hD hw (lv_sub hl [] rfl)
      · replace hD := g_pos c37 hD
        refine lv_iconst (v := 2) C.1.1 C.1.2.1 dX2_aimAt_211 (by decide) ?_
        refine lv_goto (tgt := 216) C.1.1 C.1.2.1 dX2_aimAt_212 (by decide) ?_
        exact hb216 v4 (M (k + 13) v4.toNatClampNeg) 2 M L _ _ ls hD hw (lv_sub hl [] rfl)
  have hh130 : ∀ (f : Nat) (v3 : Int32) (v4 : Int32) (v5 : Int32) (v6 : Int32) (M : mwM) (L : mwL) (H : Heap) (locs : List Loc) (ls : Array Slot), fX2_aimAt_h130 fu k a1 a2 f (v3, v4, v5, v6, M, L) = some (M0, L0) → mw_W G ad NF TF FF M L H locs → lv_has ls 8 [(0, .ref (ad k)), (1, .int a1), (2, .int a2), (3, .int v3), (4, .int v4), (5, .int v5), (6, .int v6)] → W p l e ({ frames := 0, cells := 0, slots := 0, locals := 0 }) s m [.ref (ad k), .int a1, .int a2].toArray below meth c H locs 0 0 (MQ below (mw_Qv G ad NF TF FF (mw_eqV M0 L0)) [.ref (ad k), .int a1, .int a2].toArray s 0 0 (mw_fr G)) (F0 m 130 ls []) := by
    intro f
    induction f with
    | zero => intro v3 v4 v5 v6 M L H locs ls hD; cases hD
    | succ f130 ih130 =>
      intro v3 v4 v5 v6 M L H locs ls hD hw hl
      replace hD : fX2_aimAt_i130 fu k a1 a2 (fX2_aimAt_h130 fu k a1 a2 f130) v3 v4 v5 v6 M L = some (M0, L0) := hD
      unfold fX2_aimAt_i130 at hD
      refine lv_iload C.1.1 C.1.2.1 dX2_aimAt_130 (lv_at hl 6 rfl) ?_
      refine lv_bipush (v := 40) C.1.1 C.1.2.1 dX2_aimAt_132 (by decide) ?_
      refine lv_icmp_gt (tgt := 184) C.1.1 C.1.2.1 dX2_aimAt_134 (by decide) (fun c20 => ?_) (fun c20 => ?_)
      · replace hD := g_pos c20 hD
        exact hb184 v3 v4 M L _ _ ls hD hw (lv_sub hl [0, 1, 3, 4] rfl)
      · replace hD := g_neg c20 hD
        refine lv_iload C.1.1 C.1.2.1 dX2_aimAt_137 (lv_at hl 5 rfl) ?_
        refine lv_iload_n C.1.1 C.1.2.1 dX2_aimAt_139 rfl (lv_at hl 2 rfl) ?_
        refine lv_icmp_eq (tgt := 184) C.1.1 C.1.2.1 dX2_aimAt_140 (by decide) (fun c21 => ?_) (fun c21 => ?_)
        · replace hD := g_pos c21 hD
          exact hb184 v3 v4 M L _ _ ls hD hw (lv_sub hl [0, 1, 3, 4] rfl)
        · replace hD := g_neg c21 hD
          refine lv_iload C.1.1 C.1.2.1 dX2_aimAt_143 (lv_at hl 5 rfl) ?_
          refine lv_if_eq (tgt := 184) C.1.1 C.1.2.1 dX2_aimAt_145 (by decide) (fun c22 => ?_) (fun c22 => ?_)
          · replace hD := g_pos c22 hD
            exact hb184 v3 v4 M L _ _ ls hD hw (lv_sub hl [0, 1, 3, 4] rfl)
          · replace hD := g_neg c22 hD
            refine lv_aload_n C.1.1 C.1.2.1 dX2_aimAt_148 rfl (lv_at hl 0 rfl) ?_
            refine mr_getR C hw kc_2 0 (Ch_N0 hk0) (Ch_T0 hk0) (Ch_F0_0 hk0) wd_444 dX2_aimAt_149 (by decide) rfl ?_
            refine lv_bipush (v := 10) C.1.1 C.1.2.1 dX2_aimAt_152 (by decide) ?_
            refine mr_aald C hw (Ch_N1 hk0) (Ch_T1 hk0) (by decide) (by decide) rfl rfl (show vp_in 10 18 from by unfold vp_in; decide) (Ch_R1 hk0 _ (by decide : 10 < 18)).1 dX2_aimAt_154 ?_
            refine lv_aload_n C.1.1 C.1.2.1 dX2_aimAt_155 rfl (lv_at hl 0 rfl) ?_
            refine mr_getR C hw kc_2 0 (Ch_N0 hk0) (Ch_T0 hk0) (Ch_F0_0 hk0) wd_444 dX2_aimAt_156 (by decide) rfl ?_
            refine lv_iconst (v := 0) C.1.1 C.1.2.1 dX2_aimAt_159 (by decide) ?_
            refine mr_aald C hw (Ch_N1 hk0) (Ch_T1 hk0) (by decide) (by decide) rfl rfl (show vp_in 0 18 from by unfold vp_in; decide) (Ch_R1 hk0 _ (by decide : 0 < 18)).1 dX2_aimAt_160 ?_
            refine lv_iload C.1.1 C.1.2.1 dX2_aimAt_161 (lv_at hl 5 rfl) ?_
            obtain ⟨q25, hD⟩ := g_ck hD
            refine mr_iald C hw (Ch_N2 hk0) (Ch_T2 hk0) q25 dX2_aimAt_163 ?_
            refine lv_iload C.1.1 C.1.2.1 dX2_aimAt_164 (lv_at hl 5 rfl) ?_
            obtain ⟨q26, hD⟩ := g_ck hD
            obtain ⟨M27, eM27, hD⟩ := g_let hD
            refine mr_iast C hw (Ch_N12 hk0) (Ch_T12 hk0) q26 dX2_aimAt_166 (fun H locs hw => ?_)
            replace hw : mw_W G ad NF TF FF M27 L H locs := by rw [eM27]; exact hw
            refine lv_aload_n C.1.1 C.1.2.1 dX2_aimAt_167 rfl (lv_at hl 0 rfl) ?_
            refine mr_getR C hw kc_2 0 (Ch_N0 hk0) (Ch_T0 hk0) (Ch_F0_0 hk0) wd_444 dX2_aimAt_168 (by decide) rfl ?_
            refine lv_iconst (v := 0) C.1.1 C.1.2.1 dX2_aimAt_171 (by decide) ?_
            refine mr_aald C hw (Ch_N1 hk0) (Ch_T1 hk0) (by decide) (by decide) rfl rfl (show vp_in 0 18 from by unfold vp_in; decide) (Ch_R1 hk0 _ (by decide : 0 < 18)).1 dX2_aimAt_172 ?_
            refine lv_iload C.1.1 C.1.2.1 dX2_aimAt_173 (lv_at hl 5 rfl) ?_
            obtain ⟨q29, hD⟩ := g_ck hD
            refine mr_iald C hw (Ch_N2 hk0) (Ch_T2 hk0) q29 dX2_aimAt_175 ?_
            obtain ⟨x30, ex30, hD⟩ := g_let hD
            refine W.eq (g2 := F0 m 176 ls (.int x30 :: [])) (by rw [ex30]) ?_
            refine lv_istore (lv' := [(5, .int x30), (0, .ref (ad k)), (1, .int a1), (2, .int a2), (3, .int v3), (4, .int v4), (6, .int v6)]) C.1.1 C.1.2.1 dX2_aimAt_176 hl (by decide) rfl (fun ls hl => ?_)
            obtain ⟨x31, ex31, hD⟩ := g_let hD
            refine lv_iinc (v := x31) (lv' := [(6, .int x31), (5, .int x30), (0, .ref (ad k)), (1, .int a1), (2, .int a2), (3, .int v3), (4, .int v4)]) C.1.1 C.1.2.1 dX2_aimAt_178 hl (k := 6) rfl (by rw [ex31]; rfl) (by decide) rfl (fun ls hl => ?_)
            refine lv_goto (tgt := 130) C.1.1 C.1.2.1 dX2_aimAt_181 (by decide) ?_
            exact ih130 v3 v4 x30 x31 M27 L _ _ ls hD hw (lv_sub hl [2, 3, 4, 5, 6, 1, 0] rfl)
  have hb123 : ∀ (v3 : Int32) (v4 : Int32) (M : mwM) (L : mwL) (H : Heap) (locs : List Loc) (ls : Array Slot), fX2_aimAt_b123 fu k a1 a2 v3 v4 M L = some (M0, L0) → mw_W G ad NF TF FF M L H locs → lv_has ls 8 [(0, .ref (ad k)), (1, .int a1), (2, .int a2), (3, .int v3), (4, .int v4)] → W p l e ({ frames := 0, cells := 0, slots := 0, locals := 0 }) s m [.ref (ad k), .int a1, .int a2].toArray below meth c H locs 0 0 (MQ below (mw_Qv G ad NF TF FF (mw_eqV M0 L0)) [.ref (ad k), .int a1, .int a2].toArray s 0 0 (mw_fr G)) (F0 m 123 ls []) := by
    intro v3 v4 M L H locs ls hD hw hl
    unfold fX2_aimAt_b123 at hD
    refine lv_iload C.1.1 C.1.2.1 dX2_aimAt_123 (lv_at hl 4 rfl) ?_
    refine lv_istore (lv' := [(5, .int v4), (0, .ref (ad k)), (1, .int a1), (2, .int a2), (3, .int v3), (4, .int v4)]) C.1.1 C.1.2.1 dX2_aimAt_125 hl (by decide) rfl (fun ls hl => ?_)
    refine lv_iconst (v := 0) C.1.1 C.1.2.1 dX2_aimAt_127 (by decide) ?_
    refine lv_istore (lv' := [(6, .int 0), (5, .int v4), (0, .ref (ad k)), (1, .int a1), (2, .int a2), (3, .int v3), (4, .int v4)]) C.1.1 C.1.2.1 dX2_aimAt_128 hl (by decide) rfl (fun ls hl => ?_)
    exact hh130 fu v3 v4 v4 0 M L _ _ ls hD hw (lv_sub hl [2, 3, 4, 5, 6, 1, 0] rfl)
  have hh43 : ∀ (f : Nat) (v3 : Int32) (v4 : Int32) (v5 : Int32) (v6 : Int32) (M : mwM) (L : mwL) (H : Heap) (locs : List Loc) (ls : Array Slot), fX2_aimAt_h43 fu k a1 a2 f (v3, v4, v5, v6, M, L) = some (M0, L0) → mw_W G ad NF TF FF M L H locs → lv_has ls 8 [(0, .ref (ad k)), (1, .int a1), (2, .int a2), (3, .int v3), (4, .int v4), (5, .int v5), (6, .int v6)] → W p l e ({ frames := 0, cells := 0, slots := 0, locals := 0 }) s m [.ref (ad k), .int a1, .int a2].toArray below meth c H locs 0 0 (MQ below (mw_Qv G ad NF TF FF (mw_eqV M0 L0)) [.ref (ad k), .int a1, .int a2].toArray s 0 0 (mw_fr G)) (F0 m 43 ls []) := by
    intro f
    induction f with
    | zero => intro v3 v4 v5 v6 M L H locs ls hD; cases hD
    | succ f43 ih43 =>
      intro v3 v4 v5 v6 M L H locs ls hD hw hl
      replace hD : fX2_aimAt_i43 fu k a1 a2 (fX2_aimAt_h43 fu k a1 a2 f43) v3 v4 v5 v6 M L = some (M0, L0) := hD
      have hb113 : ∀ (v3 : Int32) (v4 : Int32) (v6 : Int32) (v7 : Int32) (M : mwM) (L : mwL) (H : Heap) (locs : List Loc) (ls : Array Slot), fX2_aimAt_b113 fu k a1 a2 (fX2_aimAt_h43 fu k a1 a2 f43) v3 v4 v6 v7 M L = some (M0, L0) → mw_W G ad NF TF FF M L H locs → lv_has ls 8 [(0, .ref (ad k)), (1, .int a1), (2, .int a2), (3, .int v3), (4, .int v4), (6, .int v6), (7, .int v7)] → W p l e ({ frames := 0, cells := 0, slots := 0, locals := 0 }) s m [.ref (ad k), .int a1, .int a2].toArray below meth c H locs 0 0 (MQ below (mw_Qv G ad NF TF FF (mw_eqV M0 L0)) [.ref (ad k), .int a1, .int a2].toArray s 0 0 (mw_fr G)) (F0 m 113 ls []) := by
        intro v3 v4 v6 v7 M L H locs ls hD hw hl
        unfold fX2_aimAt_b113 at hD
        refine lv_iload C.1.1 C.1.2.1 dX2_aimAt_113 (lv_at hl 6 rfl) ?_
        refine lv_istore (lv' := [(5, .int v7), (0, .ref (ad k)), (1, .int a1), (2, .int a2), (3, .int v3), (4, .int v4), (6, .int v6), (7, .int v7)]) C.1.1 C.1.2.1 dX2_aimAt_115 hl (by decide) rfl (fun ls hl => ?_)
        obtain ⟨x19, ex19, hD⟩ := g_let hD
        refine lv_iinc (v := x19) (lv' := [(6, .int x19), (5, .int v7), (0, .ref (ad k)), (1, .int a1), (2, .int a2), (3, .int v3), (4, .int v4), (7, .int v7)]) C.1.1 C.1.2.1 dX2_aimAt_117 hl (k := 6) rfl (by rw [ex19]; rfl) (by decide) rfl (fun ls hl => ?_)
        refine lv_goto (tgt := 43) C.1.1 C.1.2.1 dX2_aimAt_120 (by decide) ?_
        exact ih43 v3 v4 v7 x19 M L _ _ ls hD hw (lv_sub hl [2, 3, 4, 5, 6, 1, 0] rfl)
      unfold fX2_aimAt_i43 at hD
      refine lv_iload C.1.1 C.1.2.1 dX2_aimAt_43 (lv_at hl 6 rfl) ?_
      refine lv_bipush (v := 40) C.1.1 C.1.2.1 dX2_aimAt_45 (by decide) ?_
      refine lv_icmp_gt (tgt := 123) C.1.1 C.1.2.1 dX2_aimAt_47 (by decide) (fun c4 => ?_) (fun c4 => ?_)
      · replace hD := g_pos c4 hD
        exact hb123 v3 v4 M L _ _ ls hD hw (lv_sub hl [0, 1, 2, 3, 4] rfl)
      · replace hD := g_neg c4 hD
        refine lv_iload C.1.1 C.1.2.1 dX2_aimAt_50 (lv_at hl 5 rfl) ?_
        refine lv_iload_n C.1.1 C.1.2.1 dX2_aimAt_52 rfl (lv_at hl 2 rfl) ?_
        refine lv_icmp_eq (tgt := 123) C.1.1 C.1.2.1 dX2_aimAt_53 (by decide) (fun c5 => ?_) (fun c5 => ?_)
        · replace hD := g_pos c5 hD
          exact hb123 v3 v4 M L _ _ ls hD hw (lv_sub hl [0, 1, 2, 3, 4] rfl)
        · replace hD := g_neg c5 hD
          refine lv_iload C.1.1 C.1.2.1 dX2_aimAt_56 (lv_at hl 5 rfl) ?_
          refine lv_if_eq (tgt := 123) C.1.1 C.1.2.1 dX2_aimAt_58 (by decide) (fun c6 => ?_) (fun c6 => ?_)
          · replace hD := g_pos c6 hD
            exact hb123 v3 v4 M L _ _ ls hD hw (lv_sub hl [0, 1, 2, 3, 4] rfl)
          · replace hD := g_neg c6 hD
            refine lv_aload_n C.1.1 C.1.2.1 dX2_aimAt_61 rfl (lv_at hl 0 rfl) ?_
            refine mr_getR C hw kc_2 0 (Ch_N0 hk0) (Ch_T0 hk0) (Ch_F0_0 hk0) wd_444 dX2_aimAt_62 (by decide) rfl ?_
            refine lv_iconst (v := 0) C.1.1 C.1.2.1 dX2_aimAt_65 (by decide) ?_
            refine mr_aald C hw (Ch_N1 hk0) (Ch_T1 hk0) (by decide) (by decide) rfl rfl (show vp_in 0 18 from by unfold vp_in; decide) (Ch_R1 hk0 _ (by decide : 0 < 18)).1 dX2_aimAt_66 ?_
            refine lv_iload C.1.1 C.1.2.1 dX2_aimAt_67 (lv_at hl 5 rfl) ?_
            obtain ⟨q8, hD⟩ := g_ck hD
            refine mr_iald C hw (Ch_N2 hk0) (Ch_T2 hk0) q8 dX2_aimAt_69 ?_
            obtain ⟨x9, ex9, hD⟩ := g_let hD
            refine W.eq (g2 := F0 m 70 ls (.int x9 :: [])) (by rw [ex9]) ?_
            refine lv_istore (lv' := [(7, .int x9), (0, .ref (ad k)), (1, .int a1), (2, .int a2), (3, .int v3), (4, .int v4), (5, .int v5), (6, .int v6)]) C.1.1 C.1.2.1 dX2_aimAt_70 hl (by decide) rfl (fun ls hl => ?_)
            refine lv_aload_n C.1.1 C.1.2.1 dX2_aimAt_72 rfl (lv_at hl 1 rfl) ?_
            refine mr_getR C hw kc_2 0 (Ch_N0 hk0) (Ch_T0 hk0) (Ch_F0_0 hk0) wd_444 dX2_aimAt_73 (by decide) rfl ?_
            refine lv_iconst (v := 1) C.1.1 C.1.2.1 dX2_aimAt_76 (by decide) ?_
            refine mr_aald C hw (Ch_N1 hk0) (Ch_T1 hk0) (by decide) (by decide) rfl rfl (show vp_in 1 18 from by unfold vp_in; decide) (Ch_R1 hk0 _ (by decide : 1 < 18)).1 dX2_aimAt_77 ?_
            refine lv_iload C.1.1 C.1.2.1 dX2_aimAt_78 (lv_at hl 0 rfl) ?_
            obtain ⟨q11, hD⟩ := g_ck hD
            refine mr_iald C hw (Ch_N3 hk0) (Ch_T3 hk0) q11 dX2_aimAt_80 ?_
            refine lv_if_ne (tgt := 113) C.1.1 C.1.2.1 dX2_aimAt_81 (by decide) (fun c12 => ?_) (fun c12 => ?_)
            · replace hD := g_neg c12 hD
              exact hb113 v3 v4 v6 x9 M L _ _ ls hD hw (lv_sub hl [1, 2, 3, 4, 5, 7, 0] rfl)
            · replace hD := g_pos c12 hD
              refine lv_aload_n C.1.1 C.1.2.1 dX2_aimAt_84 rfl (lv_at hl 1 rfl) ?_
              refine mr_getR C hw kc_2 0 (Ch_N0 hk0) (Ch_T0 hk0) (Ch_F0_0 hk0) wd_444 dX2_aimAt_85 (by decide) rfl ?_
              refine lv_bipush (v := 10) C.1.1 C.1.2.1 dX2_aimAt_88 (by decide) ?_
              refine mr_aald C hw (Ch_N1 hk0) (Ch_T1 hk0) (by decide) (by decide) rfl rfl (show vp_in 10 18 from by unfold vp_in; decide) (Ch_R1 hk0 _ (by decide : 10 < 18)).1 dX2_aimAt_90 ?_
              refine lv_iload C.1.1 C.1.2.1 dX2_aimAt_91 (lv_at hl 0 rfl) ?_
              obtain ⟨q14, hD⟩ := g_ck hD
              refine mr_iald C hw (Ch_N12 hk0) (Ch_T12 hk0) q14 dX2_aimAt_93 ?_
              refine lv_if_eq (tgt := 113) C.1.1 C.1.2.1 dX2_aimAt_94 (by decide) (fun c15 => ?_) (fun c15 => ?_)
              · replace hD := g_pos c15 hD
                exact hb113 v3 v4 v6 x9 M L _ _ ls hD hw (lv_sub hl [1, 2, 3, 4, 5, 7, 0] rfl)
              · replace hD := g_neg c15 hD
                refine lv_aload_n C.1.1 C.1.2.1 dX2_aimAt_97 rfl (lv_at hl 1 rfl) ?_
                refine mr_getR C hw kc_2 0 (Ch_N0 hk0) (Ch_T0 hk0) (Ch_F0_0 hk0) wd_444 dX2_aimAt_98 (by decide) rfl ?_
                refine lv_bipush (v := 10) C.1.1 C.1.2.1 dX2_aimAt_101 (by decide) ?_
                refine mr_aald C hw (Ch_N1 hk0) (Ch_T1 hk0) (by decide) (by decide) rfl rfl (show vp_in 10 18 from by unfold vp_in; decide) (Ch_R1 hk0 _ (by decide : 10 < 18)).1 dX2_aimAt_103 ?_
                refine lv_iload C.1.1 C.1.2.1 dX2_aimAt_104 (lv_at hl 0 rfl) ?_
                obtain ⟨q17, hD⟩ := g_ck hD
                refine mr_iald C hw (Ch_N12 hk0) (Ch_T12 hk0) q17 dX2_aimAt_106 ?_
                refine lv_iload C.1.1 C.1.2.1 dX2_aimAt_107 (lv_at hl 6 rfl) ?_
                refine lv_icmp_eq (tgt := 113) C.1.1 C.1.2.1 dX2_aimAt_109 (by decide) (fun c18 => ?_) (fun c18 => ?_)
                · replace hD := g_pos c18 hD
                  exact hb113 v3 v4 v6 x9 M L _ _ ls hD hw (lv_sub hl [1, 2, 3, 4, 5, 7, 0] rfl)
                · replace hD := g_neg c18 hD
                  exact mr_vret C hr hlocks hw (Option.some.inj hD) dX2_aimAt_112
  have hb34 : ∀ (v3 : Int32) (s0 : Int32) (M : mwM) (L : mwL) (H : Heap) (locs : List Loc) (ls : Array Slot), fX2_aimAt_b34 fu k a1 a2 v3 s0 M L = some (M0, L0) → mw_W G ad NF TF FF M L H locs → lv_has ls 8 [(0, .ref (ad k)), (1, .int a1), (2, .int a2), (3, .int v3)] → W p l e ({ frames := 0, cells := 0, slots := 0, locals := 0 }) s m [.ref (ad k), .int a1, .int a2].toArray below meth c H locs 0 0 (MQ below (mw_Qv G ad NF TF FF (mw_eqV M0 L0)) [.ref (ad k), .int a1, .int a2].toArray s 0 0 (mw_fr G)) (F0 m 34 ls [.int s0]) := by
    intro v3 s0 M L H locs ls hD hw hl
    unfold fX2_aimAt_b34 at hD
    refine lv_istore (lv' := [(4, .int s0), (0, .ref (ad k)), (1, .int a1), (2, .int a2), (3, .int v3)]) C.1.1 C.1.2.1 dX2_aimAt_34 hl (by decide) rfl (fun ls hl => ?_)
    refine lv_iload C.1.1 C.1.2.1 dX2_aimAt_36 (lv_at hl 0 rfl) ?_
    refine lv_istore (lv' := [(5, .int s0), (4, .int s0), (0, .ref (ad k)), (1, .int a1), (2, .int a2), (3, .int v3)]) C.1.1 C.1.2.1 dX2_aimAt_38 hl (by decide) rfl (fun ls hl => ?_)
    refine lv_iconst (v := 0) C.1.1 C.1.2.1 dX2_aimAt_40 (by decide) ?_
    refine lv_istore (lv' := [(6, .int 0), (5, .int s0), (4, .int s0), (0, .ref (ad k)), (1, .int a1), (2, .int a2), (3, .int v3)]) C.1.1 C.1.2.1 dX2_aimAt_41 hl (by decide) rfl (fun ls hl => ?_)
    exact hh43 fu v3 s0 s0 0 M L _ _ ls hD hw (lv_sub hl [3, 4, 5, 6, 2, 1, 0] rfl)
  have hb17 : ∀ (s0 : Int32) (M : mwM) (L : mwL) (H : Heap) (locs : List Loc) (ls : Array Slot), fX2_aimAt_b17 fu k a1 a2 s0 M L = some (M0, L0) → mw_W G ad NF TF FF M L H locs → lv_has ls 8 [(0, .ref (ad k)), (1, .int a1), (2, .int a2)] → W p l e ({ frames := 0, cells := 0, slots := 0, locals := 0 }) s m [.ref (ad k), .int a1, .int a2].toArray below meth c H locs 0 0 (MQ below (mw_Qv G ad NF TF FF (mw_eqV M0 L0)) [.ref (ad k), .int a1, .int a2].toArray s 0 0 (mw_fr G)) (F0 m 17 ls [.int s0]) := by
    intro s0 M L H locs ls hD hw hl
    unfold fX2_aimAt_b17 at hD
    refine lv_istore_n (lv' := [(3, .int s0), (0, .ref (ad k)), (1, .int a1), (2, .int a2)]) C.1.1 C.1.2.1 dX2_aimAt_17 rfl hl (by decide) rfl (fun ls hl => ?_)
    refine lv_iload_n C.1.1 C.1.2.1 dX2_aimAt_18 rfl (lv_at hl 0 rfl) ?_
    refine lv_if_eq (tgt := 33) C.1.1 C.1.2.1 dX2_aimAt_19 (by decide) (fun c1 => ?_) (fun c1 => ?_)
    · replace hD := g_pos c1 hD
      refine lv_iload_n C.1.1 C.1.2.1 dX2_aimAt_33 rfl (lv_at hl 2 rfl) ?_
      exact hb34 s0 a1 M L _ _ ls hD hw (lv_sub hl [1, 2, 3, 0] rfl)
    · replace hD := g_neg c1 hD
      refine lv_aload_n C.1.1 C.1.2.1 dX2_aimAt_22 rfl (lv_at hl 1 rfl) ?_
      refine mr_getR C hw kc_2 0 (Ch_N0 hk0) (Ch_T0 hk0) (Ch_F0_0 hk0) wd_444 dX2_aimAt_23 (by decide) rfl ?_
      refine lv_iconst (v := 0) C.1.1 C.1.2.1 dX2_aimAt_26 (by decide) ?_
      refine mr_aald C hw (Ch_N1 hk0) (Ch_T1 hk0) (by decide) (by decide) rfl rfl (show vp_in 0 18 from by unfold vp_in; decide) (Ch_R1 hk0 _ (by decide : 0 < 18)).1 dX2_aimAt_27 ?_
      refine lv_iload_n C.1.1 C.1.2.1 dX2_aimAt_28 rfl (lv_at hl 2 rfl) ?_
      obtain ⟨q3, hD⟩ := g_ck hD
      refine mr_iald C hw (Ch_N2 hk0) (Ch_T2 hk0) q3 dX2_aimAt_29 ?_
      refine lv_goto (tgt := 34) C.1.1 C.1.2.1 dX2_aimAt_30 (by decide) ?_
      exact hb34 s0 (M (k + 2) a1.toNatClampNeg) M L _ _ ls hD hw (lv_sub hl [1, 2, 3, 0] rfl)
  unfold DX2_aimAt at hD
  refine lv_aload_n C.1.1 C.1.2.1 dX2_aimAt_0 rfl (lv_at hl 0 rfl) ?_
  refine mr_getR C hw kc_2 0 (Ch_N0 hk0) (Ch_T0 hk0) (Ch_F0_0 hk0) wd_444 dX2_aimAt_1 (by decide) rfl ?_
  refine lv_iconst (v := 1) C.1.1 C.1.2.1 dX2_aimAt_4 (by decide) ?_
  refine mr_aald C hw (Ch_N1 hk0) (Ch_T1 hk0) (by decide) (by decide) rfl rfl (show vp_in 1 18 from by unfold vp_in; decide) (Ch_R1 hk0 _ (by decide : 1 < 18)).1 dX2_aimAt_5 ?_
  refine lv_iload_n C.1.1 C.1.2.1 dX2_aimAt_6 rfl (lv_at hl 1 rfl) ?_
  obtain ⟨q41, hD⟩ := g_ck hD
  refine mr_iald C hw (Ch_N3 hk0) (Ch_T3 hk0) q41 dX2_aimAt_7 ?_
  refine lv_iconst (v := 2) C.1.1 C.1.2.1 dX2_aimAt_8 (by decide) ?_
  refine lv_icmp_lt (tgt := 16) C.1.1 C.1.2.1 dX2_aimAt_9 (by decide) (fun c42 => ?_) (fun c42 => ?_)
  · replace hD := g_pos c42 hD
    refine lv_iconst (v := 0) C.1.1 C.1.2.1 dX2_aimAt_16 (by decide) ?_
    exact hb17 0 M L _ _ ls hD hw (lv_sub hl [0, 1, 2] rfl)
  · replace hD := g_neg c42 hD
    refine lv_iconst (v := 1) C.1.1 C.1.2.1 dX2_aimAt_12 (by decide) ?_
    refine lv_goto (tgt := 17) C.1.1 C.1.2.1 dX2_aimAt_13 (by decide) ?_
    exact hb17 1 M L _ _ ls hD hw (lv_sub hl [0, 1, 2] rfl)

theorem dX2_aim_0 : decode cX2_aim 0 = .ok (.iconst 0, 1) := by decide +kernel
theorem dX2_aim_1 : decode cX2_aim 1 = .ok (.istore_n 3, 1) := by decide +kernel
theorem dX2_aim_2 : decode cX2_aim 2 = .ok (.iload_n 3, 1) := by decide +kernel
theorem dX2_aim_3 : decode cX2_aim 3 = .ok (.aload_n 0, 1) := by decide +kernel
theorem dX2_aim_4 : decode cX2_aim 4 = .ok (.getfield 37, 3) := by decide +kernel
theorem dX2_aim_7 : decode cX2_aim 7 = .ok (.if_icmp .gt 29, 3) := by decide +kernel
theorem dX2_aim_10 : decode cX2_aim 10 = .ok (.aload_n 0, 1) := by decide +kernel
theorem dX2_aim_11 : decode cX2_aim 11 = .ok (.getfield 13, 3) := by decide +kernel
theorem dX2_aim_14 : decode cX2_aim 14 = .ok (.bipush 10, 2) := by decide +kernel
theorem dX2_aim_16 : decode cX2_aim 16 = .ok (.aaload, 1) := by decide +kernel
theorem dX2_aim_17 : decode cX2_aim 17 = .ok (.iload_n 3, 1) := by decide +kernel
theorem dX2_aim_18 : decode cX2_aim 18 = .ok (.iconst 0, 1) := by decide +kernel
theorem dX2_aim_19 : decode cX2_aim 19 = .ok (.iastore, 1) := by decide +kernel
theorem dX2_aim_20 : decode cX2_aim 20 = .ok (.aload_n 0, 1) := by decide +kernel
theorem dX2_aim_21 : decode cX2_aim 21 = .ok (.getfield 13, 3) := by decide +kernel
theorem dX2_aim_24 : decode cX2_aim 24 = .ok (.bipush 11, 2) := by decide +kernel
theorem dX2_aim_26 : decode cX2_aim 26 = .ok (.aaload, 1) := by decide +kernel
theorem dX2_aim_27 : decode cX2_aim 27 = .ok (.iload_n 3, 1) := by decide +kernel
theorem dX2_aim_28 : decode cX2_aim 28 = .ok (.iconst 0, 1) := by decide +kernel
theorem dX2_aim_29 : decode cX2_aim 29 = .ok (.iastore, 1) := by decide +kernel
theorem dX2_aim_30 : decode cX2_aim 30 = .ok (.iinc 3 1, 3) := by decide +kernel
theorem dX2_aim_33 : decode cX2_aim 33 = .ok (.goto (-31), 3) := by decide +kernel
theorem dX2_aim_36 : decode cX2_aim 36 = .ok (.iload_n 1, 1) := by decide +kernel
theorem dX2_aim_37 : decode cX2_aim 37 = .ok (.ifCond .ne 4, 3) := by decide +kernel
theorem dX2_aim_40 : decode cX2_aim 40 = .ok (.return_, 1) := by decide +kernel
theorem dX2_aim_41 : decode cX2_aim 41 = .ok (.aload_n 0, 1) := by decide +kernel
theorem dX2_aim_42 : decode cX2_aim 42 = .ok (.getfield 16, 3) := by decide +kernel
theorem dX2_aim_45 : decode cX2_aim 45 = .ok (.iconst 1, 1) := by decide +kernel
theorem dX2_aim_46 : decode cX2_aim 46 = .ok (.aaload, 1) := by decide +kernel
theorem dX2_aim_47 : decode cX2_aim 47 = .ok (.iload_n 1, 1) := by decide +kernel
theorem dX2_aim_48 : decode cX2_aim 48 = .ok (.iaload, 1) := by decide +kernel
theorem dX2_aim_49 : decode cX2_aim 49 = .ok (.istore_n 3, 1) := by decide +kernel
theorem dX2_aim_50 : decode cX2_aim 50 = .ok (.aload_n 0, 1) := by decide +kernel
theorem dX2_aim_51 : decode cX2_aim 51 = .ok (.getfield 13, 3) := by decide +kernel
theorem dX2_aim_54 : decode cX2_aim 54 = .ok (.iconst 1, 1) := by decide +kernel
theorem dX2_aim_55 : decode cX2_aim 55 = .ok (.aaload, 1) := by decide +kernel
theorem dX2_aim_56 : decode cX2_aim 56 = .ok (.iload_n 3, 1) := by decide +kernel
theorem dX2_aim_57 : decode cX2_aim 57 = .ok (.iaload, 1) := by decide +kernel
theorem dX2_aim_58 : decode cX2_aim 58 = .ok (.iconst 4, 1) := by decide +kernel
theorem dX2_aim_59 : decode cX2_aim 59 = .ok (.if_icmp .eq 10, 3) := by decide +kernel
theorem dX2_aim_62 : decode cX2_aim 62 = .ok (.aload_n 0, 1) := by decide +kernel
theorem dX2_aim_63 : decode cX2_aim 63 = .ok (.iload_n 3, 1) := by decide +kernel
theorem dX2_aim_64 : decode cX2_aim 64 = .ok (.iload_n 2, 1) := by decide +kernel
theorem dX2_aim_65 : decode cX2_aim 65 = .ok (.invokevirtual 145, 3) := by decide +kernel
theorem dX2_aim_68 : decode cX2_aim 68 = .ok (.return_, 1) := by decide +kernel
theorem dX2_aim_69 : decode cX2_aim 69 = .ok (.iconst 1, 1) := by decide +kernel
theorem dX2_aim_70 : decode cX2_aim 70 = .ok (.istore 4, 2) := by decide +kernel
theorem dX2_aim_72 : decode cX2_aim 72 = .ok (.iload 4, 2) := by decide +kernel
theorem dX2_aim_74 : decode cX2_aim 74 = .ok (.aload_n 0, 1) := by decide +kernel
theorem dX2_aim_75 : decode cX2_aim 75 = .ok (.getfield 40, 3) := by decide +kernel
theorem dX2_aim_78 : decode cX2_aim 78 = .ok (.if_icmp .gt 52, 3) := by decide +kernel
theorem dX2_aim_81 : decode cX2_aim 81 = .ok (.aload_n 0, 1) := by decide +kernel
theorem dX2_aim_82 : decode cX2_aim 82 = .ok (.getfield 16, 3) := by decide +kernel
theorem dX2_aim_85 : decode cX2_aim 85 = .ok (.iconst 0, 1) := by decide +kernel
theorem dX2_aim_86 : decode cX2_aim 86 = .ok (.aaload, 1) := by decide +kernel
theorem dX2_aim_87 : decode cX2_aim 87 = .ok (.iload 4, 2) := by decide +kernel
theorem dX2_aim_89 : decode cX2_aim 89 = .ok (.iaload, 1) := by decide +kernel
theorem dX2_aim_90 : decode cX2_aim 90 = .ok (.iload_n 3, 1) := by decide +kernel
theorem dX2_aim_91 : decode cX2_aim 91 = .ok (.if_icmp .ne 33, 3) := by decide +kernel
theorem dX2_aim_94 : decode cX2_aim 94 = .ok (.aload_n 0, 1) := by decide +kernel
theorem dX2_aim_95 : decode cX2_aim 95 = .ok (.aload_n 0, 1) := by decide +kernel
theorem dX2_aim_96 : decode cX2_aim 96 = .ok (.getfield 16, 3) := by decide +kernel
theorem dX2_aim_99 : decode cX2_aim 99 = .ok (.iconst 1, 1) := by decide +kernel
theorem dX2_aim_100 : decode cX2_aim 100 = .ok (.aaload, 1) := by decide +kernel
theorem dX2_aim_101 : decode cX2_aim 101 = .ok (.iload 4, 2) := by decide +kernel
theorem dX2_aim_103 : decode cX2_aim 103 = .ok (.iaload, 1) := by decide +kernel
theorem dX2_aim_104 : decode cX2_aim 104 = .ok (.invokevirtual 91, 3) := by decide +kernel
theorem dX2_aim_107 : decode cX2_aim 107 = .ok (.ifCond .eq 17, 3) := by decide +kernel
theorem dX2_aim_110 : decode cX2_aim 110 = .ok (.aload_n 0, 1) := by decide +kernel
theorem dX2_aim_111 : decode cX2_aim 111 = .ok (.aload_n 0, 1) := by decide +kernel
theorem dX2_aim_112 : decode cX2_aim 112 = .ok (.getfield 16, 3) := by decide +kernel
theorem dX2_aim_115 : decode cX2_aim 115 = .ok (.iconst 1, 1) := by decide +kernel
theorem dX2_aim_116 : decode cX2_aim 116 = .ok (.aaload, 1) := by decide +kernel
theorem dX2_aim_117 : decode cX2_aim 117 = .ok (.iload 4, 2) := by decide +kernel
theorem dX2_aim_119 : decode cX2_aim 119 = .ok (.iaload, 1) := by decide +kernel
theorem dX2_aim_120 : decode cX2_aim 120 = .ok (.iload_n 2, 1) := by decide +kernel
theorem dX2_aim_121 : decode cX2_aim 121 = .ok (.invokevirtual 145, 3) := by decide +kernel
theorem dX2_aim_124 : decode cX2_aim 124 = .ok (.iinc 4 1, 3) := by decide +kernel
theorem dX2_aim_127 : decode cX2_aim 127 = .ok (.goto (-55), 3) := by decide +kernel
theorem dX2_aim_130 : decode cX2_aim 130 = .ok (.return_, 1) := by decide +kernel
theorem cwX2_aim : mw_cwV yX2_aim cX2_aim 5 (none) 2 := ⟨⟨wd_12, wd_1658, by decide +kernel⟩, wd_1657, sl_117⟩
set_option maxHeartbeats 4000000 in
set_option maxRecDepth 100000 in
theorem tX2_aim (l : Launch) (G : mwG) (ad : Nat → Nat) (fu : Nat) (k : Nat) (a1 : Int32) (a2 : Int32) (M : mwM) (L : mwL) {M0 : mwM} {L0 : mwL} (hD : DX2_aim fu k a1 a2 M L = some (M0, L0)) (hk0 : isCh k) : Met l yX2_aim (Cond.code yX2_aim cX2_aim 5 (none) :: GT) ({ frames := 1, cells := 0, slots := 0, locals := 27 }) (mw_Pre G ad NF TF FF M L [.ref (ad k), .int a1, .int a2]) (mw_Qv G ad NF TF FF (mw_eqV M0 L0)) 0 0 (mw_fr G) := by
  refine mw_enter (by decide) (Nat.le_of_ble_eq_true rfl) ?_
  intro p e s m below meth c ls C hr hlocks hnm hw hl
  have hl : lv_has ls 5 [(0, .ref (ad k)), (1, .int a1), (2, .int a2)] := hl
  have hh72 : ∀ (f : Nat) (v3 : Int32) (v4 : Int32) (M : mwM) (L : mwL) (H : Heap) (locs : List Loc) (ls : Array Slot), fX2_aim_h72 fu k a1 a2 f (v3, v4, M, L) = some (M0, L0) → mw_W G ad NF TF FF M L H locs → lv_has ls 5 [(0, .ref (ad k)), (2, .int a2), (3, .int v3), (4, .int v4)] → W p l e ({ frames := 1, cells := 0, slots := 0, locals := 27 }) s m [.ref (ad k), .int a1, .int a2].toArray below meth c H locs 0 0 (MQ below (mw_Qv G ad NF TF FF (mw_eqV M0 L0)) [.ref (ad k), .int a1, .int a2].toArray s 0 0 (mw_fr G)) (F0 m 72 ls []) := by
    intro f
    induction f with
    | zero => intro v3 v4 M L H locs ls hD; cases hD
    | succ f72 ih72 =>
      intro v3 v4 M L H locs ls hD hw hl
      replace hD : fX2_aim_i72 fu k a1 a2 (fX2_aim_h72 fu k a1 a2 f72) v3 v4 M L = some (M0, L0) := hD
      have hb124 : ∀ (v3 : Int32) (v4 : Int32) (M : mwM) (L : mwL) (H : Heap) (locs : List Loc) (ls : Array Slot), fX2_aim_b124 fu k a1 a2 (fX2_aim_h72 fu k a1 a2 f72) v3 v4 M L = some (M0, L0) → mw_W G ad NF TF FF M L H locs → lv_has ls 5 [(0, .ref (ad k)), (2, .int a2), (3, .int v3), (4, .int v4)] → W p l e ({ frames := 1, cells := 0, slots := 0, locals := 27 }) s m [.ref (ad k), .int a1, .int a2].toArray below meth c H locs 0 0 (MQ below (mw_Qv G ad NF TF FF (mw_eqV M0 L0)) [.ref (ad k), .int a1, .int a2].toArray s 0 0 (mw_fr G)) (F0 m 124 ls []) := by
        intro v3 v4 M L H locs ls hD hw hl
        unfold fX2_aim_b124 at hD
        obtain ⟨x32, ex32, hD⟩ := g_let hD
        refine lv_iinc (v := x32) (lv' := [(4, .int x32), (0, .ref (ad k)), (2, .int a2), (3, .int v3)]) C.1.1 C.1.2.1 dX2_aim_124 hl (k := 3) rfl (by rw [ex32]; rfl) (by decide) rfl (fun ls hl => ?_)
        refine lv_goto (tgt := 72) C.1.1 C.1.2.1 dX2_aim_127 (by decide) ?_
        exact ih72 v3 x32 M L _ _ ls hD hw (lv_sub hl [1, 2, 3, 0] rfl)
      unfold fX2_aim_i72 at hD
      refine lv_iload C.1.1 C.1.2.1 dX2_aim_72 (lv_at hl 3 rfl) ?_
      refine lv_aload_n C.1.1 C.1.2.1 dX2_aim_74 rfl (lv_at hl 0 rfl) ?_
      refine mr_getI C hw kc_2 8 (Ch_N0 hk0) (Ch_T0 hk0) wd_460 dX2_aim_75 (by decide) rfl ?_
      refine lv_icmp_gt (tgt := 130) C.1.1 C.1.2.1 dX2_aim_78 (by decide) (fun c18 => ?_) (fun c18 => ?_)
      · replace hD := g_pos c18 hD
        exact mr_vret C hr hlocks hw (Option.some.inj hD) dX2_aim_130
      · replace hD := g_neg c18 hD
        refine lv_aload_n C.1.1 C.1.2.1 dX2_aim_81 rfl (lv_at hl 0 rfl) ?_
        refine mr_getR C hw kc_2 1 (Ch_N0 hk0) (Ch_T0 hk0) (Ch_F0_1 hk0) wd_445 dX2_aim_82 (by decide) rfl ?_
        refine lv_iconst (v := 0) C.1.1 C.1.2.1 dX2_aim_85 (by decide) ?_
        refine mr_aald C hw (Ch_N20 hk0) (Ch_T20 hk0) (by decide) (by decide) rfl rfl (show vp_in 0 7 from by unfold vp_in; decide) (Ch_R20 hk0 _ (by decide : 0 < 7)).1 dX2_aim_86 ?_
        refine lv_iload C.1.1 C.1.2.1 dX2_aim_87 (lv_at hl 3 rfl) ?_
        obtain ⟨q20, hD⟩ := g_ck hD
        refine mr_iald C hw (Ch_N21 hk0) (Ch_T21 hk0) q20 dX2_aim_89 ?_
        refine lv_iload_n C.1.1 C.1.2.1 dX2_aim_90 rfl (lv_at hl 2 rfl) ?_
        refine lv_icmp_ne (tgt := 124) C.1.1 C.1.2.1 dX2_aim_91 (by decide) (fun c21 => ?_) (fun c21 => ?_)
        · replace hD := g_neg c21 hD
          exact hb124 v3 v4 M L _ _ ls hD hw (lv_sub hl [0, 1, 2, 3] rfl)
        · replace hD := g_pos c21 hD
          refine lv_aload_n C.1.1 C.1.2.1 dX2_aim_94 rfl (lv_at hl 0 rfl) ?_
          refine lv_aload_n C.1.1 C.1.2.1 dX2_aim_95 rfl (lv_at hl 0 rfl) ?_
          refine mr_getR C hw kc_2 1 (Ch_N0 hk0) (Ch_T0 hk0) (Ch_F0_1 hk0) wd_445 dX2_aim_96 (by decide) rfl ?_
          refine lv_iconst (v := 1) C.1.1 C.1.2.1 dX2_aim_99 (by decide) ?_
          refine mr_aald C hw (Ch_N20 hk0) (Ch_T20 hk0) (by decide) (by decide) rfl rfl (show vp_in 1 7 from by unfold vp_in; decide) (Ch_R20 hk0 _ (by decide : 1 < 7)).1 dX2_aim_100 ?_
          refine lv_iload C.1.1 C.1.2.1 dX2_aim_101 (lv_at hl 3 rfl) ?_
          obtain ⟨q23, hD⟩ := g_ck hD
          refine mr_iald C hw (Ch_N22 hk0) (Ch_T22 hk0) q23 dX2_aim_103 ?_
          obtain ⟨r26, M24, L25, h1, hD⟩ := g_b3 hD
          refine md_cvI (As := [.int (M (k + 22) v4.toNatClampNeg)]) (rest := []) C hw (tX2_isAim l G ad fu k (M (k + 22) v4.toNatClampNeg) M L h1 hk0) kc_2 (Ch_N0 hk0) (Ch_T0 hk0) wd_1232 cwX2_isAim ⟨Nat.le_of_ble_eq_true rfl, Nat.le_of_ble_eq_true rfl⟩ rfl hl.1 (Nat.le_of_ble_eq_true rfl) dX2_aim_104 rfl rfl ⟨Nat.zero_le _, Nat.zero_le _⟩ rfl (fun H locs hw => ?_)
          refine lv_if_eq (tgt := 124) C.1.1 C.1.2.1 dX2_aim_107 (by decide) (fun c27 => ?_) (fun c27 => ?_)
          · replace hD := g_pos c27 hD
            exact hb124 v3 v4 M24 L25 _ _ ls hD hw (lv_sub hl [0, 1, 2, 3] rfl)
          · replace hD := g_neg c27 hD
            refine lv_aload_n C.1.1 C.1.2.1 dX2_aim_110 rfl (lv_at hl 0 rfl) ?_
            refine lv_aload_n C.1.1 C.1.2.1 dX2_aim_111 rfl (lv_at hl 0 rfl) ?_
            refine mr_getR C hw kc_2 1 (Ch_N0 hk0) (Ch_T0 hk0) (Ch_F0_1 hk0) wd_445 dX2_aim_112 (by decide) rfl ?_
            refine lv_iconst (v := 1) C.1.1 C.1.2.1 dX2_aim_115 (by decide) ?_
            refine mr_aald C hw (Ch_N20 hk0) (Ch_T20 hk0) (by decide) (by decide) rfl rfl (show vp_in 1 7 from by unfold vp_in; decide) (Ch_R20 hk0 _ (by decide : 1 < 7)).1 dX2_aim_116 ?_
            refine lv_iload C.1.1 C.1.2.1 dX2_aim_117 (lv_at hl 3 rfl) ?_
            obtain ⟨q29, hD⟩ := g_ck hD
            refine mr_iald C hw (Ch_N22 hk0) (Ch_T22 hk0) q29 dX2_aim_119 ?_
            refine lv_iload_n C.1.1 C.1.2.1 dX2_aim_120 rfl (lv_at hl 1 rfl) ?_
            obtain ⟨M30, L31, h1, hD⟩ := g_b2 hD
            refine md_cvV (As := [.int (M24 (k + 22) v4.toNatClampNeg), .int a2]) (rest := []) C hw (tX2_aimAt l G ad fu k (M24 (k + 22) v4.toNatClampNeg) a2 M24 L25 h1 hk0) kc_2 (Ch_N0 hk0) (Ch_T0 hk0) wd_1659 cwX2_aimAt ⟨Nat.le_of_ble_eq_true rfl, Nat.le_of_ble_eq_true rfl⟩ rfl hl.1 (Nat.le_of_ble_eq_true rfl) dX2_aim_121 rfl rfl ⟨Nat.zero_le _, Nat.zero_le _⟩ rfl (fun H locs hw => ?_)
            exact hb124 v3 v4 M30 L31 _ _ ls hD hw (lv_sub hl [0, 1, 2, 3] rfl)
  have hh2 : ∀ (f : Nat) (v3 : Int32) (M : mwM) (L : mwL) (H : Heap) (locs : List Loc) (ls : Array Slot), fX2_aim_h2 fu k a1 a2 f (v3, M, L) = some (M0, L0) → mw_W G ad NF TF FF M L H locs → lv_has ls 5 [(0, .ref (ad k)), (1, .int a1), (2, .int a2), (3, .int v3)] → W p l e ({ frames := 1, cells := 0, slots := 0, locals := 27 }) s m [.ref (ad k), .int a1, .int a2].toArray below meth c H locs 0 0 (MQ below (mw_Qv G ad NF TF FF (mw_eqV M0 L0)) [.ref (ad k), .int a1, .int a2].toArray s 0 0 (mw_fr G)) (F0 m 2 ls []) := by
    intro f
    induction f with
    | zero => intro v3 M L H locs ls hD; cases hD
    | succ f2 ih2 =>
      intro v3 M L H locs ls hD hw hl
      replace hD : fX2_aim_i2 fu k a1 a2 (fX2_aim_h2 fu k a1 a2 f2) v3 M L = some (M0, L0) := hD
      unfold fX2_aim_i2 at hD
      refine lv_iload_n C.1.1 C.1.2.1 dX2_aim_2 rfl (lv_at hl 3 rfl) ?_
      refine lv_aload_n C.1.1 C.1.2.1 dX2_aim_3 rfl (lv_at hl 0 rfl) ?_
      refine mr_getI C hw kc_2 7 (Ch_N0 hk0) (Ch_T0 hk0) wd_458 dX2_aim_4 (by decide) rfl ?_
      refine lv_icmp_gt (tgt := 36) C.1.1 C.1.2.1 dX2_aim_7 (by decide) (fun c1 => ?_) (fun c1 => ?_)
      · replace hD := g_pos c1 hD
        refine lv_iload_n C.1.1 C.1.2.1 dX2_aim_36 rfl (lv_at hl 1 rfl) ?_
        refine lv_if_ne (tgt := 41) C.1.1 C.1.2.1 dX2_aim_37 (by decide) (fun c2 => ?_) (fun c2 => ?_)
        · replace hD := g_neg c2 hD
          refine lv_aload_n C.1.1 C.1.2.1 dX2_aim_41 rfl (lv_at hl 0 rfl) ?_
          refine mr_getR C hw kc_2 1 (Ch_N0 hk0) (Ch_T0 hk0) (Ch_F0_1 hk0) wd_445 dX2_aim_42 (by decide) rfl ?_
          refine lv_iconst (v := 1) C.1.1 C.1.2.1 dX2_aim_45 (by decide) ?_
          refine mr_aald C hw (Ch_N20 hk0) (Ch_T20 hk0) (by decide) (by decide) rfl rfl (show vp_in 1 7 from by unfold vp_in; decide) (Ch_R20 hk0 _ (by decide : 1 < 7)).1 dX2_aim_46 ?_
          refine lv_iload_n C.1.1 C.1.2.1 dX2_aim_47 rfl (lv_at hl 1 rfl) ?_
          obtain ⟨q4, hD⟩ := g_ck hD
          refine mr_iald C hw (Ch_N22 hk0) (Ch_T22 hk0) q4 dX2_aim_48 ?_
          obtain ⟨x5, ex5, hD⟩ := g_let hD
          refine W.eq (g2 := F0 m 49 ls (.int x5 :: [])) (by rw [ex5]) ?_
          refine lv_istore_n (lv' := [(3, .int x5), (0, .ref (ad k)), (1, .int a1), (2, .int a2)]) C.1.1 C.1.2.1 dX2_aim_49 rfl hl (by decide) rfl (fun ls hl => ?_)
          refine lv_aload_n C.1.1 C.1.2.1 dX2_aim_50 rfl (lv_at hl 1 rfl) ?_
          refine mr_getR C hw kc_2 0 (Ch_N0 hk0) (Ch_T0 hk0) (Ch_F0_0 hk0) wd_444 dX2_aim_51 (by decide) rfl ?_
          refine lv_iconst (v := 1) C.1.1 C.1.2.1 dX2_aim_54 (by decide) ?_
          refine mr_aald C hw (Ch_N1 hk0) (Ch_T1 hk0) (by decide) (by decide) rfl rfl (show vp_in 1 18 from by unfold vp_in; decide) (Ch_R1 hk0 _ (by decide : 1 < 18)).1 dX2_aim_55 ?_
          refine lv_iload_n C.1.1 C.1.2.1 dX2_aim_56 rfl (lv_at hl 0 rfl) ?_
          obtain ⟨q7, hD⟩ := g_ck hD
          refine mr_iald C hw (Ch_N3 hk0) (Ch_T3 hk0) q7 dX2_aim_57 ?_
          refine lv_iconst (v := 4) C.1.1 C.1.2.1 dX2_aim_58 (by decide) ?_
          refine lv_icmp_eq (tgt := 69) C.1.1 C.1.2.1 dX2_aim_59 (by decide) (fun c8 => ?_) (fun c8 => ?_)
          · replace hD := g_pos c8 hD
            refine lv_iconst (v := 1) C.1.1 C.1.2.1 dX2_aim_69 (by decide) ?_
            refine lv_istore (lv' := [(4, .int 1), (3, .int x5), (0, .ref (ad k)), (1, .int a1), (2, .int a2)]) C.1.1 C.1.2.1 dX2_aim_70 hl (by decide) rfl (fun ls hl => ?_)
            exact hh72 fu x5 1 M L _ _ ls hD hw (lv_sub hl [2, 4, 1, 0] rfl)
          · replace hD := g_neg c8 hD
            refine lv_aload_n C.1.1 C.1.2.1 dX2_aim_62 rfl (lv_at hl 1 rfl) ?_
            refine lv_iload_n C.1.1 C.1.2.1 dX2_aim_63 rfl (lv_at hl 0 rfl) ?_
            refine lv_iload_n C.1.1 C.1.2.1 dX2_aim_64 rfl (lv_at hl 3 rfl) ?_
            obtain ⟨M9, L10, h1, hD⟩ := g_b2 hD
            refine md_cvV (As := [.int x5, .int a2]) (rest := []) C hw (tX2_aimAt l G ad fu k x5 a2 M L h1 hk0) kc_2 (Ch_N0 hk0) (Ch_T0 hk0) wd_1659 cwX2_aimAt ⟨Nat.le_of_ble_eq_true rfl, Nat.le_of_ble_eq_true rfl⟩ rfl hl.1 (Nat.le_of_ble_eq_true rfl) dX2_aim_65 rfl rfl ⟨Nat.zero_le _, Nat.zero_le _⟩ rfl (fun H locs hw => ?_)
            exact mr_vret C hr hlocks hw (Option.some.inj hD) dX2_aim_68
        · replace hD := g_pos c2 hD
          exact mr_vret C hr hlocks hw (Option.some.inj hD) dX2_aim_40
      · replace hD := g_neg c1 hD
        refine lv_aload_n C.1.1 C.1.2.1 dX2_aim_10 rfl (lv_at hl 0 rfl) ?_
        refine mr_getR C hw kc_2 0 (Ch_N0 hk0) (Ch_T0 hk0) (Ch_F0_0 hk0) wd_444 dX2_aim_11 (by decide) rfl ?_
        refine lv_bipush (v := 10) C.1.1 C.1.2.1 dX2_aim_14 (by decide) ?_
        refine mr_aald C hw (Ch_N1 hk0) (Ch_T1 hk0) (by decide) (by decide) rfl rfl (show vp_in 10 18 from by unfold vp_in; decide) (Ch_R1 hk0 _ (by decide : 10 < 18)).1 dX2_aim_16 ?_
        refine lv_iload_n C.1.1 C.1.2.1 dX2_aim_17 rfl (lv_at hl 3 rfl) ?_
        refine lv_iconst (v := 0) C.1.1 C.1.2.1 dX2_aim_18 (by decide) ?_
        obtain ⟨q12, hD⟩ := g_ck hD
        obtain ⟨M13, eM13, hD⟩ := g_let hD
        refine mr_iast C hw (Ch_N12 hk0) (Ch_T12 hk0) q12 dX2_aim_19 (fun H locs hw => ?_)
        replace hw : mw_W G ad NF TF FF M13 L H locs := by rw [eM13]; exact hw
        refine lv_aload_n C.1.1 C.1.2.1 dX2_aim_20 rfl (lv_at hl 0 rfl) ?_
        refine mr_getR C hw kc_2 0 (Ch_N0 hk0) (Ch_T0 hk0) (Ch_F0_0 hk0) wd_444 dX2_aim_21 (by decide) rfl ?_
        refine lv_bipush (v := 11) C.1.1 C.1.2.1 dX2_aim_24 (by decide) ?_
        refine mr_aald C hw (Ch_N1 hk0) (Ch_T1 hk0) (by decide) (by decide) rfl rfl (show vp_in 11 18 from by unfold vp_in; decide) (Ch_R1 hk0 _ (by decide : 11 < 18)).1 dX2_aim_26 ?_
        refine lv_iload_n C.1.1 C.1.2.1 dX2_aim_27 rfl (lv_at hl 3 rfl) ?_
        refine lv_iconst (v := 0) C.1.1 C.1.2.1 dX2_aim_28 (by decide) ?_
        obtain ⟨q15, hD⟩ := g_ck hD
        obtain ⟨M16, eM16, hD⟩ := g_let hD
        refine mr_iast C hw (Ch_N13 hk0) (Ch_T13 hk0) q15 dX2_aim_29 (fun H locs hw => ?_)
        replace hw : mw_W G ad NF TF FF M16 L H locs := by rw [eM16]; exact hw
        obtain ⟨x17, ex17, hD⟩ := g_let hD
        refine lv_iinc (v := x17) (lv' := [(3, .int x17), (0, .ref (ad k)), (1, .int a1), (2, .int a2)]) C.1.1 C.1.2.1 dX2_aim_30 hl (k := 3) rfl (by rw [ex17]; rfl) (by decide) rfl (fun ls hl => ?_)
        refine lv_goto (tgt := 2) C.1.1 C.1.2.1 dX2_aim_33 (by decide) ?_
        exact ih2 x17 M16 L _ _ ls hD hw (lv_sub hl [1, 2, 3, 0] rfl)
  unfold DX2_aim at hD
  refine lv_iconst (v := 0) C.1.1 C.1.2.1 dX2_aim_0 (by decide) ?_
  refine lv_istore_n (lv' := [(3, .int 0), (0, .ref (ad k)), (1, .int a1), (2, .int a2)]) C.1.1 C.1.2.1 dX2_aim_1 rfl hl (by decide) rfl (fun ls hl => ?_)
  exact hh2 fu 0 M L _ _ ls hD hw (lv_sub hl [1, 2, 3, 0] rfl)

theorem dX2_pickChild_0 : decode cX2_pickChild 0 = .ok (.aload_n 0, 1) := by decide +kernel
theorem dX2_pickChild_1 : decode cX2_pickChild 1 = .ok (.getfield 13, 3) := by decide +kernel
theorem dX2_pickChild_4 : decode cX2_pickChild 4 = .ok (.bipush 10, 2) := by decide +kernel
theorem dX2_pickChild_6 : decode cX2_pickChild 6 = .ok (.aaload, 1) := by decide +kernel
theorem dX2_pickChild_7 : decode cX2_pickChild 7 = .ok (.iload_n 1, 1) := by decide +kernel
theorem dX2_pickChild_8 : decode cX2_pickChild 8 = .ok (.iaload, 1) := by decide +kernel
theorem dX2_pickChild_9 : decode cX2_pickChild 9 = .ok (.ifCond .ne 33, 3) := by decide +kernel
theorem dX2_pickChild_12 : decode cX2_pickChild 12 = .ok (.aload_n 0, 1) := by decide +kernel
theorem dX2_pickChild_13 : decode cX2_pickChild 13 = .ok (.getfield 13, 3) := by decide +kernel
theorem dX2_pickChild_16 : decode cX2_pickChild 16 = .ok (.bipush 11, 2) := by decide +kernel
theorem dX2_pickChild_18 : decode cX2_pickChild 18 = .ok (.aaload, 1) := by decide +kernel
theorem dX2_pickChild_19 : decode cX2_pickChild 19 = .ok (.iload_n 1, 1) := by decide +kernel
theorem dX2_pickChild_20 : decode cX2_pickChild 20 = .ok (.iaload, 1) := by decide +kernel
theorem dX2_pickChild_21 : decode cX2_pickChild 21 = .ok (.ifCond .eq 21, 3) := by decide +kernel
theorem dX2_pickChild_24 : decode cX2_pickChild 24 = .ok (.aload_n 0, 1) := by decide +kernel
theorem dX2_pickChild_25 : decode cX2_pickChild 25 = .ok (.getfield 13, 3) := by decide +kernel
theorem dX2_pickChild_28 : decode cX2_pickChild 28 = .ok (.bipush 10, 2) := by decide +kernel
theorem dX2_pickChild_30 : decode cX2_pickChild 30 = .ok (.aaload, 1) := by decide +kernel
theorem dX2_pickChild_31 : decode cX2_pickChild 31 = .ok (.iload_n 1, 1) := by decide +kernel
theorem dX2_pickChild_32 : decode cX2_pickChild 32 = .ok (.aload_n 0, 1) := by decide +kernel
theorem dX2_pickChild_33 : decode cX2_pickChild 33 = .ok (.getfield 13, 3) := by decide +kernel
theorem dX2_pickChild_36 : decode cX2_pickChild 36 = .ok (.bipush 7, 2) := by decide +kernel
theorem dX2_pickChild_38 : decode cX2_pickChild 38 = .ok (.aaload, 1) := by decide +kernel
theorem dX2_pickChild_39 : decode cX2_pickChild 39 = .ok (.iload_n 1, 1) := by decide +kernel
theorem dX2_pickChild_40 : decode cX2_pickChild 40 = .ok (.iaload, 1) := by decide +kernel
theorem dX2_pickChild_41 : decode cX2_pickChild 41 = .ok (.iastore, 1) := by decide +kernel
theorem dX2_pickChild_42 : decode cX2_pickChild 42 = .ok (.aload_n 0, 1) := by decide +kernel
theorem dX2_pickChild_43 : decode cX2_pickChild 43 = .ok (.getfield 13, 3) := by decide +kernel
theorem dX2_pickChild_46 : decode cX2_pickChild 46 = .ok (.bipush 10, 2) := by decide +kernel
theorem dX2_pickChild_48 : decode cX2_pickChild 48 = .ok (.aaload, 1) := by decide +kernel
theorem dX2_pickChild_49 : decode cX2_pickChild 49 = .ok (.iload_n 1, 1) := by decide +kernel
theorem dX2_pickChild_50 : decode cX2_pickChild 50 = .ok (.iaload, 1) := by decide +kernel
theorem dX2_pickChild_51 : decode cX2_pickChild 51 = .ok (.ifCond .ne 20, 3) := by decide +kernel
theorem dX2_pickChild_54 : decode cX2_pickChild 54 = .ok (.aload_n 0, 1) := by decide +kernel
theorem dX2_pickChild_55 : decode cX2_pickChild 55 = .ok (.getfield 13, 3) := by decide +kernel
theorem dX2_pickChild_58 : decode cX2_pickChild 58 = .ok (.bipush 10, 2) := by decide +kernel
theorem dX2_pickChild_60 : decode cX2_pickChild 60 = .ok (.aaload, 1) := by decide +kernel
theorem dX2_pickChild_61 : decode cX2_pickChild 61 = .ok (.iload_n 1, 1) := by decide +kernel
theorem dX2_pickChild_62 : decode cX2_pickChild 62 = .ok (.aload_n 0, 1) := by decide +kernel
theorem dX2_pickChild_63 : decode cX2_pickChild 63 = .ok (.getfield 13, 3) := by decide +kernel
theorem dX2_pickChild_66 : decode cX2_pickChild 66 = .ok (.iconst 4, 1) := by decide +kernel
theorem dX2_pickChild_67 : decode cX2_pickChild 67 = .ok (.aaload, 1) := by decide +kernel
theorem dX2_pickChild_68 : decode cX2_pickChild 68 = .ok (.iload_n 1, 1) := by decide +kernel
theorem dX2_pickChild_69 : decode cX2_pickChild 69 = .ok (.iaload, 1) := by decide +kernel
theorem dX2_pickChild_70 : decode cX2_pickChild 70 = .ok (.iastore, 1) := by decide +kernel
theorem dX2_pickChild_71 : decode cX2_pickChild 71 = .ok (.return_, 1) := by decide +kernel
theorem cwX2_pickChild : mw_cwV yX2_pickChild cX2_pickChild 2 (none) 1 := ⟨⟨wd_12, wd_1670, by decide +kernel⟩, wd_1669, sl_120⟩
set_option maxHeartbeats 4000000 in
set_option maxRecDepth 100000 in
theorem tX2_pickChild (l : Launch) (G : mwG) (ad : Nat → Nat) (fu : Nat) (k : Nat) (a1 : Int32) (M : mwM) (L : mwL) {M0 : mwM} {L0 : mwL} (hD : DX2_pickChild fu k a1 M L = some (M0, L0)) (hk0 : isCh k) : Met l yX2_pickChild (Cond.code yX2_pickChild cX2_pickChild 2 (none) :: GT) ({ frames := 0, cells := 0, slots := 0, locals := 0 }) (mw_Pre G ad NF TF FF M L [.ref (ad k), .int a1]) (mw_Qv G ad NF TF FF (mw_eqV M0 L0)) 0 0 (mw_fr G) := by
  refine mw_enter (by decide) (Nat.le_of_ble_eq_true rfl) ?_
  intro p e s m below meth c ls C hr hlocks hnm hw hl
  have hl : lv_has ls 2 [(0, .ref (ad k)), (1, .int a1)] := hl
  have hb71 : ∀ (M : mwM) (L : mwL) (H : Heap) (locs : List Loc) (ls : Array Slot), fX2_pickChild_b71 fu k a1 M L = some (M0, L0) → mw_W G ad NF TF FF M L H locs → lv_has ls 2 [] → W p l e ({ frames := 0, cells := 0, slots := 0, locals := 0 }) s m [.ref (ad k), .int a1].toArray below meth c H locs 0 0 (MQ below (mw_Qv G ad NF TF FF (mw_eqV M0 L0)) [.ref (ad k), .int a1].toArray s 0 0 (mw_fr G)) (F0 m 71 ls []) := by
    intro M L H locs ls hD hw hl
    unfold fX2_pickChild_b71 at hD
    exact mr_vret C hr hlocks hw (Option.some.inj hD) dX2_pickChild_71
  have hb42 : ∀ (M : mwM) (L : mwL) (H : Heap) (locs : List Loc) (ls : Array Slot), fX2_pickChild_b42 fu k a1 M L = some (M0, L0) → mw_W G ad NF TF FF M L H locs → lv_has ls 2 [(0, .ref (ad k)), (1, .int a1)] → W p l e ({ frames := 0, cells := 0, slots := 0, locals := 0 }) s m [.ref (ad k), .int a1].toArray below meth c H locs 0 0 (MQ below (mw_Qv G ad NF TF FF (mw_eqV M0 L0)) [.ref (ad k), .int a1].toArray s 0 0 (mw_fr G)) (F0 m 42 ls []) := by
    intro M L H locs ls hD hw hl
    unfold fX2_pickChild_b42 at hD
    refine lv_aload_n C.1.1 C.1.2.1 dX2_pickChild_42 rfl (lv_at hl 0 rfl) ?_
    refine mr_getR C hw kc_2 0 (Ch_N0 hk0) (Ch_T0 hk0) (Ch_F0_0 hk0) wd_444 dX2_pickChild_43 (by decide) rfl ?_
    refine lv_bipush (v := 10) C.1.1 C.1.2.1 dX2_pickChild_46 (by decide) ?_
    refine mr_aald C hw (Ch_N1 hk0) (Ch_T1 hk0) (by decide) (by decide) rfl rfl (show vp_in 10 18 from by unfold vp_in; decide) (Ch_R1 hk0 _ (by decide : 10 < 18)).1 dX2_pickChild_48 ?_
    refine lv_iload_n C.1.1 C.1.2.1 dX2_pickChild_49 rfl (lv_at hl 1 rfl) ?_
    obtain ⟨q2, hD⟩ := g_ck hD
    refine mr_iald C hw (Ch_N12 hk0) (Ch_T12 hk0) q2 dX2_pickChild_50 ?_
    refine lv_if_ne (tgt := 71) C.1.1 C.1.2.1 dX2_pickChild_51 (by decide) (fun c3 => ?_) (fun c3 => ?_)
    · replace hD := g_neg c3 hD
      exact hb71 M L _ _ ls hD hw (lv_sub hl [] rfl)
    · replace hD := g_pos c3 hD
      refine lv_aload_n C.1.1 C.1.2.1 dX2_pickChild_54 rfl (lv_at hl 0 rfl) ?_
      refine mr_getR C hw kc_2 0 (Ch_N0 hk0) (Ch_T0 hk0) (Ch_F0_0 hk0) wd_444 dX2_pickChild_55 (by decide) rfl ?_
      refine lv_bipush (v := 10) C.1.1 C.1.2.1 dX2_pickChild_58 (by decide) ?_
      refine mr_aald C hw (Ch_N1 hk0) (Ch_T1 hk0) (by decide) (by decide) rfl rfl (show vp_in 10 18 from by unfold vp_in; decide) (Ch_R1 hk0 _ (by decide : 10 < 18)).1 dX2_pickChild_60 ?_
      refine lv_iload_n C.1.1 C.1.2.1 dX2_pickChild_61 rfl (lv_at hl 1 rfl) ?_
      refine lv_aload_n C.1.1 C.1.2.1 dX2_pickChild_62 rfl (lv_at hl 0 rfl) ?_
      refine mr_getR C hw kc_2 0 (Ch_N0 hk0) (Ch_T0 hk0) (Ch_F0_0 hk0) wd_444 dX2_pickChild_63 (by decide) rfl ?_
      refine lv_iconst (v := 4) C.1.1 C.1.2.1 dX2_pickChild_66 (by decide) ?_
      refine mr_aald C hw (Ch_N1 hk0) (Ch_T1 hk0) (by decide) (by decide) rfl rfl (show vp_in 4 18 from by unfold vp_in; decide) (Ch_R1 hk0 _ (by decide : 4 < 18)).1 dX2_pickChild_67 ?_
      refine lv_iload_n C.1.1 C.1.2.1 dX2_pickChild_68 rfl (lv_at hl 1 rfl) ?_
      obtain ⟨q6, hD⟩ := g_ck hD
      refine mr_iald C hw (Ch_N6 hk0) (Ch_T6 hk0) q6 dX2_pickChild_69 ?_
      obtain ⟨q7, hD⟩ := g_ck hD
      obtain ⟨M8, eM8, hD⟩ := g_let hD
      refine mr_iast C hw (Ch_N12 hk0) (Ch_T12 hk0) q7 dX2_pickChild_70 (fun H locs hw => ?_)
      replace hw : mw_W G ad NF TF FF M8 L H locs := by rw [eM8]; exact hw
      exact hb71 M8 L _ _ ls hD hw (lv_sub hl [] rfl)
  unfold DX2_pickChild at hD
  refine lv_aload_n C.1.1 C.1.2.1 dX2_pickChild_0 rfl (lv_at hl 0 rfl) ?_
  refine mr_getR C hw kc_2 0 (Ch_N0 hk0) (Ch_T0 hk0) (Ch_F0_0 hk0) wd_444 dX2_pickChild_1 (by decide) rfl ?_
  refine lv_bipush (v := 10) C.1.1 C.1.2.1 dX2_pickChild_4 (by decide) ?_
  refine mr_aald C hw (Ch_N1 hk0) (Ch_T1 hk0) (by decide) (by decide) rfl rfl (show vp_in 10 18 from by unfold vp_in; decide) (Ch_R1 hk0 _ (by decide : 10 < 18)).1 dX2_pickChild_6 ?_
  refine lv_iload_n C.1.1 C.1.2.1 dX2_pickChild_7 rfl (lv_at hl 1 rfl) ?_
  obtain ⟨q10, hD⟩ := g_ck hD
  refine mr_iald C hw (Ch_N12 hk0) (Ch_T12 hk0) q10 dX2_pickChild_8 ?_
  refine lv_if_ne (tgt := 42) C.1.1 C.1.2.1 dX2_pickChild_9 (by decide) (fun c11 => ?_) (fun c11 => ?_)
  · replace hD := g_neg c11 hD
    exact hb42 M L _ _ ls hD hw (lv_sub hl [0, 1] rfl)
  · replace hD := g_pos c11 hD
    refine lv_aload_n C.1.1 C.1.2.1 dX2_pickChild_12 rfl (lv_at hl 0 rfl) ?_
    refine mr_getR C hw kc_2 0 (Ch_N0 hk0) (Ch_T0 hk0) (Ch_F0_0 hk0) wd_444 dX2_pickChild_13 (by decide) rfl ?_
    refine lv_bipush (v := 11) C.1.1 C.1.2.1 dX2_pickChild_16 (by decide) ?_
    refine mr_aald C hw (Ch_N1 hk0) (Ch_T1 hk0) (by decide) (by decide) rfl rfl (show vp_in 11 18 from by unfold vp_in; decide) (Ch_R1 hk0 _ (by decide : 11 < 18)).1 dX2_pickChild_18 ?_
    refine lv_iload_n C.1.1 C.1.2.1 dX2_pickChild_19 rfl (lv_at hl 1 rfl) ?_
    obtain ⟨q13, hD⟩ := g_ck hD
    refine mr_iald C hw (Ch_N13 hk0) (Ch_T13 hk0) q13 dX2_pickChild_20 ?_
    refine lv_if_eq (tgt := 42) C.1.1 C.1.2.1 dX2_pickChild_21 (by decide) (fun c14 => ?_) (fun c14 => ?_)
    · replace hD := g_pos c14 hD
      exact hb42 M L _ _ ls hD hw (lv_sub hl [0, 1] rfl)
    · replace hD := g_neg c14 hD
      refine lv_aload_n C.1.1 C.1.2.1 dX2_pickChild_24 rfl (lv_at hl 0 rfl) ?_
      refine mr_getR C hw kc_2 0 (Ch_N0 hk0) (Ch_T0 hk0) (Ch_F0_0 hk0) wd_444 dX2_pickChild_25 (by decide) rfl ?_
      refine lv_bipush (v := 10) C.1.1 C.1.2.1 dX2_pickChild_28 (by decide) ?_
      refine mr_aald C hw (Ch_N1 hk0) (Ch_T1 hk0) (by decide) (by decide) rfl rfl (show vp_in 10 18 from by unfold vp_in; decide) (Ch_R1 hk0 _ (by decide : 10 < 18)).1 dX2_pickChild_30 ?_
      refine lv_iload_n C.1.1 C.1.2.1 dX2_pickChild_31 rfl (lv_at hl 1 rfl) ?_
      refine lv_aload_n C.1.1 C.1.2.1 dX2_pickChild_32 rfl (lv_at hl 0 rfl) ?_
      refine mr_getR C hw kc_2 0 (Ch_N0 hk0) (Ch_T0 hk0) (Ch_F0_0 hk0) wd_444 dX2_pickChild_33 (by decide) rfl ?_
      refine lv_bipush (v := 7) C.1.1 C.1.2.1 dX2_pickChild_36 (by decide) ?_
      refine mr_aald C hw (Ch_N1 hk0) (Ch_T1 hk0) (by decide) (by decide) rfl rfl (show vp_in 7 18 from by unfold vp_in; decide) (Ch_R1 hk0 _ (by decide : 7 < 18)).1 dX2_pickChild_38 ?_
      refine lv_iload_n C.1.1 C.1.2.1 dX2_pickChild_39 rfl (lv_at hl 1 rfl) ?_
      obtain ⟨q17, hD⟩ := g_ck hD
      refine mr_iald C hw (Ch_N9 hk0) (Ch_T9 hk0) q17 dX2_pickChild_40 ?_
      obtain ⟨q18, hD⟩ := g_ck hD
      obtain ⟨M19, eM19, hD⟩ := g_let hD
      refine mr_iast C hw (Ch_N12 hk0) (Ch_T12 hk0) q18 dX2_pickChild_41 (fun H locs hw => ?_)
      replace hw : mw_W G ad NF TF FF M19 L H locs := by rw [eM19]; exact hw
      exact hb42 M19 L _ _ ls hD hw (lv_sub hl [0, 1] rfl)

theorem dX2_doActs_0 : decode cX2_doActs 0 = .ok (.iconst 0, 1) := by decide +kernel
theorem dX2_doActs_1 : decode cX2_doActs 1 = .ok (.istore_n 3, 1) := by decide +kernel
theorem dX2_doActs_2 : decode cX2_doActs 2 = .ok (.iload_n 3, 1) := by decide +kernel
theorem dX2_doActs_3 : decode cX2_doActs 3 = .ok (.aload_n 0, 1) := by decide +kernel
theorem dX2_doActs_4 : decode cX2_doActs 4 = .ok (.getfield 43, 3) := by decide +kernel
theorem dX2_doActs_7 : decode cX2_doActs 7 = .ok (.if_icmp .ge 83, 3) := by decide +kernel
theorem dX2_doActs_10 : decode cX2_doActs 10 = .ok (.aload_n 0, 1) := by decide +kernel
theorem dX2_doActs_11 : decode cX2_doActs 11 = .ok (.getfield 19, 3) := by decide +kernel
theorem dX2_doActs_14 : decode cX2_doActs 14 = .ok (.iconst 1, 1) := by decide +kernel
theorem dX2_doActs_15 : decode cX2_doActs 15 = .ok (.aaload, 1) := by decide +kernel
theorem dX2_doActs_16 : decode cX2_doActs 16 = .ok (.iload_n 3, 1) := by decide +kernel
theorem dX2_doActs_17 : decode cX2_doActs 17 = .ok (.iaload, 1) := by decide +kernel
theorem dX2_doActs_18 : decode cX2_doActs 18 = .ok (.iload_n 1, 1) := by decide +kernel
theorem dX2_doActs_19 : decode cX2_doActs 19 = .ok (.if_icmp .ne 65, 3) := by decide +kernel
theorem dX2_doActs_22 : decode cX2_doActs 22 = .ok (.aload_n 0, 1) := by decide +kernel
theorem dX2_doActs_23 : decode cX2_doActs 23 = .ok (.getfield 19, 3) := by decide +kernel
theorem dX2_doActs_26 : decode cX2_doActs 26 = .ok (.iconst 0, 1) := by decide +kernel
theorem dX2_doActs_27 : decode cX2_doActs 27 = .ok (.aaload, 1) := by decide +kernel
theorem dX2_doActs_28 : decode cX2_doActs 28 = .ok (.iload_n 3, 1) := by decide +kernel
theorem dX2_doActs_29 : decode cX2_doActs 29 = .ok (.iaload, 1) := by decide +kernel
theorem dX2_doActs_30 : decode cX2_doActs 30 = .ok (.iload_n 2, 1) := by decide +kernel
theorem dX2_doActs_31 : decode cX2_doActs 31 = .ok (.if_icmp .ne 53, 3) := by decide +kernel
theorem dX2_doActs_34 : decode cX2_doActs 34 = .ok (.aload_n 0, 1) := by decide +kernel
theorem dX2_doActs_35 : decode cX2_doActs 35 = .ok (.getfield 19, 3) := by decide +kernel
theorem dX2_doActs_38 : decode cX2_doActs 38 = .ok (.iconst 2, 1) := by decide +kernel
theorem dX2_doActs_39 : decode cX2_doActs 39 = .ok (.aaload, 1) := by decide +kernel
theorem dX2_doActs_40 : decode cX2_doActs 40 = .ok (.iload_n 3, 1) := by decide +kernel
theorem dX2_doActs_41 : decode cX2_doActs 41 = .ok (.iaload, 1) := by decide +kernel
theorem dX2_doActs_42 : decode cX2_doActs 42 = .ok (.istore 4, 2) := by decide +kernel
theorem dX2_doActs_44 : decode cX2_doActs 44 = .ok (.aload_n 0, 1) := by decide +kernel
theorem dX2_doActs_45 : decode cX2_doActs 45 = .ok (.getfield 22, 3) := by decide +kernel
theorem dX2_doActs_48 : decode cX2_doActs 48 = .ok (.iload 4, 2) := by decide +kernel
theorem dX2_doActs_50 : decode cX2_doActs 50 = .ok (.aload_n 0, 1) := by decide +kernel
theorem dX2_doActs_51 : decode cX2_doActs 51 = .ok (.getfield 19, 3) := by decide +kernel
theorem dX2_doActs_54 : decode cX2_doActs 54 = .ok (.iconst 4, 1) := by decide +kernel
theorem dX2_doActs_55 : decode cX2_doActs 55 = .ok (.aaload, 1) := by decide +kernel
theorem dX2_doActs_56 : decode cX2_doActs 56 = .ok (.iload_n 3, 1) := by decide +kernel
theorem dX2_doActs_57 : decode cX2_doActs 57 = .ok (.iaload, 1) := by decide +kernel
theorem dX2_doActs_58 : decode cX2_doActs 58 = .ok (.iconst 1, 1) := by decide +kernel
theorem dX2_doActs_59 : decode cX2_doActs 59 = .ok (.if_icmp .ne 13, 3) := by decide +kernel
theorem dX2_doActs_62 : decode cX2_doActs 62 = .ok (.aload_n 0, 1) := by decide +kernel
theorem dX2_doActs_63 : decode cX2_doActs 63 = .ok (.getfield 22, 3) := by decide +kernel
theorem dX2_doActs_66 : decode cX2_doActs 66 = .ok (.iload 4, 2) := by decide +kernel
theorem dX2_doActs_68 : decode cX2_doActs 68 = .ok (.laload, 1) := by decide +kernel
theorem dX2_doActs_69 : decode cX2_doActs 69 = .ok (.goto 4, 3) := by decide +kernel
theorem dX2_doActs_72 : decode cX2_doActs 72 = .ok (.lconst 0, 1) := by decide +kernel
theorem dX2_doActs_73 : decode cX2_doActs 73 = .ok (.aload_n 0, 1) := by decide +kernel
theorem dX2_doActs_74 : decode cX2_doActs 74 = .ok (.getfield 19, 3) := by decide +kernel
theorem dX2_doActs_77 : decode cX2_doActs 77 = .ok (.iconst 3, 1) := by decide +kernel
theorem dX2_doActs_78 : decode cX2_doActs 78 = .ok (.aaload, 1) := by decide +kernel
theorem dX2_doActs_79 : decode cX2_doActs 79 = .ok (.iload_n 3, 1) := by decide +kernel
theorem dX2_doActs_80 : decode cX2_doActs 80 = .ok (.iaload, 1) := by decide +kernel
theorem dX2_doActs_81 : decode cX2_doActs 81 = .ok (.i2l, 1) := by decide +kernel
theorem dX2_doActs_82 : decode cX2_doActs 82 = .ok (.ladd, 1) := by decide +kernel
theorem dX2_doActs_83 : decode cX2_doActs 83 = .ok (.lastore, 1) := by decide +kernel
theorem dX2_doActs_84 : decode cX2_doActs 84 = .ok (.iinc 3 1, 3) := by decide +kernel
theorem dX2_doActs_87 : decode cX2_doActs 87 = .ok (.goto (-85), 3) := by decide +kernel
theorem dX2_doActs_90 : decode cX2_doActs 90 = .ok (.return_, 1) := by decide +kernel
theorem cwX2_doActs : mw_cwV yX2_doActs cX2_doActs 5 (none) 2 := ⟨⟨wd_12, wd_1674, by decide +kernel⟩, wd_1673, sl_121⟩
set_option maxHeartbeats 4000000 in
set_option maxRecDepth 100000 in
theorem tX2_doActs (l : Launch) (G : mwG) (ad : Nat → Nat) (fu : Nat) (k : Nat) (a1 : Int32) (a2 : Int32) (M : mwM) (L : mwL) {M0 : mwM} {L0 : mwL} (hD : DX2_doActs fu k a1 a2 M L = some (M0, L0)) (hk0 : isCh k) : Met l yX2_doActs (Cond.code yX2_doActs cX2_doActs 5 (none) :: GT) ({ frames := 0, cells := 0, slots := 0, locals := 0 }) (mw_Pre G ad NF TF FF M L [.ref (ad k), .int a1, .int a2]) (mw_Qv G ad NF TF FF (mw_eqV M0 L0)) 0 0 (mw_fr G) := by
  refine mw_enter (by decide) (Nat.le_of_ble_eq_true rfl) ?_
  intro p e s m below meth c ls C hr hlocks hnm hw hl
  have hl : lv_has ls 5 [(0, .ref (ad k)), (1, .int a1), (2, .int a2)] := hl
  have hh2 : ∀ (f : Nat) (v3 : Int32) (M : mwM) (L : mwL) (H : Heap) (locs : List Loc) (ls : Array Slot), fX2_doActs_h2 fu k a1 a2 f (v3, M, L) = some (M0, L0) → mw_W G ad NF TF FF M L H locs → lv_has ls 5 [(0, .ref (ad k)), (1, .int a1), (2, .int a2), (3, .int v3)] → W p l e ({ frames := 0, cells := 0, slots := 0, locals := 0 }) s m [.ref (ad k), .int a1, .int a2].toArray below meth c H locs 0 0 (MQ below (mw_Qv G ad NF TF FF (mw_eqV M0 L0)) [.ref (ad k), .int a1, .int a2].toArray s 0 0 (mw_fr G)) (F0 m 2 ls []) := by
    intro f
    induction f with
    | zero => intro v3 M L H locs ls hD; cases hD
    | succ f2 ih2 =>
      intro v3 M L H locs ls hD hw hl
      replace hD : fX2_doActs_i2 fu k a1 a2 (fX2_doActs_h2 fu k a1 a2 f2) v3 M L = some (M0, L0) := hD
      have hb84 : ∀ (v3 : Int32) (M : mwM) (L : mwL) (H : Heap) (locs : List Loc) (ls : Array Slot), fX2_doActs_b84 fu k a1 a2 (fX2_doActs_h2 fu k a1 a2 f2) v3 M L = some (M0, L0) → mw_W G ad NF TF FF M L H locs → lv_has ls 5 [(0, .ref (ad k)), (1, .int a1), (2, .int a2), (3, .int v3)] → W p l e ({ frames := 0, cells := 0, slots := 0, locals := 0 }) s m [.ref (ad k), .int a1, .int a2].toArray below meth c H locs 0 0 (MQ below (mw_Qv G ad NF TF FF (mw_eqV M0 L0)) [.ref (ad k), .int a1, .int a2].toArray s 0 0 (mw_fr G)) (F0 m 84 ls []) := by
        intro v3 M L H locs ls hD hw hl
        unfold fX2_doActs_b84 at hD
        obtain ⟨x19, ex19, hD⟩ := g_let hD
        refine lv_iinc (v := x19) (lv' := [(3, .int x19), (0, .ref (ad k)), (1, .int a1), (2, .int a2)]) C.1.1 C.1.2.1 dX2_doActs_84 hl (k := 3) rfl (by rw [ex19]; rfl) (by decide) rfl (fun ls hl => ?_)
        refine lv_goto (tgt := 2) C.1.1 C.1.2.1 dX2_doActs_87 (by decide) ?_
        exact ih2 x19 M L _ _ ls hD hw (lv_sub hl [1, 2, 3, 0] rfl)
      have hb73 : ∀ (v3 : Int32) (s1 : Int32) (s2 : Int64) (M : mwM) (L : mwL) (H : Heap) (locs : List Loc) (ls : Array Slot), fX2_doActs_b73 fu k a1 a2 (fX2_doActs_h2 fu k a1 a2 f2) v3 s1 s2 M L = some (M0, L0) → mw_W G ad NF TF FF M L H locs → lv_has ls 5 [(0, .ref (ad k)), (1, .int a1), (2, .int a2), (3, .int v3)] → W p l e ({ frames := 0, cells := 0, slots := 0, locals := 0 }) s m [.ref (ad k), .int a1, .int a2].toArray below meth c H locs 0 0 (MQ below (mw_Qv G ad NF TF FF (mw_eqV M0 L0)) [.ref (ad k), .int a1, .int a2].toArray s 0 0 (mw_fr G)) (F0 m 73 ls [.long s2, .int s1, .ref (ad (k + 34))]) := by
        intro v3 s1 s2 M L H locs ls hD hw hl
        unfold fX2_doActs_b73 at hD
        refine lv_aload_n C.1.1 C.1.2.1 dX2_doActs_73 rfl (lv_at hl 0 rfl) ?_
        refine mr_getR C hw kc_2 2 (Ch_N0 hk0) (Ch_T0 hk0) (Ch_F0_2 hk0) wd_446 dX2_doActs_74 (by decide) rfl ?_
        refine lv_iconst (v := 3) C.1.1 C.1.2.1 dX2_doActs_77 (by decide) ?_
        refine mr_aald C hw (Ch_N28 hk0) (Ch_T28 hk0) (by decide) (by decide) rfl rfl (show vp_in 3 5 from by unfold vp_in; decide) (Ch_R28 hk0 _ (by decide : 3 < 5)).1 dX2_doActs_78 ?_
        refine lv_iload_n C.1.1 C.1.2.1 dX2_doActs_79 rfl (lv_at hl 3 rfl) ?_
        obtain ⟨q16, hD⟩ := g_ck hD
        refine mr_iald C hw (Ch_N32 hk0) (Ch_T32 hk0) q16 dX2_doActs_80 ?_
        refine lv_i2l C.1.1 C.1.2.1 dX2_doActs_81 rfl ?_
        refine lv_ladd C.1.1 C.1.2.1 dX2_doActs_82 ?_
        obtain ⟨q17, hD⟩ := g_ck hD
        obtain ⟨L18, eL18, hD⟩ := g_let hD
        refine mr_last C hw (Ch_N34 hk0) (Ch_T34 hk0) q17 dX2_doActs_83 (fun H locs hw => ?_)
        replace hw : mw_W G ad NF TF FF M L18 H locs := by rw [eL18]; exact hw
        exact hb84 v3 M L18 _ _ ls hD hw (lv_sub hl [0, 1, 2, 3] rfl)
      unfold fX2_doActs_i2 at hD
      refine lv_iload_n C.1.1 C.1.2.1 dX2_doActs_2 rfl (lv_at hl 3 rfl) ?_
      refine lv_aload_n C.1.1 C.1.2.1 dX2_doActs_3 rfl (lv_at hl 0 rfl) ?_
      refine mr_getI C hw kc_2 9 (Ch_N0 hk0) (Ch_T0 hk0) wd_462 dX2_doActs_4 (by decide) rfl ?_
      refine lv_icmp_ge (tgt := 90) C.1.1 C.1.2.1 dX2_doActs_7 (by decide) (fun c1 => ?_) (fun c1 => ?_)
      · replace hD := g_pos c1 hD
        exact mr_vret C hr hlocks hw (Option.some.inj hD) dX2_doActs_90
      · replace hD := g_neg c1 hD
        refine lv_aload_n C.1.1 C.1.2.1 dX2_doActs_10 rfl (lv_at hl 0 rfl) ?_
        refine mr_getR C hw kc_2 2 (Ch_N0 hk0) (Ch_T0 hk0) (Ch_F0_2 hk0) wd_446 dX2_doActs_11 (by decide) rfl ?_
        refine lv_iconst (v := 1) C.1.1 C.1.2.1 dX2_doActs_14 (by decide) ?_
        refine mr_aald C hw (Ch_N28 hk0) (Ch_T28 hk0) (by decide) (by decide) rfl rfl (show vp_in 1 5 from by unfold vp_in; decide) (Ch_R28 hk0 _ (by decide : 1 < 5)).1 dX2_doActs_15 ?_
        refine lv_iload_n C.1.1 C.1.2.1 dX2_doActs_16 rfl (lv_at hl 3 rfl) ?_
        obtain ⟨q3, hD⟩ := g_ck hD
        refine mr_iald C hw (Ch_N30 hk0) (Ch_T30 hk0) q3 dX2_doActs_17 ?_
        refine lv_iload_n C.1.1 C.1.2.1 dX2_doActs_18 rfl (lv_at hl 1 rfl) ?_
        refine lv_icmp_ne (tgt := 84) C.1.1 C.1.2.1 dX2_doActs_19 (by decide) (fun c4 => ?_) (fun c4 => ?_)
        · replace hD := g_neg c4 hD
          exact hb84 v3 M L _ _ ls hD hw (lv_sub hl [0, 1, 2, 3] rfl)
        · replace hD := g_pos c4 hD
          refine lv_aload_n C.1.1 C.1.2.1 dX2_doActs_22 rfl (lv_at hl 0 rfl) ?_
          refine mr_getR C hw kc_2 2 (Ch_N0 hk0) (Ch_T0 hk0) (Ch_F0_2 hk0) wd_446 dX2_doActs_23 (by decide) rfl ?_
          refine lv_iconst (v := 0) C.1.1 C.1.2.1 dX2_doActs_26 (by decide) ?_
          refine mr_aald C hw (Ch_N28 hk0) (Ch_T28 hk0) (by decide) (by decide) rfl rfl (show vp_in 0 5 from by unfold vp_in; decide) (Ch_R28 hk0 _ (by decide : 0 < 5)).1 dX2_doActs_27 ?_
          refine lv_iload_n C.1.1 C.1.2.1 dX2_doActs_28 rfl (lv_at hl 3 rfl) ?_
          obtain ⟨q6, hD⟩ := g_ck hD
          refine mr_iald C hw (Ch_N29 hk0) (Ch_T29 hk0) q6 dX2_doActs_29 ?_
          refine lv_iload_n C.1.1 C.1.2.1 dX2_doActs_30 rfl (lv_at hl 2 rfl) ?_
          refine lv_icmp_ne (tgt := 84) C.1.1 C.1.2.1 dX2_doActs_31 (by decide) (fun c7 => ?_) (fun c7 => ?_)
          · replace hD := g_neg c7 hD
            exact hb84 v3 M L _ _ ls hD hw (lv_sub hl [0, 1, 2, 3] rfl)
          · replace hD := g_pos c7 hD
            refine lv_aload_n C.1.1 C.1.2.1 dX2_doActs_34 rfl (lv_at hl 0 rfl) ?_
            refine mr_getR C hw kc_2 2 (Ch_N0 hk0) (Ch_T0 hk0) (Ch_F0_2 hk0) wd_446 dX2_doActs_35 (by decide) rfl ?_
            refine lv_iconst (v := 2) C.1.1 C.1.2.1 dX2_doActs_38 (by decide) ?_
            refine mr_aald C hw (Ch_N28 hk0) (Ch_T28 hk0) (by decide) (by decide) rfl rfl (show vp_in 2 5 from by unfold vp_in; decide) (Ch_R28 hk0 _ (by decide : 2 < 5)).1 dX2_doActs_39 ?_
            refine lv_iload_n C.1.1 C.1.2.1 dX2_doActs_40 rfl (lv_at hl 3 rfl) ?_
            obtain ⟨q9, hD⟩ := g_ck hD
            refine mr_iald C hw (Ch_N31 hk0) (Ch_T31 hk0) q9 dX2_doActs_41 ?_
            obtain ⟨x10, ex10, hD⟩ := g_let hD
            refine W.eq (g2 := F0 m 42 ls (.int x10 :: [])) (by rw [ex10]) ?_
            refine lv_istore (lv' := [(4, .int x10), (0, .ref (ad k)), (1, .int a1), (2, .int a2), (3, .int v3)]) C.1.1 C.1.2.1 dX2_doActs_42 hl (by decide) rfl (fun ls hl => ?_)
            refine lv_aload_n C.1.1 C.1.2.1 dX2_doActs_44 rfl (lv_at hl 1 rfl) ?_
            refine mr_getR C hw kc_2 3 (Ch_N0 hk0) (Ch_T0 hk0) (Ch_F0_3 hk0) wd_447 dX2_doActs_45 (by decide) rfl ?_
            refine lv_iload C.1.1 C.1.2.1 dX2_doActs_48 (lv_at hl 0 rfl) ?_
            refine lv_aload_n C.1.1 C.1.2.1 dX2_doActs_50 rfl (lv_at hl 1 rfl) ?_
            refine mr_getR C hw kc_2 2 (Ch_N0 hk0) (Ch_T0 hk0) (Ch_F0_2 hk0) wd_446 dX2_doActs_51 (by decide) rfl ?_
            refine lv_iconst (v := 4) C.1.1 C.1.2.1 dX2_doActs_54 (by decide) ?_
            refine mr_aald C hw (Ch_N28 hk0) (Ch_T28 hk0) (by decide) (by decide) rfl rfl (show vp_in 4 5 from by unfold vp_in; decide) (Ch_R28 hk0 _ (by decide : 4 < 5)).1 dX2_doActs_55 ?_
            refine lv_iload_n C.1.1 C.1.2.1 dX2_doActs_56 rfl (lv_at hl 4 rfl) ?_
            obtain ⟨q12, hD⟩ := g_ck hD
            refine mr_iald C hw (Ch_N33 hk0) (Ch_T33 hk0) q12 dX2_doActs_57 ?_
            refine lv_iconst (v := 1) C.1.1 C.1.2.1 dX2_doActs_58 (by decide) ?_
            refine lv_icmp_ne (tgt := 72) C.1.1 C.1.2.1 dX2_doActs_59 (by decide) (fun c13 => ?_) (fun c13 => ?_)
            · replace hD := g_neg c13 hD
              refine lv_lconst (v := 0) C.1.1 C.1.2.1 dX2_doActs_72 (by decide) ?_
              exact hb73 v3 x10 0 M L _ _ ls hD hw (lv_sub hl [1, 2, 3, 4] rfl)
            · replace hD := g_pos c13 hD
              refine lv_aload_n C.1.1 C.1.2.1 dX2_doActs_62 rfl (lv_at hl 1 rfl) ?_
              refine mr_getR C hw kc_2 3 (Ch_N0 hk0) (Ch_T0 hk0) (Ch_F0_3 hk0) wd_447 dX2_doActs_63 (by decide) rfl ?_
              refine lv_iload C.1.1 C.1.2.1 dX2_doActs_66 (lv_at hl 0 rfl) ?_
              obtain ⟨q14, hD⟩ := g_ck hD
              refine mr_lald C hw (Ch_N34 hk0) (Ch_T34 hk0) q14 dX2_doActs_68 ?_
              refine lv_goto (tgt := 73) C.1.1 C.1.2.1 dX2_doActs_69 (by decide) ?_
              exact hb73 v3 x10 (L (k + 34) x10.toNatClampNeg) M L _ _ ls hD hw (lv_sub hl [1, 2, 3, 4] rfl)
  unfold DX2_doActs at hD
  refine lv_iconst (v := 0) C.1.1 C.1.2.1 dX2_doActs_0 (by decide) ?_
  refine lv_istore_n (lv' := [(3, .int 0), (0, .ref (ad k)), (1, .int a1), (2, .int a2)]) C.1.1 C.1.2.1 dX2_doActs_1 rfl hl (by decide) rfl (fun ls hl => ?_)
  exact hh2 fu 0 M L _ _ ls hD hw (lv_sub hl [1, 2, 3, 0] rfl)

theorem dX2_enterAll_0 : decode cX2_enterAll 0 = .ok (.aload_n 0, 1) := by decide +kernel
theorem dX2_enterAll_1 : decode cX2_enterAll 1 = .ok (.iload_n 1, 1) := by decide +kernel
theorem dX2_enterAll_2 : decode cX2_enterAll 2 = .ok (.invokevirtual 148, 3) := by decide +kernel
theorem dX2_enterAll_5 : decode cX2_enterAll 5 = .ok (.aload_n 0, 1) := by decide +kernel
theorem dX2_enterAll_6 : decode cX2_enterAll 6 = .ok (.getfield 13, 3) := by decide +kernel
theorem dX2_enterAll_9 : decode cX2_enterAll 9 = .ok (.bipush 12, 2) := by decide +kernel
theorem dX2_enterAll_11 : decode cX2_enterAll 11 = .ok (.aaload, 1) := by decide +kernel
theorem dX2_enterAll_12 : decode cX2_enterAll 12 = .ok (.iconst 0, 1) := by decide +kernel
theorem dX2_enterAll_13 : decode cX2_enterAll 13 = .ok (.iconst 0, 1) := by decide +kernel
theorem dX2_enterAll_14 : decode cX2_enterAll 14 = .ok (.iastore, 1) := by decide +kernel
theorem dX2_enterAll_15 : decode cX2_enterAll 15 = .ok (.iconst 1, 1) := by decide +kernel
theorem dX2_enterAll_16 : decode cX2_enterAll 16 = .ok (.istore_n 2, 1) := by decide +kernel
theorem dX2_enterAll_17 : decode cX2_enterAll 17 = .ok (.iload_n 2, 1) := by decide +kernel
theorem dX2_enterAll_18 : decode cX2_enterAll 18 = .ok (.aload_n 0, 1) := by decide +kernel
theorem dX2_enterAll_19 : decode cX2_enterAll 19 = .ok (.getfield 37, 3) := by decide +kernel
theorem dX2_enterAll_22 : decode cX2_enterAll 22 = .ok (.if_icmp .gt 140, 3) := by decide +kernel
theorem dX2_enterAll_25 : decode cX2_enterAll 25 = .ok (.aload_n 0, 1) := by decide +kernel
theorem dX2_enterAll_26 : decode cX2_enterAll 26 = .ok (.getfield 13, 3) := by decide +kernel
theorem dX2_enterAll_29 : decode cX2_enterAll 29 = .ok (.iconst 0, 1) := by decide +kernel
theorem dX2_enterAll_30 : decode cX2_enterAll 30 = .ok (.aaload, 1) := by decide +kernel
theorem dX2_enterAll_31 : decode cX2_enterAll 31 = .ok (.iload_n 2, 1) := by decide +kernel
theorem dX2_enterAll_32 : decode cX2_enterAll 32 = .ok (.iaload, 1) := by decide +kernel
theorem dX2_enterAll_33 : decode cX2_enterAll 33 = .ok (.istore_n 3, 1) := by decide +kernel
theorem dX2_enterAll_34 : decode cX2_enterAll 34 = .ok (.aload_n 0, 1) := by decide +kernel
theorem dX2_enterAll_35 : decode cX2_enterAll 35 = .ok (.getfield 13, 3) := by decide +kernel
theorem dX2_enterAll_38 : decode cX2_enterAll 38 = .ok (.iconst 1, 1) := by decide +kernel
theorem dX2_enterAll_39 : decode cX2_enterAll 39 = .ok (.aaload, 1) := by decide +kernel
theorem dX2_enterAll_40 : decode cX2_enterAll 40 = .ok (.iload_n 3, 1) := by decide +kernel
theorem dX2_enterAll_41 : decode cX2_enterAll 41 = .ok (.iaload, 1) := by decide +kernel
theorem dX2_enterAll_42 : decode cX2_enterAll 42 = .ok (.iconst 1, 1) := by decide +kernel
theorem dX2_enterAll_43 : decode cX2_enterAll 43 = .ok (.if_icmp .eq 16, 3) := by decide +kernel
theorem dX2_enterAll_46 : decode cX2_enterAll 46 = .ok (.aload_n 0, 1) := by decide +kernel
theorem dX2_enterAll_47 : decode cX2_enterAll 47 = .ok (.getfield 13, 3) := by decide +kernel
theorem dX2_enterAll_50 : decode cX2_enterAll 50 = .ok (.bipush 10, 2) := by decide +kernel
theorem dX2_enterAll_52 : decode cX2_enterAll 52 = .ok (.aaload, 1) := by decide +kernel
theorem dX2_enterAll_53 : decode cX2_enterAll 53 = .ok (.iload_n 3, 1) := by decide +kernel
theorem dX2_enterAll_54 : decode cX2_enterAll 54 = .ok (.iaload, 1) := by decide +kernel
theorem dX2_enterAll_55 : decode cX2_enterAll 55 = .ok (.iload_n 2, 1) := by decide +kernel
theorem dX2_enterAll_56 : decode cX2_enterAll 56 = .ok (.if_icmp .ne 7, 3) := by decide +kernel
theorem dX2_enterAll_59 : decode cX2_enterAll 59 = .ok (.iconst 1, 1) := by decide +kernel
theorem dX2_enterAll_60 : decode cX2_enterAll 60 = .ok (.goto 4, 3) := by decide +kernel
theorem dX2_enterAll_63 : decode cX2_enterAll 63 = .ok (.iconst 0, 1) := by decide +kernel
theorem dX2_enterAll_64 : decode cX2_enterAll 64 = .ok (.istore 4, 2) := by decide +kernel
theorem dX2_enterAll_66 : decode cX2_enterAll 66 = .ok (.aload_n 0, 1) := by decide +kernel
theorem dX2_enterAll_67 : decode cX2_enterAll 67 = .ok (.iload_n 2, 1) := by decide +kernel
theorem dX2_enterAll_68 : decode cX2_enterAll 68 = .ok (.invokevirtual 72, 3) := by decide +kernel
theorem dX2_enterAll_71 : decode cX2_enterAll 71 = .ok (.ifCond .ne 30, 3) := by decide +kernel
theorem dX2_enterAll_74 : decode cX2_enterAll 74 = .ok (.iload 4, 2) := by decide +kernel
theorem dX2_enterAll_76 : decode cX2_enterAll 76 = .ok (.ifCond .eq 25, 3) := by decide +kernel
theorem dX2_enterAll_79 : decode cX2_enterAll 79 = .ok (.iload_n 3, 1) := by decide +kernel
theorem dX2_enterAll_80 : decode cX2_enterAll 80 = .ok (.iload_n 1, 1) := by decide +kernel
theorem dX2_enterAll_81 : decode cX2_enterAll 81 = .ok (.if_icmp .eq 16, 3) := by decide +kernel
theorem dX2_enterAll_84 : decode cX2_enterAll 84 = .ok (.aload_n 0, 1) := by decide +kernel
theorem dX2_enterAll_85 : decode cX2_enterAll 85 = .ok (.getfield 13, 3) := by decide +kernel
theorem dX2_enterAll_88 : decode cX2_enterAll 88 = .ok (.bipush 12, 2) := by decide +kernel
theorem dX2_enterAll_90 : decode cX2_enterAll 90 = .ok (.aaload, 1) := by decide +kernel
theorem dX2_enterAll_91 : decode cX2_enterAll 91 = .ok (.iload_n 3, 1) := by decide +kernel
theorem dX2_enterAll_92 : decode cX2_enterAll 92 = .ok (.iaload, 1) := by decide +kernel
theorem dX2_enterAll_93 : decode cX2_enterAll 93 = .ok (.iconst 1, 1) := by decide +kernel
theorem dX2_enterAll_94 : decode cX2_enterAll 94 = .ok (.if_icmp .ne 7, 3) := by decide +kernel
theorem dX2_enterAll_97 : decode cX2_enterAll 97 = .ok (.iconst 1, 1) := by decide +kernel
theorem dX2_enterAll_98 : decode cX2_enterAll 98 = .ok (.goto 4, 3) := by decide +kernel
theorem dX2_enterAll_101 : decode cX2_enterAll 101 = .ok (.iconst 0, 1) := by decide +kernel
theorem dX2_enterAll_102 : decode cX2_enterAll 102 = .ok (.istore 5, 2) := by decide +kernel
theorem dX2_enterAll_104 : decode cX2_enterAll 104 = .ok (.aload_n 0, 1) := by decide +kernel
theorem dX2_enterAll_105 : decode cX2_enterAll 105 = .ok (.getfield 13, 3) := by decide +kernel
theorem dX2_enterAll_108 : decode cX2_enterAll 108 = .ok (.bipush 12, 2) := by decide +kernel
theorem dX2_enterAll_110 : decode cX2_enterAll 110 = .ok (.aaload, 1) := by decide +kernel
theorem dX2_enterAll_111 : decode cX2_enterAll 111 = .ok (.iload_n 2, 1) := by decide +kernel
theorem dX2_enterAll_112 : decode cX2_enterAll 112 = .ok (.iload 5, 2) := by decide +kernel
theorem dX2_enterAll_114 : decode cX2_enterAll 114 = .ok (.ifCond .eq 7, 3) := by decide +kernel
theorem dX2_enterAll_117 : decode cX2_enterAll 117 = .ok (.iconst 1, 1) := by decide +kernel
theorem dX2_enterAll_118 : decode cX2_enterAll 118 = .ok (.goto 4, 3) := by decide +kernel
theorem dX2_enterAll_121 : decode cX2_enterAll 121 = .ok (.iconst 0, 1) := by decide +kernel
theorem dX2_enterAll_122 : decode cX2_enterAll 122 = .ok (.iastore, 1) := by decide +kernel
theorem dX2_enterAll_123 : decode cX2_enterAll 123 = .ok (.iload 5, 2) := by decide +kernel
theorem dX2_enterAll_125 : decode cX2_enterAll 125 = .ok (.ifCond .eq 31, 3) := by decide +kernel
theorem dX2_enterAll_128 : decode cX2_enterAll 128 = .ok (.aload_n 0, 1) := by decide +kernel
theorem dX2_enterAll_129 : decode cX2_enterAll 129 = .ok (.getfield 13, 3) := by decide +kernel
theorem dX2_enterAll_132 : decode cX2_enterAll 132 = .ok (.bipush 11, 2) := by decide +kernel
theorem dX2_enterAll_134 : decode cX2_enterAll 134 = .ok (.aaload, 1) := by decide +kernel
theorem dX2_enterAll_135 : decode cX2_enterAll 135 = .ok (.iload_n 2, 1) := by decide +kernel
theorem dX2_enterAll_136 : decode cX2_enterAll 136 = .ok (.dup2, 1) := by decide +kernel
theorem dX2_enterAll_137 : decode cX2_enterAll 137 = .ok (.iaload, 1) := by decide +kernel
theorem dX2_enterAll_138 : decode cX2_enterAll 138 = .ok (.aload_n 0, 1) := by decide +kernel
theorem dX2_enterAll_139 : decode cX2_enterAll 139 = .ok (.getfield 13, 3) := by decide +kernel
theorem dX2_enterAll_142 : decode cX2_enterAll 142 = .ok (.bipush 11, 2) := by decide +kernel
theorem dX2_enterAll_144 : decode cX2_enterAll 144 = .ok (.aaload, 1) := by decide +kernel
theorem dX2_enterAll_145 : decode cX2_enterAll 145 = .ok (.iload_n 3, 1) := by decide +kernel
theorem dX2_enterAll_146 : decode cX2_enterAll 146 = .ok (.iaload, 1) := by decide +kernel
theorem dX2_enterAll_147 : decode cX2_enterAll 147 = .ok (.iconst 2, 1) := by decide +kernel
theorem dX2_enterAll_148 : decode cX2_enterAll 148 = .ok (.iand, 1) := by decide +kernel
theorem dX2_enterAll_149 : decode cX2_enterAll 149 = .ok (.ior, 1) := by decide +kernel
theorem dX2_enterAll_150 : decode cX2_enterAll 150 = .ok (.iastore, 1) := by decide +kernel
theorem dX2_enterAll_151 : decode cX2_enterAll 151 = .ok (.aload_n 0, 1) := by decide +kernel
theorem dX2_enterAll_152 : decode cX2_enterAll 152 = .ok (.iload_n 2, 1) := by decide +kernel
theorem dX2_enterAll_153 : decode cX2_enterAll 153 = .ok (.invokevirtual 148, 3) := by decide +kernel
theorem dX2_enterAll_156 : decode cX2_enterAll 156 = .ok (.iinc 2 1, 3) := by decide +kernel
theorem dX2_enterAll_159 : decode cX2_enterAll 159 = .ok (.goto (-142), 3) := by decide +kernel
theorem dX2_enterAll_162 : decode cX2_enterAll 162 = .ok (.iconst 1, 1) := by decide +kernel
theorem dX2_enterAll_163 : decode cX2_enterAll 163 = .ok (.istore_n 2, 1) := by decide +kernel
theorem dX2_enterAll_164 : decode cX2_enterAll 164 = .ok (.iload_n 2, 1) := by decide +kernel
theorem dX2_enterAll_165 : decode cX2_enterAll 165 = .ok (.aload_n 0, 1) := by decide +kernel
theorem dX2_enterAll_166 : decode cX2_enterAll 166 = .ok (.getfield 37, 3) := by decide +kernel
theorem dX2_enterAll_169 : decode cX2_enterAll 169 = .ok (.if_icmp .gt 115, 3) := by decide +kernel
theorem dX2_enterAll_172 : decode cX2_enterAll 172 = .ok (.aload_n 0, 1) := by decide +kernel
theorem dX2_enterAll_173 : decode cX2_enterAll 173 = .ok (.getfield 13, 3) := by decide +kernel
theorem dX2_enterAll_176 : decode cX2_enterAll 176 = .ok (.bipush 16, 2) := by decide +kernel
theorem dX2_enterAll_178 : decode cX2_enterAll 178 = .ok (.aaload, 1) := by decide +kernel
theorem dX2_enterAll_179 : decode cX2_enterAll 179 = .ok (.iload_n 2, 1) := by decide +kernel
theorem dX2_enterAll_180 : decode cX2_enterAll 180 = .ok (.iaload, 1) := by decide +kernel
theorem dX2_enterAll_181 : decode cX2_enterAll 181 = .ok (.istore_n 3, 1) := by decide +kernel
theorem dX2_enterAll_182 : decode cX2_enterAll 182 = .ok (.aload_n 0, 1) := by decide +kernel
theorem dX2_enterAll_183 : decode cX2_enterAll 183 = .ok (.getfield 13, 3) := by decide +kernel
theorem dX2_enterAll_186 : decode cX2_enterAll 186 = .ok (.bipush 12, 2) := by decide +kernel
theorem dX2_enterAll_188 : decode cX2_enterAll 188 = .ok (.aaload, 1) := by decide +kernel
theorem dX2_enterAll_189 : decode cX2_enterAll 189 = .ok (.iload_n 3, 1) := by decide +kernel
theorem dX2_enterAll_190 : decode cX2_enterAll 190 = .ok (.iaload, 1) := by decide +kernel
theorem dX2_enterAll_191 : decode cX2_enterAll 191 = .ok (.iconst 1, 1) := by decide +kernel
theorem dX2_enterAll_192 : decode cX2_enterAll 192 = .ok (.if_icmp .ne 86, 3) := by decide +kernel
theorem dX2_enterAll_195 : decode cX2_enterAll 195 = .ok (.aload_n 0, 1) := by decide +kernel
theorem dX2_enterAll_196 : decode cX2_enterAll 196 = .ok (.getfield 13, 3) := by decide +kernel
theorem dX2_enterAll_199 : decode cX2_enterAll 199 = .ok (.iconst 5, 1) := by decide +kernel
theorem dX2_enterAll_200 : decode cX2_enterAll 200 = .ok (.aaload, 1) := by decide +kernel
theorem dX2_enterAll_201 : decode cX2_enterAll 201 = .ok (.iload_n 3, 1) := by decide +kernel
theorem dX2_enterAll_202 : decode cX2_enterAll 202 = .ok (.iconst 1, 1) := by decide +kernel
theorem dX2_enterAll_203 : decode cX2_enterAll 203 = .ok (.iastore, 1) := by decide +kernel
theorem dX2_enterAll_204 : decode cX2_enterAll 204 = .ok (.aload_n 0, 1) := by decide +kernel
theorem dX2_enterAll_205 : decode cX2_enterAll 205 = .ok (.getfield 13, 3) := by decide +kernel
theorem dX2_enterAll_208 : decode cX2_enterAll 208 = .ok (.bipush 15, 2) := by decide +kernel
theorem dX2_enterAll_210 : decode cX2_enterAll 210 = .ok (.aaload, 1) := by decide +kernel
theorem dX2_enterAll_211 : decode cX2_enterAll 211 = .ok (.iload_n 3, 1) := by decide +kernel
theorem dX2_enterAll_212 : decode cX2_enterAll 212 = .ok (.iconst 1, 1) := by decide +kernel
theorem dX2_enterAll_213 : decode cX2_enterAll 213 = .ok (.iastore, 1) := by decide +kernel
theorem dX2_enterAll_214 : decode cX2_enterAll 214 = .ok (.aload_n 0, 1) := by decide +kernel
theorem dX2_enterAll_215 : decode cX2_enterAll 215 = .ok (.getfield 13, 3) := by decide +kernel
theorem dX2_enterAll_218 : decode cX2_enterAll 218 = .ok (.bipush 8, 2) := by decide +kernel
theorem dX2_enterAll_220 : decode cX2_enterAll 220 = .ok (.aaload, 1) := by decide +kernel
theorem dX2_enterAll_221 : decode cX2_enterAll 221 = .ok (.iload_n 3, 1) := by decide +kernel
theorem dX2_enterAll_222 : decode cX2_enterAll 222 = .ok (.aload_n 0, 1) := by decide +kernel
theorem dX2_enterAll_223 : decode cX2_enterAll 223 = .ok (.getfield 52, 3) := by decide +kernel
theorem dX2_enterAll_226 : decode cX2_enterAll 226 = .ok (.iastore, 1) := by decide +kernel
theorem dX2_enterAll_227 : decode cX2_enterAll 227 = .ok (.aload_n 0, 1) := by decide +kernel
theorem dX2_enterAll_228 : decode cX2_enterAll 228 = .ok (.getfield 13, 3) := by decide +kernel
theorem dX2_enterAll_231 : decode cX2_enterAll 231 = .ok (.bipush 9, 2) := by decide +kernel
theorem dX2_enterAll_233 : decode cX2_enterAll 233 = .ok (.aaload, 1) := by decide +kernel
theorem dX2_enterAll_234 : decode cX2_enterAll 234 = .ok (.iload_n 3, 1) := by decide +kernel
theorem dX2_enterAll_235 : decode cX2_enterAll 235 = .ok (.iconst 0, 1) := by decide +kernel
theorem dX2_enterAll_236 : decode cX2_enterAll 236 = .ok (.iastore, 1) := by decide +kernel
theorem dX2_enterAll_237 : decode cX2_enterAll 237 = .ok (.aload_n 0, 1) := by decide +kernel
theorem dX2_enterAll_238 : decode cX2_enterAll 238 = .ok (.getfield 13, 3) := by decide +kernel
theorem dX2_enterAll_241 : decode cX2_enterAll 241 = .ok (.iconst 1, 1) := by decide +kernel
theorem dX2_enterAll_242 : decode cX2_enterAll 242 = .ok (.aaload, 1) := by decide +kernel
theorem dX2_enterAll_243 : decode cX2_enterAll 243 = .ok (.aload_n 0, 1) := by decide +kernel
theorem dX2_enterAll_244 : decode cX2_enterAll 244 = .ok (.getfield 13, 3) := by decide +kernel
theorem dX2_enterAll_247 : decode cX2_enterAll 247 = .ok (.iconst 0, 1) := by decide +kernel
theorem dX2_enterAll_248 : decode cX2_enterAll 248 = .ok (.aaload, 1) := by decide +kernel
theorem dX2_enterAll_249 : decode cX2_enterAll 249 = .ok (.iload_n 3, 1) := by decide +kernel
theorem dX2_enterAll_250 : decode cX2_enterAll 250 = .ok (.iaload, 1) := by decide +kernel
theorem dX2_enterAll_251 : decode cX2_enterAll 251 = .ok (.iaload, 1) := by decide +kernel
theorem dX2_enterAll_252 : decode cX2_enterAll 252 = .ok (.ifCond .ne 20, 3) := by decide +kernel
theorem dX2_enterAll_255 : decode cX2_enterAll 255 = .ok (.aload_n 0, 1) := by decide +kernel
theorem dX2_enterAll_256 : decode cX2_enterAll 256 = .ok (.getfield 13, 3) := by decide +kernel
theorem dX2_enterAll_259 : decode cX2_enterAll 259 = .ok (.bipush 6, 2) := by decide +kernel
theorem dX2_enterAll_261 : decode cX2_enterAll 261 = .ok (.aaload, 1) := by decide +kernel
theorem dX2_enterAll_262 : decode cX2_enterAll 262 = .ok (.aload_n 0, 1) := by decide +kernel
theorem dX2_enterAll_263 : decode cX2_enterAll 263 = .ok (.getfield 13, 3) := by decide +kernel
theorem dX2_enterAll_266 : decode cX2_enterAll 266 = .ok (.iconst 0, 1) := by decide +kernel
theorem dX2_enterAll_267 : decode cX2_enterAll 267 = .ok (.aaload, 1) := by decide +kernel
theorem dX2_enterAll_268 : decode cX2_enterAll 268 = .ok (.iload_n 3, 1) := by decide +kernel
theorem dX2_enterAll_269 : decode cX2_enterAll 269 = .ok (.iaload, 1) := by decide +kernel
theorem dX2_enterAll_270 : decode cX2_enterAll 270 = .ok (.iload_n 3, 1) := by decide +kernel
theorem dX2_enterAll_271 : decode cX2_enterAll 271 = .ok (.iastore, 1) := by decide +kernel
theorem dX2_enterAll_272 : decode cX2_enterAll 272 = .ok (.aload_n 0, 1) := by decide +kernel
theorem dX2_enterAll_273 : decode cX2_enterAll 273 = .ok (.iconst 0, 1) := by decide +kernel
theorem dX2_enterAll_274 : decode cX2_enterAll 274 = .ok (.iload_n 3, 1) := by decide +kernel
theorem dX2_enterAll_275 : decode cX2_enterAll 275 = .ok (.invokevirtual 142, 3) := by decide +kernel
theorem dX2_enterAll_278 : decode cX2_enterAll 278 = .ok (.iinc 2 1, 3) := by decide +kernel
theorem dX2_enterAll_281 : decode cX2_enterAll 281 = .ok (.goto (-117), 3) := by decide +kernel
theorem dX2_enterAll_284 : decode cX2_enterAll 284 = .ok (.return_, 1) := by decide +kernel
theorem cwX2_enterAll : mw_cwV yX2_enterAll cX2_enterAll 6 (none) 1 := ⟨⟨wd_12, wd_1666, by decide +kernel⟩, wd_1665, sl_119⟩
set_option maxHeartbeats 4000000 in
set_option maxRecDepth 100000 in
theorem tX2_enterAll (l : Launch) (G : mwG) (ad : Nat → Nat) (fu : Nat) (k : Nat) (a1 : Int32) (M : mwM) (L : mwL) {M0 : mwM} {L0 : mwL} (hD : DX2_enterAll fu k a1 M L = some (M0, L0)) (hk0 : isCh k) : Met l yX2_enterAll (Cond.code yX2_enterAll cX2_enterAll 6 (none) :: GT) ({ frames := 1, cells := 0, slots := 0, locals := 24 }) (mw_Pre G ad NF TF FF M L [.ref (ad k), .int a1]) (mw_Qv G ad NF TF FF (mw_eqV M0 L0)) 0 0 (mw_fr G) := by
  refine mw_enter (by decide) (Nat.le_of_ble_eq_true rfl) ?_
  intro p e s m below meth c ls C hr hlocks hnm hw hl
  have hl : lv_has ls 6 [(0, .ref (ad k)), (1, .int a1)] := hl
  have hh164 : ∀ (f : Nat) (v2 : Int32) (M : mwM) (L : mwL) (H : Heap) (locs : List Loc) (ls : Array Slot), fX2_enterAll_h164 fu k a1 f (v2, M, L) = some (M0, L0) → mw_W G ad NF TF FF M L H locs → lv_has ls 6 [(0, .ref (ad k)), (2, .int v2)] → W p l e ({ frames := 1, cells := 0, slots := 0, locals := 24 }) s m [.ref (ad k), .int a1].toArray below meth c H locs 0 0 (MQ below (mw_Qv G ad NF TF FF (mw_eqV M0 L0)) [.ref (ad k), .int a1].toArray s 0 0 (mw_fr G)) (F0 m 164 ls []) := by
    intro f
    induction f with
    | zero => intro v2 M L H locs ls hD; cases hD
    | succ f164 ih164 =>
      intro v2 M L H locs ls hD hw hl
      replace hD : fX2_enterAll_i164 fu k a1 (fX2_enterAll_h164 fu k a1 f164) v2 M L = some (M0, L0) := hD
      have hb278 : ∀ (v2 : Int32) (M : mwM) (L : mwL) (H : Heap) (locs : List Loc) (ls : Array Slot), fX2_enterAll_b278 fu k a1 (fX2_enterAll_h164 fu k a1 f164) v2 M L = some (M0, L0) → mw_W G ad NF TF FF M L H locs → lv_has ls 6 [(0, .ref (ad k)), (2, .int v2)] → W p l e ({ frames := 1, cells := 0, slots := 0, locals := 24 }) s m [.ref (ad k), .int a1].toArray below meth c H locs 0 0 (MQ below (mw_Qv G ad NF TF FF (mw_eqV M0 L0)) [.ref (ad k), .int a1].toArray s 0 0 (mw_fr G)) (F0 m 278 ls []) := by
        intro v2 M L H locs ls hD hw hl
        unfold fX2_enterAll_b278 at hD
        obtain ⟨x65, ex65, hD⟩ := g_let hD
        refine lv_iinc (v := x65) (lv' := [(2, .int x65), (0, .ref (ad k))]) C.1.1 C.1.2.1 dX2_enterAll_278 hl (k := 1) rfl (by rw [ex65]; rfl) (by decide) rfl (fun ls hl => ?_)
        refine lv_goto (tgt := 164) C.1.1 C.1.2.1 dX2_enterAll_281 (by decide) ?_
        exact ih164 x65 M L _ _ ls hD hw (lv_sub hl [1, 0] rfl)
      have hb272 : ∀ (v2 : Int32) (v3 : Int32) (M : mwM) (L : mwL) (H : Heap) (locs : List Loc) (ls : Array Slot), fX2_enterAll_b272 fu k a1 (fX2_enterAll_h164 fu k a1 f164) v2 v3 M L = some (M0, L0) → mw_W G ad NF TF FF M L H locs → lv_has ls 6 [(0, .ref (ad k)), (2, .int v2), (3, .int v3)] → W p l e ({ frames := 1, cells := 0, slots := 0, locals := 24 }) s m [.ref (ad k), .int a1].toArray below meth c H locs 0 0 (MQ below (mw_Qv G ad NF TF FF (mw_eqV M0 L0)) [.ref (ad k), .int a1].toArray s 0 0 (mw_fr G)) (F0 m 272 ls []) := by
        intro v2 v3 M L H locs ls hD hw hl
        unfold fX2_enterAll_b272 at hD
        refine lv_aload_n C.1.1 C.1.2.1 dX2_enterAll_272 rfl (lv_at hl 0 rfl) ?_
        refine lv_iconst (v := 0) C.1.1 C.1.2.1 dX2_enterAll_273 (by decide) ?_
        refine lv_iload_n C.1.1 C.1.2.1 dX2_enterAll_274 rfl (lv_at hl 2 rfl) ?_
        obtain ⟨M63, L64, h1, hD⟩ := g_b2 hD
        refine md_cvV (As := [.int 0, .int v3]) (rest := []) C hw (tX2_doActs l G ad fu k 0 v3 M L h1 hk0) kc_2 (Ch_N0 hk0) (Ch_T0 hk0) wd_1671 cwX2_doActs ⟨Nat.le_of_ble_eq_true rfl, Nat.le_of_ble_eq_true rfl⟩ rfl hl.1 (Nat.le_of_ble_eq_true rfl) dX2_enterAll_275 rfl rfl ⟨Nat.zero_le _, Nat.zero_le _⟩ rfl (fun H locs hw => ?_)
        exact hb278 v2 M63 L64 _ _ ls hD hw (lv_sub hl [0, 1] rfl)
      unfold fX2_enterAll_i164 at hD
      refine lv_iload_n C.1.1 C.1.2.1 dX2_enterAll_164 rfl (lv_at hl 1 rfl) ?_
      refine lv_aload_n C.1.1 C.1.2.1 dX2_enterAll_165 rfl (lv_at hl 0 rfl) ?_
      refine mr_getI C hw kc_2 7 (Ch_N0 hk0) (Ch_T0 hk0) wd_458 dX2_enterAll_166 (by decide) rfl ?_
      refine lv_icmp_gt (tgt := 284) C.1.1 C.1.2.1 dX2_enterAll_169 (by decide) (fun c34 => ?_) (fun c34 => ?_)
      · replace hD := g_pos c34 hD
        exact mr_vret C hr hlocks hw (Option.some.inj hD) dX2_enterAll_284
      · replace hD := g_neg c34 hD
        refine lv_aload_n C.1.1 C.1.2.1 dX2_enterAll_172 rfl (lv_at hl 0 rfl) ?_
        refine mr_getR C hw kc_2 0 (Ch_N0 hk0) (Ch_T0 hk0) (Ch_F0_0 hk0) wd_444 dX2_enterAll_173 (by decide) rfl ?_
        refine lv_bipush (v := 16) C.1.1 C.1.2.1 dX2_enterAll_176 (by decide) ?_
        refine mr_aald C hw (Ch_N1 hk0) (Ch_T1 hk0) (by decide) (by decide) rfl rfl (show vp_in 16 18 from by unfold vp_in; decide) (Ch_R1 hk0 _ (by decide : 16 < 18)).1 dX2_enterAll_178 ?_
        refine lv_iload_n C.1.1 C.1.2.1 dX2_enterAll_179 rfl (lv_at hl 1 rfl) ?_
        obtain ⟨q36, hD⟩ := g_ck hD
        refine mr_iald C hw (Ch_N18 hk0) (Ch_T18 hk0) q36 dX2_enterAll_180 ?_
        obtain ⟨x37, ex37, hD⟩ := g_let hD
        refine W.eq (g2 := F0 m 181 ls (.int x37 :: [])) (by rw [ex37]) ?_
        refine lv_istore_n (lv' := [(3, .int x37), (0, .ref (ad k)), (2, .int v2)]) C.1.1 C.1.2.1 dX2_enterAll_181 rfl hl (by decide) rfl (fun ls hl => ?_)
        refine lv_aload_n C.1.1 C.1.2.1 dX2_enterAll_182 rfl (lv_at hl 1 rfl) ?_
        refine mr_getR C hw kc_2 0 (Ch_N0 hk0) (Ch_T0 hk0) (Ch_F0_0 hk0) wd_444 dX2_enterAll_183 (by decide) rfl ?_
        refine lv_bipush (v := 12) C.1.1 C.1.2.1 dX2_enterAll_186 (by decide) ?_
        refine mr_aald C hw (Ch_N1 hk0) (Ch_T1 hk0) (by decide) (by decide) rfl rfl (show vp_in 12 18 from by unfold vp_in; decide) (Ch_R1 hk0 _ (by decide : 12 < 18)).1 dX2_enterAll_188 ?_
        refine lv_iload_n C.1.1 C.1.2.1 dX2_enterAll_189 rfl (lv_at hl 0 rfl) ?_
        obtain ⟨q39, hD⟩ := g_ck hD
        refine mr_iald C hw (Ch_N14 hk0) (Ch_T14 hk0) q39 dX2_enterAll_190 ?_
        refine lv_iconst (v := 1) C.1.1 C.1.2.1 dX2_enterAll_191 (by decide) ?_
        refine lv_icmp_ne (tgt := 278) C.1.1 C.1.2.1 dX2_enterAll_192 (by decide) (fun c40 => ?_) (fun c40 => ?_)
        · replace hD := g_neg c40 hD
          exact hb278 v2 M L _ _ ls hD hw (lv_sub hl [1, 2] rfl)
        · replace hD := g_pos c40 hD
          refine lv_aload_n C.1.1 C.1.2.1 dX2_enterAll_195 rfl (lv_at hl 1 rfl) ?_
          refine mr_getR C hw kc_2 0 (Ch_N0 hk0) (Ch_T0 hk0) (Ch_F0_0 hk0) wd_444 dX2_enterAll_196 (by decide) rfl ?_
          refine lv_iconst (v := 5) C.1.1 C.1.2.1 dX2_enterAll_199 (by decide) ?_
          refine mr_aald C hw (Ch_N1 hk0) (Ch_T1 hk0) (by decide) (by decide) rfl rfl (show vp_in 5 18 from by unfold vp_in; decide) (Ch_R1 hk0 _ (by decide : 5 < 18)).1 dX2_enterAll_200 ?_
          refine lv_iload_n C.1.1 C.1.2.1 dX2_enterAll_201 rfl (lv_at hl 0 rfl) ?_
          refine lv_iconst (v := 1) C.1.1 C.1.2.1 dX2_enterAll_202 (by decide) ?_
          obtain ⟨q42, hD⟩ := g_ck hD
          obtain ⟨M43, eM43, hD⟩ := g_let hD
          refine mr_iast C hw (Ch_N7 hk0) (Ch_T7 hk0) q42 dX2_enterAll_203 (fun H locs hw => ?_)
          replace hw : mw_W G ad NF TF FF M43 L H locs := by rw [eM43]; exact hw
          refine lv_aload_n C.1.1 C.1.2.1 dX2_enterAll_204 rfl (lv_at hl 1 rfl) ?_
          refine mr_getR C hw kc_2 0 (Ch_N0 hk0) (Ch_T0 hk0) (Ch_F0_0 hk0) wd_444 dX2_enterAll_205 (by decide) rfl ?_
          refine lv_bipush (v := 15) C.1.1 C.1.2.1 dX2_enterAll_208 (by decide) ?_
          refine mr_aald C hw (Ch_N1 hk0) (Ch_T1 hk0) (by decide) (by decide) rfl rfl (show vp_in 15 18 from by unfold vp_in; decide) (Ch_R1 hk0 _ (by decide : 15 < 18)).1 dX2_enterAll_210 ?_
          refine lv_iload_n C.1.1 C.1.2.1 dX2_enterAll_211 rfl (lv_at hl 0 rfl) ?_
          refine lv_iconst (v := 1) C.1.1 C.1.2.1 dX2_enterAll_212 (by decide) ?_
          obtain ⟨q45, hD⟩ := g_ck hD
          obtain ⟨M46, eM46, hD⟩ := g_let hD
          refine mr_iast C hw (Ch_N17 hk0) (Ch_T17 hk0) q45 dX2_enterAll_213 (fun H locs hw => ?_)
          replace hw : mw_W G ad NF TF FF M46 L H locs := by rw [eM46]; exact hw
          refine lv_aload_n C.1.1 C.1.2.1 dX2_enterAll_214 rfl (lv_at hl 1 rfl) ?_
          refine mr_getR C hw kc_2 0 (Ch_N0 hk0) (Ch_T0 hk0) (Ch_F0_0 hk0) wd_444 dX2_enterAll_215 (by decide) rfl ?_
          refine lv_bipush (v := 8) C.1.1 C.1.2.1 dX2_enterAll_218 (by decide) ?_
          refine mr_aald C hw (Ch_N1 hk0) (Ch_T1 hk0) (by decide) (by decide) rfl rfl (show vp_in 8 18 from by unfold vp_in; decide) (Ch_R1 hk0 _ (by decide : 8 < 18)).1 dX2_enterAll_220 ?_
          refine lv_iload_n C.1.1 C.1.2.1 dX2_enterAll_221 rfl (lv_at hl 0 rfl) ?_
          refine lv_aload_n C.1.1 C.1.2.1 dX2_enterAll_222 rfl (lv_at hl 1 rfl) ?_
          refine mr_getI C hw kc_2 12 (Ch_N0 hk0) (Ch_T0 hk0) wd_466 dX2_enterAll_223 (by decide) rfl ?_
          obtain ⟨q48, hD⟩ := g_ck hD
          obtain ⟨M49, eM49, hD⟩ := g_let hD
          refine mr_iast C hw (Ch_N10 hk0) (Ch_T10 hk0) q48 dX2_enterAll_226 (fun H locs hw => ?_)
          replace hw : mw_W G ad NF TF FF M49 L H locs := by rw [eM49]; exact hw
          refine lv_aload_n C.1.1 C.1.2.1 dX2_enterAll_227 rfl (lv_at hl 1 rfl) ?_
          refine mr_getR C hw kc_2 0 (Ch_N0 hk0) (Ch_T0 hk0) (Ch_F0_0 hk0) wd_444 dX2_enterAll_228 (by decide) rfl ?_
          refine lv_bipush (v := 9) C.1.1 C.1.2.1 dX2_enterAll_231 (by decide) ?_
          refine mr_aald C hw (Ch_N1 hk0) (Ch_T1 hk0) (by decide) (by decide) rfl rfl (show vp_in 9 18 from by unfold vp_in; decide) (Ch_R1 hk0 _ (by decide : 9 < 18)).1 dX2_enterAll_233 ?_
          refine lv_iload_n C.1.1 C.1.2.1 dX2_enterAll_234 rfl (lv_at hl 0 rfl) ?_
          refine lv_iconst (v := 0) C.1.1 C.1.2.1 dX2_enterAll_235 (by decide) ?_
          obtain ⟨q51, hD⟩ := g_ck hD
          obtain ⟨M52, eM52, hD⟩ := g_let hD
          refine mr_iast C hw (Ch_N11 hk0) (Ch_T11 hk0) q51 dX2_enterAll_236 (fun H locs hw => ?_)
          replace hw : mw_W G ad NF TF FF M52 L H locs := by rw [eM52]; exact hw
          refine lv_aload_n C.1.1 C.1.2.1 dX2_enterAll_237 rfl (lv_at hl 1 rfl) ?_
          refine mr_getR C hw kc_2 0 (Ch_N0 hk0) (Ch_T0 hk0) (Ch_F0_0 hk0) wd_444 dX2_enterAll_238 (by decide) rfl ?_
          refine lv_iconst (v := 1) C.1.1 C.1.2.1 dX2_enterAll_241 (by decide) ?_
          refine mr_aald C hw (Ch_N1 hk0) (Ch_T1 hk0) (by decide) (by decide) rfl rfl (show vp_in 1 18 from by unfold vp_in; decide) (Ch_R1 hk0 _ (by decide : 1 < 18)).1 dX2_enterAll_242 ?_
          refine lv_aload_n C.1.1 C.1.2.1 dX2_enterAll_243 rfl (lv_at hl 1 rfl) ?_
          refine mr_getR C hw kc_2 0 (Ch_N0 hk0) (Ch_T0 hk0) (Ch_F0_0 hk0) wd_444 dX2_enterAll_244 (by decide) rfl ?_
          refine lv_iconst (v := 0) C.1.1 C.1.2.1 dX2_enterAll_247 (by decide) ?_
          refine mr_aald C hw (Ch_N1 hk0) (Ch_T1 hk0) (by decide) (by decide) rfl rfl (show vp_in 0 18 from by unfold vp_in; decide) (Ch_R1 hk0 _ (by decide : 0 < 18)).1 dX2_enterAll_248 ?_
          refine lv_iload_n C.1.1 C.1.2.1 dX2_enterAll_249 rfl (lv_at hl 0 rfl) ?_
          obtain ⟨q55, hD⟩ := g_ck hD
          refine mr_iald C hw (Ch_N2 hk0) (Ch_T2 hk0) q55 dX2_enterAll_250 ?_
          obtain ⟨q56, hD⟩ := g_ck hD
          refine mr_iald C hw (Ch_N3 hk0) (Ch_T3 hk0) q56 dX2_enterAll_251 ?_
          refine lv_if_ne (tgt := 272) C.1.1 C.1.2.1 dX2_enterAll_252 (by decide) (fun c57 => ?_) (fun c57 => ?_)
          · replace hD := g_neg c57 hD
            exact hb272 v2 x37 M52 L _ _ ls hD hw (lv_sub hl [1, 2, 0] rfl)
          · replace hD := g_pos c57 hD
            refine lv_aload_n C.1.1 C.1.2.1 dX2_enterAll_255 rfl (lv_at hl 1 rfl) ?_
            refine mr_getR C hw kc_2 0 (Ch_N0 hk0) (Ch_T0 hk0) (Ch_F0_0 hk0) wd_444 dX2_enterAll_256 (by decide) rfl ?_
            refine lv_bipush (v := 6) C.1.1 C.1.2.1 dX2_enterAll_259 (by decide) ?_
            refine mr_aald C hw (Ch_N1 hk0) (Ch_T1 hk0) (by decide) (by decide) rfl rfl (show vp_in 6 18 from by unfold vp_in; decide) (Ch_R1 hk0 _ (by decide : 6 < 18)).1 dX2_enterAll_261 ?_
            refine lv_aload_n C.1.1 C.1.2.1 dX2_enterAll_262 rfl (lv_at hl 1 rfl) ?_
            refine mr_getR C hw kc_2 0 (Ch_N0 hk0) (Ch_T0 hk0) (Ch_F0_0 hk0) wd_444 dX2_enterAll_263 (by decide) rfl ?_
            refine lv_iconst (v := 0) C.1.1 C.1.2.1 dX2_enterAll_266 (by decide) ?_
            refine mr_aald C hw (Ch_N1 hk0) (Ch_T1 hk0) (by decide) (by decide) rfl rfl (show vp_in 0 18 from by unfold vp_in; decide) (Ch_R1 hk0 _ (by decide : 0 < 18)).1 dX2_enterAll_267 ?_
            refine lv_iload_n C.1.1 C.1.2.1 dX2_enterAll_268 rfl (lv_at hl 0 rfl) ?_
            obtain ⟨q60, hD⟩ := g_ck hD
            refine mr_iald C hw (Ch_N2 hk0) (Ch_T2 hk0) q60 dX2_enterAll_269 ?_
            refine lv_iload_n C.1.1 C.1.2.1 dX2_enterAll_270 rfl (lv_at hl 0 rfl) ?_
            obtain ⟨q61, hD⟩ := g_ck hD
            obtain ⟨M62, eM62, hD⟩ := g_let hD
            refine mr_iast C hw (Ch_N8 hk0) (Ch_T8 hk0) q61 dX2_enterAll_271 (fun H locs hw => ?_)
            replace hw : mw_W G ad NF TF FF M62 L H locs := by rw [eM62]; exact hw
            exact hb272 v2 x37 M62 L _ _ ls hD hw (lv_sub hl [1, 2, 0] rfl)
  have hh17 : ∀ (f : Nat) (v2 : Int32) (M : mwM) (L : mwL) (H : Heap) (locs : List Loc) (ls : Array Slot), fX2_enterAll_h17 fu k a1 f (v2, M, L) = some (M0, L0) → mw_W G ad NF TF FF M L H locs → lv_has ls 6 [(0, .ref (ad k)), (1, .int a1), (2, .int v2)] → W p l e ({ frames := 1, cells := 0, slots := 0, locals := 24 }) s m [.ref (ad k), .int a1].toArray below meth c H locs 0 0 (MQ below (mw_Qv G ad NF TF FF (mw_eqV M0 L0)) [.ref (ad k), .int a1].toArray s 0 0 (mw_fr G)) (F0 m 17 ls []) := by
    intro f
    induction f with
    | zero => intro v2 M L H locs ls hD; cases hD
    | succ f17 ih17 =>
      intro v2 M L H locs ls hD hw hl
      replace hD : fX2_enterAll_i17 fu k a1 (fX2_enterAll_h17 fu k a1 f17) v2 M L = some (M0, L0) := hD
      have hb156 : ∀ (v2 : Int32) (M : mwM) (L : mwL) (H : Heap) (locs : List Loc) (ls : Array Slot), fX2_enterAll_b156 fu k a1 (fX2_enterAll_h17 fu k a1 f17) v2 M L = some (M0, L0) → mw_W G ad NF TF FF M L H locs → lv_has ls 6 [(0, .ref (ad k)), (1, .int a1), (2, .int v2)] → W p l e ({ frames := 1, cells := 0, slots := 0, locals := 24 }) s m [.ref (ad k), .int a1].toArray below meth c H locs 0 0 (MQ below (mw_Qv G ad NF TF FF (mw_eqV M0 L0)) [.ref (ad k), .int a1].toArray s 0 0 (mw_fr G)) (F0 m 156 ls []) := by
        intro v2 M L H locs ls hD hw hl
        unfold fX2_enterAll_b156 at hD
        obtain ⟨x33, ex33, hD⟩ := g_let hD
        refine lv_iinc (v := x33) (lv' := [(2, .int x33), (0, .ref (ad k)), (1, .int a1)]) C.1.1 C.1.2.1 dX2_enterAll_156 hl (k := 2) rfl (by rw [ex33]; rfl) (by decide) rfl (fun ls hl => ?_)
        refine lv_goto (tgt := 17) C.1.1 C.1.2.1 dX2_enterAll_159 (by decide) ?_
        exact ih17 x33 M L _ _ ls hD hw (lv_sub hl [1, 2, 0] rfl)
      have hb122 : ∀ (v2 : Int32) (v3 : Int32) (v5 : Int32) (s1 : Int32) (s2 : Int32) (M : mwM) (L : mwL) (H : Heap) (locs : List Loc) (ls : Array Slot), fX2_enterAll_b122 fu k a1 (fX2_enterAll_h17 fu k a1 f17) v2 v3 v5 s1 s2 M L = some (M0, L0) → mw_W G ad NF TF FF M L H locs → lv_has ls 6 [(0, .ref (ad k)), (1, .int a1), (2, .int v2), (3, .int v3), (5, .int v5)] → W p l e ({ frames := 1, cells := 0, slots := 0, locals := 24 }) s m [.ref (ad k), .int a1].toArray below meth c H locs 0 0 (MQ below (mw_Qv G ad NF TF FF (mw_eqV M0 L0)) [.ref (ad k), .int a1].toArray s 0 0 (mw_fr G)) (F0 m 122 ls [.int s2, .int s1, .ref (ad (k + 14))]) := by
        intro v2 v3 v5 s1 s2 M L H locs ls hD hw hl
        unfold fX2_enterAll_b122 at hD
        obtain ⟨q22, hD⟩ := g_ck hD
        obtain ⟨M23, eM23, hD⟩ := g_let hD
        refine mr_iast C hw (Ch_N14 hk0) (Ch_T14 hk0) q22 dX2_enterAll_122 (fun H locs hw => ?_)
        replace hw : mw_W G ad NF TF FF M23 L H locs := by rw [eM23]; exact hw
        refine lv_iload C.1.1 C.1.2.1 dX2_enterAll_123 (lv_at hl 4 rfl) ?_
        refine lv_if_eq (tgt := 156) C.1.1 C.1.2.1 dX2_enterAll_125 (by decide) (fun c24 => ?_) (fun c24 => ?_)
        · replace hD := g_pos c24 hD
          exact hb156 v2 M23 L _ _ ls hD hw (lv_sub hl [0, 1, 2] rfl)
        · replace hD := g_neg c24 hD
          refine lv_aload_n C.1.1 C.1.2.1 dX2_enterAll_128 rfl (lv_at hl 0 rfl) ?_
          refine mr_getR C hw kc_2 0 (Ch_N0 hk0) (Ch_T0 hk0) (Ch_F0_0 hk0) wd_444 dX2_enterAll_129 (by decide) rfl ?_
          refine lv_bipush (v := 11) C.1.1 C.1.2.1 dX2_enterAll_132 (by decide) ?_
          refine mr_aald C hw (Ch_N1 hk0) (Ch_T1 hk0) (by decide) (by decide) rfl rfl (show vp_in 11 18 from by unfold vp_in; decide) (Ch_R1 hk0 _ (by decide : 11 < 18)).1 dX2_enterAll_134 ?_
          refine lv_iload_n C.1.1 C.1.2.1 dX2_enterAll_135 rfl (lv_at hl 2 rfl) ?_
          refine lv_dup2_11 C.1.1 C.1.2.1 dX2_enterAll_136 rfl rfl ?_
          obtain ⟨q26, hD⟩ := g_ck hD
          refine mr_iald C hw (Ch_N13 hk0) (Ch_T13 hk0) q26 dX2_enterAll_137 ?_
          refine lv_aload_n C.1.1 C.1.2.1 dX2_enterAll_138 rfl (lv_at hl 0 rfl) ?_
          refine mr_getR C hw kc_2 0 (Ch_N0 hk0) (Ch_T0 hk0) (Ch_F0_0 hk0) wd_444 dX2_enterAll_139 (by decide) rfl ?_
          refine lv_bipush (v := 11) C.1.1 C.1.2.1 dX2_enterAll_142 (by decide) ?_
          refine mr_aald C hw (Ch_N1 hk0) (Ch_T1 hk0) (by decide) (by decide) rfl rfl (show vp_in 11 18 from by unfold vp_in; decide) (Ch_R1 hk0 _ (by decide : 11 < 18)).1 dX2_enterAll_144 ?_
          refine lv_iload_n C.1.1 C.1.2.1 dX2_enterAll_145 rfl (lv_at hl 3 rfl) ?_
          obtain ⟨q28, hD⟩ := g_ck hD
          refine mr_iald C hw (Ch_N13 hk0) (Ch_T13 hk0) q28 dX2_enterAll_146 ?_
          refine lv_iconst (v := 2) C.1.1 C.1.2.1 dX2_enterAll_147 (by decide) ?_
          refine lv_iand C.1.1 C.1.2.1 dX2_enterAll_148 ?_
          refine lv_ior C.1.1 C.1.2.1 dX2_enterAll_149 ?_
          obtain ⟨q29, hD⟩ := g_ck hD
          obtain ⟨M30, eM30, hD⟩ := g_let hD
          refine mr_iast C hw (Ch_N13 hk0) (Ch_T13 hk0) q29 dX2_enterAll_150 (fun H locs hw => ?_)
          replace hw : mw_W G ad NF TF FF M30 L H locs := by rw [eM30]; exact hw
          refine lv_aload_n C.1.1 C.1.2.1 dX2_enterAll_151 rfl (lv_at hl 0 rfl) ?_
          refine lv_iload_n C.1.1 C.1.2.1 dX2_enterAll_152 rfl (lv_at hl 2 rfl) ?_
          obtain ⟨M31, L32, h1, hD⟩ := g_b2 hD
          refine md_cvV (As := [.int v2]) (rest := []) C hw (tX2_pickChild l G ad fu k v2 M30 L h1 hk0) kc_2 (Ch_N0 hk0) (Ch_T0 hk0) wd_1667 cwX2_pickChild ⟨Nat.le_of_ble_eq_true rfl, Nat.le_of_ble_eq_true rfl⟩ rfl hl.1 (Nat.le_of_ble_eq_true rfl) dX2_enterAll_153 rfl rfl ⟨Nat.zero_le _, Nat.zero_le _⟩ rfl (fun H locs hw => ?_)
          exact hb156 v2 M31 L32 _ _ ls hD hw (lv_sub hl [0, 1, 2] rfl)
      have hb102 : ∀ (v2 : Int32) (v3 : Int32) (s0 : Int32) (M : mwM) (L : mwL) (H : Heap) (locs : List Loc) (ls : Array Slot), fX2_enterAll_b102 fu k a1 (fX2_enterAll_h17 fu k a1 f17) v2 v3 s0 M L = some (M0, L0) → mw_W G ad NF TF FF M L H locs → lv_has ls 6 [(0, .ref (ad k)), (1, .int a1), (2, .int v2), (3, .int v3)] → W p l e ({ frames := 1, cells := 0, slots := 0, locals := 24 }) s m [.ref (ad k), .int a1].toArray below meth c H locs 0 0 (MQ below (mw_Qv G ad NF TF FF (mw_eqV M0 L0)) [.ref (ad k), .int a1].toArray s 0 0 (mw_fr G)) (F0 m 102 ls [.int s0]) := by
        intro v2 v3 s0 M L H locs ls hD hw hl
        unfold fX2_enterAll_b102 at hD
        refine lv_istore (lv' := [(5, .int s0), (0, .ref (ad k)), (1, .int a1), (2, .int v2), (3, .int v3)]) C.1.1 C.1.2.1 dX2_enterAll_102 hl (by decide) rfl (fun ls hl => ?_)
        refine lv_aload_n C.1.1 C.1.2.1 dX2_enterAll_104 rfl (lv_at hl 1 rfl) ?_
        refine mr_getR C hw kc_2 0 (Ch_N0 hk0) (Ch_T0 hk0) (Ch_F0_0 hk0) wd_444 dX2_enterAll_105 (by decide) rfl ?_
        refine lv_bipush (v := 12) C.1.1 C.1.2.1 dX2_enterAll_108 (by decide) ?_
        refine mr_aald C hw (Ch_N1 hk0) (Ch_T1 hk0) (by decide) (by decide) rfl rfl (show vp_in 12 18 from by unfold vp_in; decide) (Ch_R1 hk0 _ (by decide : 12 < 18)).1 dX2_enterAll_110 ?_
        refine lv_iload_n C.1.1 C.1.2.1 dX2_enterAll_111 rfl (lv_at hl 3 rfl) ?_
        refine lv_iload C.1.1 C.1.2.1 dX2_enterAll_112 (lv_at hl 0 rfl) ?_
        refine lv_if_eq (tgt := 121) C.1.1 C.1.2.1 dX2_enterAll_114 (by decide) (fun c21 => ?_) (fun c21 => ?_)
        · replace hD := g_pos c21 hD
          refine lv_iconst (v := 0) C.1.1 C.1.2.1 dX2_enterAll_121 (by decide) ?_
          exact hb122 v2 v3 s0 v2 0 M L _ _ ls hD hw (lv_sub hl [1, 2, 3, 4, 0] rfl)
        · replace hD := g_neg c21 hD
          refine lv_iconst (v := 1) C.1.1 C.1.2.1 dX2_enterAll_117 (by decide) ?_
          refine lv_goto (tgt := 122) C.1.1 C.1.2.1 dX2_enterAll_118 (by decide) ?_
          exact hb122 v2 v3 s0 v2 1 M L _ _ ls hD hw (lv_sub hl [1, 2, 3, 4, 0] rfl)
      have hb101 : ∀ (v2 : Int32) (v3 : Int32) (M : mwM) (L : mwL) (H : Heap) (locs : List Loc) (ls : Array Slot), fX2_enterAll_b101 fu k a1 (fX2_enterAll_h17 fu k a1 f17) v2 v3 M L = some (M0, L0) → mw_W G ad NF TF FF M L H locs → lv_has ls 6 [(0, .ref (ad k)), (1, .int a1), (2, .int v2), (3, .int v3)] → W p l e ({ frames := 1, cells := 0, slots := 0, locals := 24 }) s m [.ref (ad k), .int a1].toArray below meth c H locs 0 0 (MQ below (mw_Qv G ad NF TF FF (mw_eqV M0 L0)) [.ref (ad k), .int a1].toArray s 0 0 (mw_fr G)) (F0 m 101 ls []) := by
        intro v2 v3 M L H locs ls hD hw hl
        unfold fX2_enterAll_b101 at hD
        refine lv_iconst (v := 0) C.1.1 C.1.2.1 dX2_enterAll_101 (by decide) ?_
        exact hb102 v2 v3 0 M L _ _ ls hD hw (lv_sub hl [0, 1, 2, 3] rfl)
      have hb97 : ∀ (v2 : Int32) (v3 : Int32) (M : mwM) (L : mwL) (H : Heap) (locs : List Loc) (ls : Array Slot), fX2_enterAll_b97 fu k a1 (fX2_enterAll_h17 fu k a1 f17) v2 v3 M L = some (M0, L0) → mw_W G ad NF TF FF M L H locs → lv_has ls 6 [(0, .ref (ad k)), (1, .int a1), (2, .int v2), (3, .int v3)] → W p l e ({ frames := 1, cells := 0, slots := 0, locals := 24 }) s m [.ref (ad k), .int a1].toArray below meth c H locs 0 0 (MQ below (mw_Qv G ad NF TF FF (mw_eqV M0 L0)) [.ref (ad k), .int a1].toArray s 0 0 (mw_fr G)) (F0 m 97 ls []) := by
        intro v2 v3 M L H locs ls hD hw hl
        unfold fX2_enterAll_b97 at hD
        refine lv_iconst (v := 1) C.1.1 C.1.2.1 dX2_enterAll_97 (by decide) ?_
        refine lv_goto (tgt := 102) C.1.1 C.1.2.1 dX2_enterAll_98 (by decide) ?_
        exact hb102 v2 v3 1 M L _ _ ls hD hw (lv_sub hl [0, 1, 2, 3] rfl)
      have hb64 : ∀ (v2 : Int32) (v3 : Int32) (s0 : Int32) (M : mwM) (L : mwL) (H : Heap) (locs : List Loc) (ls : Array Slot), fX2_enterAll_b64 fu k a1 (fX2_enterAll_h17 fu k a1 f17) v2 v3 s0 M L = some (M0, L0) → mw_W G ad NF TF FF M L H locs → lv_has ls 6 [(0, .ref (ad k)), (1, .int a1), (2, .int v2), (3, .int v3)] → W p l e ({ frames := 1, cells := 0, slots := 0, locals := 24 }) s m [.ref (ad k), .int a1].toArray below meth c H locs 0 0 (MQ below (mw_Qv G ad NF TF FF (mw_eqV M0 L0)) [.ref (ad k), .int a1].toArray s 0 0 (mw_fr G)) (F0 m 64 ls [.int s0]) := by
        intro v2 v3 s0 M L H locs ls hD hw hl
        unfold fX2_enterAll_b64 at hD
        refine lv_istore (lv' := [(4, .int s0), (0, .ref (ad k)), (1, .int a1), (2, .int v2), (3, .int v3)]) C.1.1 C.1.2.1 dX2_enterAll_64 hl (by decide) rfl (fun ls hl => ?_)
        refine lv_aload_n C.1.1 C.1.2.1 dX2_enterAll_66 rfl (lv_at hl 1 rfl) ?_
        refine lv_iload_n C.1.1 C.1.2.1 dX2_enterAll_67 rfl (lv_at hl 3 rfl) ?_
        obtain ⟨r13, M11, L12, h1, hD⟩ := g_b3 hD
        refine md_cvI (As := [.int v2]) (rest := []) C hw (tX2_isMark l G ad fu k v2 M L h1 hk0) kc_2 (Ch_N0 hk0) (Ch_T0 hk0) wd_1006 cwX2_isMark ⟨Nat.le_of_ble_eq_true rfl, Nat.le_of_ble_eq_true rfl⟩ rfl hl.1 (Nat.le_of_ble_eq_true rfl) dX2_enterAll_68 rfl rfl ⟨Nat.zero_le _, Nat.zero_le _⟩ rfl (fun H locs hw => ?_)
        refine lv_if_ne (tgt := 101) C.1.1 C.1.2.1 dX2_enterAll_71 (by decide) (fun c14 => ?_) (fun c14 => ?_)
        · replace hD := g_neg c14 hD
          exact hb101 v2 v3 M11 L12 _ _ ls hD hw (lv_sub hl [1, 2, 3, 4] rfl)
        · replace hD := g_pos c14 hD
          refine lv_iload C.1.1 C.1.2.1 dX2_enterAll_74 (lv_at hl 0 rfl) ?_
          refine lv_if_eq (tgt := 101) C.1.1 C.1.2.1 dX2_enterAll_76 (by decide) (fun c15 => ?_) (fun c15 => ?_)
          · replace hD := g_pos c15 hD
            exact hb101 v2 v3 M11 L12 _ _ ls hD hw (lv_sub hl [1, 2, 3, 4] rfl)
          · replace hD := g_neg c15 hD
            refine lv_iload_n C.1.1 C.1.2.1 dX2_enterAll_79 rfl (lv_at hl 4 rfl) ?_
            refine lv_iload_n C.1.1 C.1.2.1 dX2_enterAll_80 rfl (lv_at hl 2 rfl) ?_
            refine lv_icmp_eq (tgt := 97) C.1.1 C.1.2.1 dX2_enterAll_81 (by decide) (fun c16 => ?_) (fun c16 => ?_)
            · replace hD := g_pos c16 hD
              exact hb97 v2 v3 M11 L12 _ _ ls hD hw (lv_sub hl [1, 2, 3, 4] rfl)
            · replace hD := g_neg c16 hD
              refine lv_aload_n C.1.1 C.1.2.1 dX2_enterAll_84 rfl (lv_at hl 1 rfl) ?_
              refine mr_getR C hw kc_2 0 (Ch_N0 hk0) (Ch_T0 hk0) (Ch_F0_0 hk0) wd_444 dX2_enterAll_85 (by decide) rfl ?_
              refine lv_bipush (v := 12) C.1.1 C.1.2.1 dX2_enterAll_88 (by decide) ?_
              refine mr_aald C hw (Ch_N1 hk0) (Ch_T1 hk0) (by decide) (by decide) rfl rfl (show vp_in 12 18 from by unfold vp_in; decide) (Ch_R1 hk0 _ (by decide : 12 < 18)).1 dX2_enterAll_90 ?_
              refine lv_iload_n C.1.1 C.1.2.1 dX2_enterAll_91 rfl (lv_at hl 4 rfl) ?_
              obtain ⟨q18, hD⟩ := g_ck hD
              refine mr_iald C hw (Ch_N14 hk0) (Ch_T14 hk0) q18 dX2_enterAll_92 ?_
              refine lv_iconst (v := 1) C.1.1 C.1.2.1 dX2_enterAll_93 (by decide) ?_
              refine lv_icmp_ne (tgt := 101) C.1.1 C.1.2.1 dX2_enterAll_94 (by decide) (fun c19 => ?_) (fun c19 => ?_)
              · replace hD := g_neg c19 hD
                exact hb101 v2 v3 M11 L12 _ _ ls hD hw (lv_sub hl [1, 2, 3, 4] rfl)
              · replace hD := g_pos c19 hD
                exact hb97 v2 v3 M11 L12 _ _ ls hD hw (lv_sub hl [1, 2, 3, 4] rfl)
      have hb59 : ∀ (v2 : Int32) (v3 : Int32) (M : mwM) (L : mwL) (H : Heap) (locs : List Loc) (ls : Array Slot), fX2_enterAll_b59 fu k a1 (fX2_enterAll_h17 fu k a1 f17) v2 v3 M L = some (M0, L0) → mw_W G ad NF TF FF M L H locs → lv_has ls 6 [(0, .ref (ad k)), (1, .int a1), (2, .int v2), (3, .int v3)] → W p l e ({ frames := 1, cells := 0, slots := 0, locals := 24 }) s m [.ref (ad k), .int a1].toArray below meth c H locs 0 0 (MQ below (mw_Qv G ad NF TF FF (mw_eqV M0 L0)) [.ref (ad k), .int a1].toArray s 0 0 (mw_fr G)) (F0 m 59 ls []) := by
        intro v2 v3 M L H locs ls hD hw hl
        unfold fX2_enterAll_b59 at hD
        refine lv_iconst (v := 1) C.1.1 C.1.2.1 dX2_enterAll_59 (by decide) ?_
        refine lv_goto (tgt := 64) C.1.1 C.1.2.1 dX2_enterAll_60 (by decide) ?_
        exact hb64 v2 v3 1 M L _ _ ls hD hw (lv_sub hl [0, 1, 2, 3] rfl)
      unfold fX2_enterAll_i17 at hD
      refine lv_iload_n C.1.1 C.1.2.1 dX2_enterAll_17 rfl (lv_at hl 2 rfl) ?_
      refine lv_aload_n C.1.1 C.1.2.1 dX2_enterAll_18 rfl (lv_at hl 0 rfl) ?_
      refine mr_getI C hw kc_2 7 (Ch_N0 hk0) (Ch_T0 hk0) wd_458 dX2_enterAll_19 (by decide) rfl ?_
      refine lv_icmp_gt (tgt := 162) C.1.1 C.1.2.1 dX2_enterAll_22 (by decide) (fun c1 => ?_) (fun c1 => ?_)
      · replace hD := g_pos c1 hD
        refine lv_iconst (v := 1) C.1.1 C.1.2.1 dX2_enterAll_162 (by decide) ?_
        refine lv_istore_n (lv' := [(2, .int 1), (0, .ref (ad k)), (1, .int a1)]) C.1.1 C.1.2.1 dX2_enterAll_163 rfl hl (by decide) rfl (fun ls hl => ?_)
        exact hh164 fu 1 M L _ _ ls hD hw (lv_sub hl [1, 0] rfl)
      · replace hD := g_neg c1 hD
        refine lv_aload_n C.1.1 C.1.2.1 dX2_enterAll_25 rfl (lv_at hl 0 rfl) ?_
        refine mr_getR C hw kc_2 0 (Ch_N0 hk0) (Ch_T0 hk0) (Ch_F0_0 hk0) wd_444 dX2_enterAll_26 (by decide) rfl ?_
        refine lv_iconst (v := 0) C.1.1 C.1.2.1 dX2_enterAll_29 (by decide) ?_
        refine mr_aald C hw (Ch_N1 hk0) (Ch_T1 hk0) (by decide) (by decide) rfl rfl (show vp_in 0 18 from by unfold vp_in; decide) (Ch_R1 hk0 _ (by decide : 0 < 18)).1 dX2_enterAll_30 ?_
        refine lv_iload_n C.1.1 C.1.2.1 dX2_enterAll_31 rfl (lv_at hl 2 rfl) ?_
        obtain ⟨q3, hD⟩ := g_ck hD
        refine mr_iald C hw (Ch_N2 hk0) (Ch_T2 hk0) q3 dX2_enterAll_32 ?_
        obtain ⟨x4, ex4, hD⟩ := g_let hD
        refine W.eq (g2 := F0 m 33 ls (.int x4 :: [])) (by rw [ex4]) ?_
        refine lv_istore_n (lv' := [(3, .int x4), (0, .ref (ad k)), (1, .int a1), (2, .int v2)]) C.1.1 C.1.2.1 dX2_enterAll_33 rfl hl (by decide) rfl (fun ls hl => ?_)
        refine lv_aload_n C.1.1 C.1.2.1 dX2_enterAll_34 rfl (lv_at hl 1 rfl) ?_
        refine mr_getR C hw kc_2 0 (Ch_N0 hk0) (Ch_T0 hk0) (Ch_F0_0 hk0) wd_444 dX2_enterAll_35 (by decide) rfl ?_
        refine lv_iconst (v := 1) C.1.1 C.1.2.1 dX2_enterAll_38 (by decide) ?_
        refine mr_aald C hw (Ch_N1 hk0) (Ch_T1 hk0) (by decide) (by decide) rfl rfl (show vp_in 1 18 from by unfold vp_in; decide) (Ch_R1 hk0 _ (by decide : 1 < 18)).1 dX2_enterAll_39 ?_
        refine lv_iload_n C.1.1 C.1.2.1 dX2_enterAll_40 rfl (lv_at hl 0 rfl) ?_
        obtain ⟨q6, hD⟩ := g_ck hD
        refine mr_iald C hw (Ch_N3 hk0) (Ch_T3 hk0) q6 dX2_enterAll_41 ?_
        refine lv_iconst (v := 1) C.1.1 C.1.2.1 dX2_enterAll_42 (by decide) ?_
        refine lv_icmp_eq (tgt := 59) C.1.1 C.1.2.1 dX2_enterAll_43 (by decide) (fun c7 => ?_) (fun c7 => ?_)
        · replace hD := g_pos c7 hD
          exact hb59 v2 x4 M L _ _ ls hD hw (lv_sub hl [1, 2, 3, 0] rfl)
        · replace hD := g_neg c7 hD
          refine lv_aload_n C.1.1 C.1.2.1 dX2_enterAll_46 rfl (lv_at hl 1 rfl) ?_
          refine mr_getR C hw kc_2 0 (Ch_N0 hk0) (Ch_T0 hk0) (Ch_F0_0 hk0) wd_444 dX2_enterAll_47 (by decide) rfl ?_
          refine lv_bipush (v := 10) C.1.1 C.1.2.1 dX2_enterAll_50 (by decide) ?_
          refine mr_aald C hw (Ch_N1 hk0) (Ch_T1 hk0) (by decide) (by decide) rfl rfl (show vp_in 10 18 from by unfold vp_in; decide) (Ch_R1 hk0 _ (by decide : 10 < 18)).1 dX2_enterAll_52 ?_
          refine lv_iload_n C.1.1 C.1.2.1 dX2_enterAll_53 rfl (lv_at hl 0 rfl) ?_
          obtain ⟨q9, hD⟩ := g_ck hD
          refine mr_iald C hw (Ch_N12 hk0) (Ch_T12 hk0) q9 dX2_enterAll_54 ?_
          refine lv_iload_n C.1.1 C.1.2.1 dX2_enterAll_55 rfl (lv_at hl 3 rfl) ?_
          refine lv_icmp_ne (tgt := 63) C.1.1 C.1.2.1 dX2_enterAll_56 (by decide) (fun c10 => ?_) (fun c10 => ?_)
          · replace hD := g_neg c10 hD
            refine lv_iconst (v := 0) C.1.1 C.1.2.1 dX2_enterAll_63 (by decide) ?_
            exact hb64 v2 x4 0 M L _ _ ls hD hw (lv_sub hl [1, 2, 3, 0] rfl)
          · replace hD := g_pos c10 hD
            exact hb59 v2 x4 M L _ _ ls hD hw (lv_sub hl [1, 2, 3, 0] rfl)
  unfold DX2_enterAll at hD
  refine lv_aload_n C.1.1 C.1.2.1 dX2_enterAll_0 rfl (lv_at hl 0 rfl) ?_
  refine lv_iload_n C.1.1 C.1.2.1 dX2_enterAll_1 rfl (lv_at hl 1 rfl) ?_
  obtain ⟨M66, L67, h1, hD⟩ := g_b2 hD
  refine md_cvV (As := [.int a1]) (rest := []) C hw (tX2_pickChild l G ad fu k a1 M L h1 hk0) kc_2 (Ch_N0 hk0) (Ch_T0 hk0) wd_1667 cwX2_pickChild ⟨Nat.le_of_ble_eq_true rfl, Nat.le_of_ble_eq_true rfl⟩ rfl hl.1 (Nat.le_of_ble_eq_true rfl) dX2_enterAll_2 rfl rfl ⟨Nat.zero_le _, Nat.zero_le _⟩ rfl (fun H locs hw => ?_)
  refine lv_aload_n C.1.1 C.1.2.1 dX2_enterAll_5 rfl (lv_at hl 0 rfl) ?_
  refine mr_getR C hw kc_2 0 (Ch_N0 hk0) (Ch_T0 hk0) (Ch_F0_0 hk0) wd_444 dX2_enterAll_6 (by decide) rfl ?_
  refine lv_bipush (v := 12) C.1.1 C.1.2.1 dX2_enterAll_9 (by decide) ?_
  refine mr_aald C hw (Ch_N1 hk0) (Ch_T1 hk0) (by decide) (by decide) rfl rfl (show vp_in 12 18 from by unfold vp_in; decide) (Ch_R1 hk0 _ (by decide : 12 < 18)).1 dX2_enterAll_11 ?_
  refine lv_iconst (v := 0) C.1.1 C.1.2.1 dX2_enterAll_12 (by decide) ?_
  refine lv_iconst (v := 0) C.1.1 C.1.2.1 dX2_enterAll_13 (by decide) ?_
  obtain ⟨M70, eM70, hD⟩ := g_let hD
  refine mr_iast C hw (Ch_N14 hk0) (Ch_T14 hk0) (show vp_in 0 201 from by unfold vp_in; decide) dX2_enterAll_14 (fun H locs hw => ?_)
  replace hw : mw_W G ad NF TF FF M70 L67 H locs := by rw [eM70]; exact hw
  refine lv_iconst (v := 1) C.1.1 C.1.2.1 dX2_enterAll_15 (by decide) ?_
  refine lv_istore_n (lv' := [(2, .int 1), (0, .ref (ad k)), (1, .int a1)]) C.1.1 C.1.2.1 dX2_enterAll_16 rfl hl (by decide) rfl (fun ls hl => ?_)
  exact hh17 fu 1 M70 L67 _ _ ls hD hw (lv_sub hl [1, 2, 0] rfl)

theorem dX2_isJoined_0 : decode cX2_isJoined 0 = .ok (.iconst 0, 1) := by decide +kernel
theorem dX2_isJoined_1 : decode cX2_isJoined 1 = .ok (.istore_n 2, 1) := by decide +kernel
theorem dX2_isJoined_2 : decode cX2_isJoined 2 = .ok (.iconst 1, 1) := by decide +kernel
theorem dX2_isJoined_3 : decode cX2_isJoined 3 = .ok (.istore_n 3, 1) := by decide +kernel
theorem dX2_isJoined_4 : decode cX2_isJoined 4 = .ok (.iload_n 3, 1) := by decide +kernel
theorem dX2_isJoined_5 : decode cX2_isJoined 5 = .ok (.aload_n 0, 1) := by decide +kernel
theorem dX2_isJoined_6 : decode cX2_isJoined 6 = .ok (.getfield 40, 3) := by decide +kernel
theorem dX2_isJoined_9 : decode cX2_isJoined 9 = .ok (.if_icmp .gt 43, 3) := by decide +kernel
theorem dX2_isJoined_12 : decode cX2_isJoined 12 = .ok (.aload_n 0, 1) := by decide +kernel
theorem dX2_isJoined_13 : decode cX2_isJoined 13 = .ok (.getfield 16, 3) := by decide +kernel
theorem dX2_isJoined_16 : decode cX2_isJoined 16 = .ok (.iconst 1, 1) := by decide +kernel
theorem dX2_isJoined_17 : decode cX2_isJoined 17 = .ok (.aaload, 1) := by decide +kernel
theorem dX2_isJoined_18 : decode cX2_isJoined 18 = .ok (.iload_n 3, 1) := by decide +kernel
theorem dX2_isJoined_19 : decode cX2_isJoined 19 = .ok (.iaload, 1) := by decide +kernel
theorem dX2_isJoined_20 : decode cX2_isJoined 20 = .ok (.iload_n 1, 1) := by decide +kernel
theorem dX2_isJoined_21 : decode cX2_isJoined 21 = .ok (.if_icmp .ne 25, 3) := by decide +kernel
theorem dX2_isJoined_24 : decode cX2_isJoined 24 = .ok (.iconst 1, 1) := by decide +kernel
theorem dX2_isJoined_25 : decode cX2_isJoined 25 = .ok (.istore_n 2, 1) := by decide +kernel
theorem dX2_isJoined_26 : decode cX2_isJoined 26 = .ok (.aload_n 0, 1) := by decide +kernel
theorem dX2_isJoined_27 : decode cX2_isJoined 27 = .ok (.getfield 13, 3) := by decide +kernel
theorem dX2_isJoined_30 : decode cX2_isJoined 30 = .ok (.iconst 5, 1) := by decide +kernel
theorem dX2_isJoined_31 : decode cX2_isJoined 31 = .ok (.aaload, 1) := by decide +kernel
theorem dX2_isJoined_32 : decode cX2_isJoined 32 = .ok (.aload_n 0, 1) := by decide +kernel
theorem dX2_isJoined_33 : decode cX2_isJoined 33 = .ok (.getfield 16, 3) := by decide +kernel
theorem dX2_isJoined_36 : decode cX2_isJoined 36 = .ok (.iconst 0, 1) := by decide +kernel
theorem dX2_isJoined_37 : decode cX2_isJoined 37 = .ok (.aaload, 1) := by decide +kernel
theorem dX2_isJoined_38 : decode cX2_isJoined 38 = .ok (.iload_n 3, 1) := by decide +kernel
theorem dX2_isJoined_39 : decode cX2_isJoined 39 = .ok (.iaload, 1) := by decide +kernel
theorem dX2_isJoined_40 : decode cX2_isJoined 40 = .ok (.iaload, 1) := by decide +kernel
theorem dX2_isJoined_41 : decode cX2_isJoined 41 = .ok (.ifCond .ne 5, 3) := by decide +kernel
theorem dX2_isJoined_44 : decode cX2_isJoined 44 = .ok (.iconst 0, 1) := by decide +kernel
theorem dX2_isJoined_45 : decode cX2_isJoined 45 = .ok (.ireturn, 1) := by decide +kernel
theorem dX2_isJoined_46 : decode cX2_isJoined 46 = .ok (.iinc 3 1, 3) := by decide +kernel
theorem dX2_isJoined_49 : decode cX2_isJoined 49 = .ok (.goto (-45), 3) := by decide +kernel
theorem dX2_isJoined_52 : decode cX2_isJoined 52 = .ok (.iload_n 2, 1) := by decide +kernel
theorem dX2_isJoined_53 : decode cX2_isJoined 53 = .ok (.ireturn, 1) := by decide +kernel
theorem cwX2_isJoined : mw_cwV yX2_isJoined cX2_isJoined 4 ((some .boolean)) 1 := ⟨⟨wd_12, wd_1690, by decide +kernel⟩, wd_1689, sl_125⟩
set_option maxHeartbeats 4000000 in
set_option maxRecDepth 100000 in
theorem tX2_isJoined (l : Launch) (G : mwG) (ad : Nat → Nat) (fu : Nat) (k : Nat) (a1 : Int32) (M : mwM) (L : mwL) {r0 : Int32} {M0 : mwM} {L0 : mwL} (hD : DX2_isJoined fu k a1 M L = some (r0, M0, L0)) (hk0 : isCh k) : Met l yX2_isJoined (Cond.code yX2_isJoined cX2_isJoined 4 ((some .boolean)) :: GT) ({ frames := 0, cells := 0, slots := 0, locals := 0 }) (mw_Pre G ad NF TF FF M L [.ref (ad k), .int a1]) (mw_Qi G ad NF TF FF (mw_eqI r0 M0 L0)) 0 0 (mw_fr G) := by
  refine mw_enter (by decide) (Nat.le_of_ble_eq_true rfl) ?_
  intro p e s m below meth c ls C hr hlocks hnm hw hl
  have hl : lv_has ls 4 [(0, .ref (ad k)), (1, .int a1)] := hl
  have hh4 : ∀ (f : Nat) (v2 : Int32) (v3 : Int32) (M : mwM) (L : mwL) (H : Heap) (locs : List Loc) (ls : Array Slot), fX2_isJoined_h4 fu k a1 f (v2, v3, M, L) = some (r0, M0, L0) → mw_W G ad NF TF FF M L H locs → lv_has ls 4 [(0, .ref (ad k)), (1, .int a1), (2, .int v2), (3, .int v3)] → W p l e ({ frames := 0, cells := 0, slots := 0, locals := 0 }) s m [.ref (ad k), .int a1].toArray below meth c H locs 0 0 (MQ below (mw_Qi G ad NF TF FF (mw_eqI r0 M0 L0)) [.ref (ad k), .int a1].toArray s 0 0 (mw_fr G)) (F0 m 4 ls []) := by
    intro f
    induction f with
    | zero => intro v2 v3 M L H locs ls hD; cases hD
    | succ f4 ih4 =>
      intro v2 v3 M L H locs ls hD hw hl
      replace hD : fX2_isJoined_i4 fu k a1 (fX2_isJoined_h4 fu k a1 f4) v2 v3 M L = some (r0, M0, L0) := hD
      have hb46 : ∀ (v2 : Int32) (v3 : Int32) (M : mwM) (L : mwL) (H : Heap) (locs : List Loc) (ls : Array Slot), fX2_isJoined_b46 fu k a1 (fX2_isJoined_h4 fu k a1 f4) v2 v3 M L = some (r0, M0, L0) → mw_W G ad NF TF FF M L H locs → lv_has ls 4 [(0, .ref (ad k)), (1, .int a1), (2, .int v2), (3, .int v3)] → W p l e ({ frames := 0, cells := 0, slots := 0, locals := 0 }) s m [.ref (ad k), .int a1].toArray below meth c H locs 0 0 (MQ below (mw_Qi G ad NF TF FF (mw_eqI r0 M0 L0)) [.ref (ad k), .int a1].toArray s 0 0 (mw_fr G)) (F0 m 46 ls []) := by
        intro v2 v3 M L H locs ls hD hw hl
        unfold fX2_isJoined_b46 at hD
        obtain ⟨x11, ex11, hD⟩ := g_let hD
        refine lv_iinc (v := x11) (lv' := [(3, .int x11), (0, .ref (ad k)), (1, .int a1), (2, .int v2)]) C.1.1 C.1.2.1 dX2_isJoined_46 hl (k := 3) rfl (by rw [ex11]; rfl) (by decide) rfl (fun ls hl => ?_)
        refine lv_goto (tgt := 4) C.1.1 C.1.2.1 dX2_isJoined_49 (by decide) ?_
        exact ih4 v2 x11 M L _ _ ls hD hw (lv_sub hl [1, 2, 3, 0] rfl)
      unfold fX2_isJoined_i4 at hD
      refine lv_iload_n C.1.1 C.1.2.1 dX2_isJoined_4 rfl (lv_at hl 3 rfl) ?_
      refine lv_aload_n C.1.1 C.1.2.1 dX2_isJoined_5 rfl (lv_at hl 0 rfl) ?_
      refine mr_getI C hw kc_2 8 (Ch_N0 hk0) (Ch_T0 hk0) wd_460 dX2_isJoined_6 (by decide) rfl ?_
      refine lv_icmp_gt (tgt := 52) C.1.1 C.1.2.1 dX2_isJoined_9 (by decide) (fun c1 => ?_) (fun c1 => ?_)
      · replace hD := g_pos c1 hD
        refine lv_iload_n C.1.1 C.1.2.1 dX2_isJoined_52 rfl (lv_at hl 2 rfl) ?_
        obtain ⟨z2, hD⟩ := g_zz hD
        exact mr_iret C hr hlocks hw (nz_zz z2) (Option.some.inj hD) dX2_isJoined_53
      · replace hD := g_neg c1 hD
        refine lv_aload_n C.1.1 C.1.2.1 dX2_isJoined_12 rfl (lv_at hl 0 rfl) ?_
        refine mr_getR C hw kc_2 1 (Ch_N0 hk0) (Ch_T0 hk0) (Ch_F0_1 hk0) wd_445 dX2_isJoined_13 (by decide) rfl ?_
        refine lv_iconst (v := 1) C.1.1 C.1.2.1 dX2_isJoined_16 (by decide) ?_
        refine mr_aald C hw (Ch_N20 hk0) (Ch_T20 hk0) (by decide) (by decide) rfl rfl (show vp_in 1 7 from by unfold vp_in; decide) (Ch_R20 hk0 _ (by decide : 1 < 7)).1 dX2_isJoined_17 ?_
        refine lv_iload_n C.1.1 C.1.2.1 dX2_isJoined_18 rfl (lv_at hl 3 rfl) ?_
        obtain ⟨q4, hD⟩ := g_ck hD
        refine mr_iald C hw (Ch_N22 hk0) (Ch_T22 hk0) q4 dX2_isJoined_19 ?_
        refine lv_iload_n C.1.1 C.1.2.1 dX2_isJoined_20 rfl (lv_at hl 1 rfl) ?_
        refine lv_icmp_ne (tgt := 46) C.1.1 C.1.2.1 dX2_isJoined_21 (by decide) (fun c5 => ?_) (fun c5 => ?_)
        · replace hD := g_neg c5 hD
          exact hb46 v2 v3 M L _ _ ls hD hw (lv_sub hl [0, 1, 2, 3] rfl)
        · replace hD := g_pos c5 hD
          refine lv_iconst (v := 1) C.1.1 C.1.2.1 dX2_isJoined_24 (by decide) ?_
          refine lv_istore_n (lv' := [(2, .int 1), (0, .ref (ad k)), (1, .int a1), (3, .int v3)]) C.1.1 C.1.2.1 dX2_isJoined_25 rfl hl (by decide) rfl (fun ls hl => ?_)
          refine lv_aload_n C.1.1 C.1.2.1 dX2_isJoined_26 rfl (lv_at hl 1 rfl) ?_
          refine mr_getR C hw kc_2 0 (Ch_N0 hk0) (Ch_T0 hk0) (Ch_F0_0 hk0) wd_444 dX2_isJoined_27 (by decide) rfl ?_
          refine lv_iconst (v := 5) C.1.1 C.1.2.1 dX2_isJoined_30 (by decide) ?_
          refine mr_aald C hw (Ch_N1 hk0) (Ch_T1 hk0) (by decide) (by decide) rfl rfl (show vp_in 5 18 from by unfold vp_in; decide) (Ch_R1 hk0 _ (by decide : 5 < 18)).1 dX2_isJoined_31 ?_
          refine lv_aload_n C.1.1 C.1.2.1 dX2_isJoined_32 rfl (lv_at hl 1 rfl) ?_
          refine mr_getR C hw kc_2 1 (Ch_N0 hk0) (Ch_T0 hk0) (Ch_F0_1 hk0) wd_445 dX2_isJoined_33 (by decide) rfl ?_
          refine lv_iconst (v := 0) C.1.1 C.1.2.1 dX2_isJoined_36 (by decide) ?_
          refine mr_aald C hw (Ch_N20 hk0) (Ch_T20 hk0) (by decide) (by decide) rfl rfl (show vp_in 0 7 from by unfold vp_in; decide) (Ch_R20 hk0 _ (by decide : 0 < 7)).1 dX2_isJoined_37 ?_
          refine lv_iload_n C.1.1 C.1.2.1 dX2_isJoined_38 rfl (lv_at hl 3 rfl) ?_
          obtain ⟨q8, hD⟩ := g_ck hD
          refine mr_iald C hw (Ch_N21 hk0) (Ch_T21 hk0) q8 dX2_isJoined_39 ?_
          obtain ⟨q9, hD⟩ := g_ck hD
          refine mr_iald C hw (Ch_N7 hk0) (Ch_T7 hk0) q9 dX2_isJoined_40 ?_
          refine lv_if_ne (tgt := 46) C.1.1 C.1.2.1 dX2_isJoined_41 (by decide) (fun c10 => ?_) (fun c10 => ?_)
          · replace hD := g_neg c10 hD
            exact hb46 1 v3 M L _ _ ls hD hw (lv_sub hl [1, 2, 0, 3] rfl)
          · replace hD := g_pos c10 hD
            refine lv_iconst (v := 0) C.1.1 C.1.2.1 dX2_isJoined_44 (by decide) ?_
            exact mr_iret C hr hlocks hw (by decide +kernel) (Option.some.inj hD) dX2_isJoined_45
  unfold DX2_isJoined at hD
  refine lv_iconst (v := 0) C.1.1 C.1.2.1 dX2_isJoined_0 (by decide) ?_
  refine lv_istore_n (lv' := [(2, .int 0), (0, .ref (ad k)), (1, .int a1)]) C.1.1 C.1.2.1 dX2_isJoined_1 rfl hl (by decide) rfl (fun ls hl => ?_)
  refine lv_iconst (v := 1) C.1.1 C.1.2.1 dX2_isJoined_2 (by decide) ?_
  refine lv_istore_n (lv' := [(3, .int 1), (2, .int 0), (0, .ref (ad k)), (1, .int a1)]) C.1.1 C.1.2.1 dX2_isJoined_3 rfl hl (by decide) rfl (fun ls hl => ?_)
  exact hh4 fu 0 1 M L _ _ ls hD hw (lv_sub hl [2, 3, 1, 0] rfl)

theorem dX2_mayGo_0 : decode cX2_mayGo 0 = .ok (.aload_n 0, 1) := by decide +kernel
theorem dX2_mayGo_1 : decode cX2_mayGo 1 = .ok (.getfield 16, 3) := by decide +kernel
theorem dX2_mayGo_4 : decode cX2_mayGo 4 = .ok (.iconst 0, 1) := by decide +kernel
theorem dX2_mayGo_5 : decode cX2_mayGo 5 = .ok (.aaload, 1) := by decide +kernel
theorem dX2_mayGo_6 : decode cX2_mayGo 6 = .ok (.iload_n 1, 1) := by decide +kernel
theorem dX2_mayGo_7 : decode cX2_mayGo 7 = .ok (.iaload, 1) := by decide +kernel
theorem dX2_mayGo_8 : decode cX2_mayGo 8 = .ok (.istore_n 2, 1) := by decide +kernel
theorem dX2_mayGo_9 : decode cX2_mayGo 9 = .ok (.aload_n 0, 1) := by decide +kernel
theorem dX2_mayGo_10 : decode cX2_mayGo 10 = .ok (.getfield 13, 3) := by decide +kernel
theorem dX2_mayGo_13 : decode cX2_mayGo 13 = .ok (.iconst 1, 1) := by decide +kernel
theorem dX2_mayGo_14 : decode cX2_mayGo 14 = .ok (.aaload, 1) := by decide +kernel
theorem dX2_mayGo_15 : decode cX2_mayGo 15 = .ok (.aload_n 0, 1) := by decide +kernel
theorem dX2_mayGo_16 : decode cX2_mayGo 16 = .ok (.getfield 16, 3) := by decide +kernel
theorem dX2_mayGo_19 : decode cX2_mayGo 19 = .ok (.iconst 1, 1) := by decide +kernel
theorem dX2_mayGo_20 : decode cX2_mayGo 20 = .ok (.aaload, 1) := by decide +kernel
theorem dX2_mayGo_21 : decode cX2_mayGo 21 = .ok (.iload_n 1, 1) := by decide +kernel
theorem dX2_mayGo_22 : decode cX2_mayGo 22 = .ok (.iaload, 1) := by decide +kernel
theorem dX2_mayGo_23 : decode cX2_mayGo 23 = .ok (.iaload, 1) := by decide +kernel
theorem dX2_mayGo_24 : decode cX2_mayGo 24 = .ok (.iconst 5, 1) := by decide +kernel
theorem dX2_mayGo_25 : decode cX2_mayGo 25 = .ok (.if_icmp .eq 15, 3) := by decide +kernel
theorem dX2_mayGo_28 : decode cX2_mayGo 28 = .ok (.aload_n 0, 1) := by decide +kernel
theorem dX2_mayGo_29 : decode cX2_mayGo 29 = .ok (.getfield 13, 3) := by decide +kernel
theorem dX2_mayGo_32 : decode cX2_mayGo 32 = .ok (.iconst 1, 1) := by decide +kernel
theorem dX2_mayGo_33 : decode cX2_mayGo 33 = .ok (.aaload, 1) := by decide +kernel
theorem dX2_mayGo_34 : decode cX2_mayGo 34 = .ok (.iload_n 2, 1) := by decide +kernel
theorem dX2_mayGo_35 : decode cX2_mayGo 35 = .ok (.iaload, 1) := by decide +kernel
theorem dX2_mayGo_36 : decode cX2_mayGo 36 = .ok (.iconst 4, 1) := by decide +kernel
theorem dX2_mayGo_37 : decode cX2_mayGo 37 = .ok (.if_icmp .ne 5, 3) := by decide +kernel
theorem dX2_mayGo_40 : decode cX2_mayGo 40 = .ok (.iconst 0, 1) := by decide +kernel
theorem dX2_mayGo_41 : decode cX2_mayGo 41 = .ok (.ireturn, 1) := by decide +kernel
theorem dX2_mayGo_42 : decode cX2_mayGo 42 = .ok (.aload_n 0, 1) := by decide +kernel
theorem dX2_mayGo_43 : decode cX2_mayGo 43 = .ok (.getfield 13, 3) := by decide +kernel
theorem dX2_mayGo_46 : decode cX2_mayGo 46 = .ok (.iconst 1, 1) := by decide +kernel
theorem dX2_mayGo_47 : decode cX2_mayGo 47 = .ok (.aaload, 1) := by decide +kernel
theorem dX2_mayGo_48 : decode cX2_mayGo 48 = .ok (.iload_n 2, 1) := by decide +kernel
theorem dX2_mayGo_49 : decode cX2_mayGo 49 = .ok (.iaload, 1) := by decide +kernel
theorem dX2_mayGo_50 : decode cX2_mayGo 50 = .ok (.iconst 5, 1) := by decide +kernel
theorem dX2_mayGo_51 : decode cX2_mayGo 51 = .ok (.if_icmp .ne 11, 3) := by decide +kernel
theorem dX2_mayGo_54 : decode cX2_mayGo 54 = .ok (.aload_n 0, 1) := by decide +kernel
theorem dX2_mayGo_55 : decode cX2_mayGo 55 = .ok (.iload_n 2, 1) := by decide +kernel
theorem dX2_mayGo_56 : decode cX2_mayGo 56 = .ok (.invokevirtual 129, 3) := by decide +kernel
theorem dX2_mayGo_59 : decode cX2_mayGo 59 = .ok (.goto 20, 3) := by decide +kernel
theorem dX2_mayGo_62 : decode cX2_mayGo 62 = .ok (.aload_n 0, 1) := by decide +kernel
theorem dX2_mayGo_63 : decode cX2_mayGo 63 = .ok (.getfield 13, 3) := by decide +kernel
theorem dX2_mayGo_66 : decode cX2_mayGo 66 = .ok (.iconst 5, 1) := by decide +kernel
theorem dX2_mayGo_67 : decode cX2_mayGo 67 = .ok (.aaload, 1) := by decide +kernel
theorem dX2_mayGo_68 : decode cX2_mayGo 68 = .ok (.iload_n 2, 1) := by decide +kernel
theorem dX2_mayGo_69 : decode cX2_mayGo 69 = .ok (.iaload, 1) := by decide +kernel
theorem dX2_mayGo_70 : decode cX2_mayGo 70 = .ok (.iconst 1, 1) := by decide +kernel
theorem dX2_mayGo_71 : decode cX2_mayGo 71 = .ok (.if_icmp .ne 7, 3) := by decide +kernel
theorem dX2_mayGo_74 : decode cX2_mayGo 74 = .ok (.iconst 1, 1) := by decide +kernel
theorem dX2_mayGo_75 : decode cX2_mayGo 75 = .ok (.goto 4, 3) := by decide +kernel
theorem dX2_mayGo_78 : decode cX2_mayGo 78 = .ok (.iconst 0, 1) := by decide +kernel
theorem dX2_mayGo_79 : decode cX2_mayGo 79 = .ok (.ireturn, 1) := by decide +kernel
theorem cwX2_mayGo : mw_cwV yX2_mayGo cX2_mayGo 3 ((some .boolean)) 1 := ⟨⟨wd_12, wd_1686, by decide +kernel⟩, wd_1685, sl_124⟩
set_option maxHeartbeats 4000000 in
set_option maxRecDepth 100000 in
theorem tX2_mayGo (l : Launch) (G : mwG) (ad : Nat → Nat) (fu : Nat) (k : Nat) (a1 : Int32) (M : mwM) (L : mwL) {r0 : Int32} {M0 : mwM} {L0 : mwL} (hD : DX2_mayGo fu k a1 M L = some (r0, M0, L0)) (hk0 : isCh k) : Met l yX2_mayGo (Cond.code yX2_mayGo cX2_mayGo 3 ((some .boolean)) :: GT) ({ frames := 1, cells := 0, slots := 0, locals := 23 }) (mw_Pre G ad NF TF FF M L [.ref (ad k), .int a1]) (mw_Qi G ad NF TF FF (mw_eqI r0 M0 L0)) 0 0 (mw_fr G) := by
  refine mw_enter (by decide) (Nat.le_of_ble_eq_true rfl) ?_
  intro p e s m below meth c ls C hr hlocks hnm hw hl
  have hl : lv_has ls 3 [(0, .ref (ad k)), (1, .int a1)] := hl
  have hb40 : ∀ (M : mwM) (L : mwL) (H : Heap) (locs : List Loc) (ls : Array Slot), fX2_mayGo_b40 fu k a1 M L = some (r0, M0, L0) → mw_W G ad NF TF FF M L H locs → lv_has ls 3 [] → W p l e ({ frames := 1, cells := 0, slots := 0, locals := 23 }) s m [.ref (ad k), .int a1].toArray below meth c H locs 0 0 (MQ below (mw_Qi G ad NF TF FF (mw_eqI r0 M0 L0)) [.ref (ad k), .int a1].toArray s 0 0 (mw_fr G)) (F0 m 40 ls []) := by
    intro M L H locs ls hD hw hl
    unfold fX2_mayGo_b40 at hD
    refine lv_iconst (v := 0) C.1.1 C.1.2.1 dX2_mayGo_40 (by decide) ?_
    exact mr_iret C hr hlocks hw (by decide +kernel) (Option.some.inj hD) dX2_mayGo_41
  have hb79 : ∀ (s0 : Int32) (M : mwM) (L : mwL) (H : Heap) (locs : List Loc) (ls : Array Slot), fX2_mayGo_b79 fu k a1 s0 M L = some (r0, M0, L0) → mw_W G ad NF TF FF M L H locs → lv_has ls 3 [] → W p l e ({ frames := 1, cells := 0, slots := 0, locals := 23 }) s m [.ref (ad k), .int a1].toArray below meth c H locs 0 0 (MQ below (mw_Qi G ad NF TF FF (mw_eqI r0 M0 L0)) [.ref (ad k), .int a1].toArray s 0 0 (mw_fr G)) (F0 m 79 ls [.int s0]) := by
    intro s0 M L H locs ls hD hw hl
    unfold fX2_mayGo_b79 at hD
    obtain ⟨z1, hD⟩ := g_zz hD
    exact mr_iret C hr hlocks hw (nz_zz z1) (Option.some.inj hD) dX2_mayGo_79
  unfold DX2_mayGo at hD
  refine lv_aload_n C.1.1 C.1.2.1 dX2_mayGo_0 rfl (lv_at hl 0 rfl) ?_
  refine mr_getR C hw kc_2 1 (Ch_N0 hk0) (Ch_T0 hk0) (Ch_F0_1 hk0) wd_445 dX2_mayGo_1 (by decide) rfl ?_
  refine lv_iconst (v := 0) C.1.1 C.1.2.1 dX2_mayGo_4 (by decide) ?_
  refine mr_aald C hw (Ch_N20 hk0) (Ch_T20 hk0) (by decide) (by decide) rfl rfl (show vp_in 0 7 from by unfold vp_in; decide) (Ch_R20 hk0 _ (by decide : 0 < 7)).1 dX2_mayGo_5 ?_
  refine lv_iload_n C.1.1 C.1.2.1 dX2_mayGo_6 rfl (lv_at hl 1 rfl) ?_
  obtain ⟨q3, hD⟩ := g_ck hD
  refine mr_iald C hw (Ch_N21 hk0) (Ch_T21 hk0) q3 dX2_mayGo_7 ?_
  obtain ⟨x4, ex4, hD⟩ := g_let hD
  refine W.eq (g2 := F0 m 8 ls (.int x4 :: [])) (by rw [ex4]) ?_
  refine lv_istore_n (lv' := [(2, .int x4), (0, .ref (ad k)), (1, .int a1)]) C.1.1 C.1.2.1 dX2_mayGo_8 rfl hl (by decide) rfl (fun ls hl => ?_)
  refine lv_aload_n C.1.1 C.1.2.1 dX2_mayGo_9 rfl (lv_at hl 1 rfl) ?_
  refine mr_getR C hw kc_2 0 (Ch_N0 hk0) (Ch_T0 hk0) (Ch_F0_0 hk0) wd_444 dX2_mayGo_10 (by decide) rfl ?_
  refine lv_iconst (v := 1) C.1.1 C.1.2.1 dX2_mayGo_13 (by decide) ?_
  refine mr_aald C hw (Ch_N1 hk0) (Ch_T1 hk0) (by decide) (by decide) rfl rfl (show vp_in 1 18 from by unfold vp_in; decide) (Ch_R1 hk0 _ (by decide : 1 < 18)).1 dX2_mayGo_14 ?_
  refine lv_aload_n C.1.1 C.1.2.1 dX2_mayGo_15 rfl (lv_at hl 1 rfl) ?_
  refine mr_getR C hw kc_2 1 (Ch_N0 hk0) (Ch_T0 hk0) (Ch_F0_1 hk0) wd_445 dX2_mayGo_16 (by decide) rfl ?_
  refine lv_iconst (v := 1) C.1.1 C.1.2.1 dX2_mayGo_19 (by decide) ?_
  refine mr_aald C hw (Ch_N20 hk0) (Ch_T20 hk0) (by decide) (by decide) rfl rfl (show vp_in 1 7 from by unfold vp_in; decide) (Ch_R20 hk0 _ (by decide : 1 < 7)).1 dX2_mayGo_20 ?_
  refine lv_iload_n C.1.1 C.1.2.1 dX2_mayGo_21 rfl (lv_at hl 2 rfl) ?_
  obtain ⟨q7, hD⟩ := g_ck hD
  refine mr_iald C hw (Ch_N22 hk0) (Ch_T22 hk0) q7 dX2_mayGo_22 ?_
  obtain ⟨q8, hD⟩ := g_ck hD
  refine mr_iald C hw (Ch_N3 hk0) (Ch_T3 hk0) q8 dX2_mayGo_23 ?_
  refine lv_iconst (v := 5) C.1.1 C.1.2.1 dX2_mayGo_24 (by decide) ?_
  refine lv_icmp_eq (tgt := 40) C.1.1 C.1.2.1 dX2_mayGo_25 (by decide) (fun c9 => ?_) (fun c9 => ?_)
  · replace hD := g_pos c9 hD
    exact hb40 M L _ _ ls hD hw (lv_sub hl [] rfl)
  · replace hD := g_neg c9 hD
    refine lv_aload_n C.1.1 C.1.2.1 dX2_mayGo_28 rfl (lv_at hl 1 rfl) ?_
    refine mr_getR C hw kc_2 0 (Ch_N0 hk0) (Ch_T0 hk0) (Ch_F0_0 hk0) wd_444 dX2_mayGo_29 (by decide) rfl ?_
    refine lv_iconst (v := 1) C.1.1 C.1.2.1 dX2_mayGo_32 (by decide) ?_
    refine mr_aald C hw (Ch_N1 hk0) (Ch_T1 hk0) (by decide) (by decide) rfl rfl (show vp_in 1 18 from by unfold vp_in; decide) (Ch_R1 hk0 _ (by decide : 1 < 18)).1 dX2_mayGo_33 ?_
    refine lv_iload_n C.1.1 C.1.2.1 dX2_mayGo_34 rfl (lv_at hl 0 rfl) ?_
    obtain ⟨q11, hD⟩ := g_ck hD
    refine mr_iald C hw (Ch_N3 hk0) (Ch_T3 hk0) q11 dX2_mayGo_35 ?_
    refine lv_iconst (v := 4) C.1.1 C.1.2.1 dX2_mayGo_36 (by decide) ?_
    refine lv_icmp_ne (tgt := 42) C.1.1 C.1.2.1 dX2_mayGo_37 (by decide) (fun c12 => ?_) (fun c12 => ?_)
    · replace hD := g_neg c12 hD
      refine lv_aload_n C.1.1 C.1.2.1 dX2_mayGo_42 rfl (lv_at hl 1 rfl) ?_
      refine mr_getR C hw kc_2 0 (Ch_N0 hk0) (Ch_T0 hk0) (Ch_F0_0 hk0) wd_444 dX2_mayGo_43 (by decide) rfl ?_
      refine lv_iconst (v := 1) C.1.1 C.1.2.1 dX2_mayGo_46 (by decide) ?_
      refine mr_aald C hw (Ch_N1 hk0) (Ch_T1 hk0) (by decide) (by decide) rfl rfl (show vp_in 1 18 from by unfold vp_in; decide) (Ch_R1 hk0 _ (by decide : 1 < 18)).1 dX2_mayGo_47 ?_
      refine lv_iload_n C.1.1 C.1.2.1 dX2_mayGo_48 rfl (lv_at hl 0 rfl) ?_
      obtain ⟨q14, hD⟩ := g_ck hD
      refine mr_iald C hw (Ch_N3 hk0) (Ch_T3 hk0) q14 dX2_mayGo_49 ?_
      refine lv_iconst (v := 5) C.1.1 C.1.2.1 dX2_mayGo_50 (by decide) ?_
      refine lv_icmp_ne (tgt := 62) C.1.1 C.1.2.1 dX2_mayGo_51 (by decide) (fun c15 => ?_) (fun c15 => ?_)
      · replace hD := g_neg c15 hD
        refine lv_aload_n C.1.1 C.1.2.1 dX2_mayGo_62 rfl (lv_at hl 1 rfl) ?_
        refine mr_getR C hw kc_2 0 (Ch_N0 hk0) (Ch_T0 hk0) (Ch_F0_0 hk0) wd_444 dX2_mayGo_63 (by decide) rfl ?_
        refine lv_iconst (v := 5) C.1.1 C.1.2.1 dX2_mayGo_66 (by decide) ?_
        refine mr_aald C hw (Ch_N1 hk0) (Ch_T1 hk0) (by decide) (by decide) rfl rfl (show vp_in 5 18 from by unfold vp_in; decide) (Ch_R1 hk0 _ (by decide : 5 < 18)).1 dX2_mayGo_67 ?_
        refine lv_iload_n C.1.1 C.1.2.1 dX2_mayGo_68 rfl (lv_at hl 0 rfl) ?_
        obtain ⟨q17, hD⟩ := g_ck hD
        refine mr_iald C hw (Ch_N7 hk0) (Ch_T7 hk0) q17 dX2_mayGo_69 ?_
        refine lv_iconst (v := 1) C.1.1 C.1.2.1 dX2_mayGo_70 (by decide) ?_
        refine lv_icmp_ne (tgt := 78) C.1.1 C.1.2.1 dX2_mayGo_71 (by decide) (fun c18 => ?_) (fun c18 => ?_)
        · replace hD := g_neg c18 hD
          refine lv_iconst (v := 0) C.1.1 C.1.2.1 dX2_mayGo_78 (by decide) ?_
          exact hb79 0 M L _ _ ls hD hw (lv_sub hl [] rfl)
        · replace hD := g_pos c18 hD
          refine lv_iconst (v := 1) C.1.1 C.1.2.1 dX2_mayGo_74 (by decide) ?_
          refine lv_goto (tgt := 79) C.1.1 C.1.2.1 dX2_mayGo_75 (by decide) ?_
          exact hb79 1 M L _ _ ls hD hw (lv_sub hl [] rfl)
      · replace hD := g_pos c15 hD
        refine lv_aload_n C.1.1 C.1.2.1 dX2_mayGo_54 rfl (lv_at hl 1 rfl) ?_
        refine lv_iload_n C.1.1 C.1.2.1 dX2_mayGo_55 rfl (lv_at hl 0 rfl) ?_
        obtain ⟨r21, M19, L20, h1, hD⟩ := g_b3 hD
        refine md_cvI (As := [.int x4]) (rest := []) C hw (tX2_isJoined l G ad fu k x4 M L h1 hk0) kc_2 (Ch_N0 hk0) (Ch_T0 hk0) wd_1687 cwX2_isJoined ⟨Nat.le_of_ble_eq_true rfl, Nat.le_of_ble_eq_true rfl⟩ rfl hl.1 (Nat.le_of_ble_eq_true rfl) dX2_mayGo_56 rfl rfl ⟨Nat.zero_le _, Nat.zero_le _⟩ rfl (fun H locs hw => ?_)
        refine lv_goto (tgt := 79) C.1.1 C.1.2.1 dX2_mayGo_59 (by decide) ?_
        exact hb79 r21 M19 L20 _ _ ls hD hw (lv_sub hl [] rfl)
    · replace hD := g_pos c12 hD
      exact hb40 M L _ _ ls hD hw (lv_sub hl [] rfl)

theorem dX2_compare_0 : decode cX2_compare 0 = .ok (.iload_n 1, 1) := by decide +kernel
theorem dX2_compare_1 : decode cX2_compare 1 = .ok (.iconst 5, 1) := by decide +kernel
theorem dX2_compare_2 : decode cX2_compare 2 = .ok (.if_icmp .lt 22, 3) := by decide +kernel
theorem dX2_compare_5 : decode cX2_compare 5 = .ok (.lload 4, 2) := by decide +kernel
theorem dX2_compare_7 : decode cX2_compare 7 = .ok (.lconst 0, 1) := by decide +kernel
theorem dX2_compare_8 : decode cX2_compare 8 = .ok (.lcmp, 1) := by decide +kernel
theorem dX2_compare_9 : decode cX2_compare 9 = .ok (.ifCond .ne 15, 3) := by decide +kernel
theorem dX2_compare_12 : decode cX2_compare 12 = .ok (.aload_n 0, 1) := by decide +kernel
theorem dX2_compare_13 : decode cX2_compare 13 = .ok (.dup, 1) := by decide +kernel
theorem dX2_compare_14 : decode cX2_compare 14 = .ok (.getfield 61, 3) := by decide +kernel
theorem dX2_compare_17 : decode cX2_compare 17 = .ok (.iconst 1, 1) := by decide +kernel
theorem dX2_compare_18 : decode cX2_compare 18 = .ok (.iadd, 1) := by decide +kernel
theorem dX2_compare_19 : decode cX2_compare 19 = .ok (.putfield 61, 3) := by decide +kernel
theorem dX2_compare_22 : decode cX2_compare 22 = .ok (.iconst 0, 1) := by decide +kernel
theorem dX2_compare_23 : decode cX2_compare 23 = .ok (.ireturn, 1) := by decide +kernel
theorem dX2_compare_24 : decode cX2_compare 24 = .ok (.iload_n 1, 1) := by decide +kernel
theorem dX2_compare_25 : decode cX2_compare 25 = .ok (.tableswitch 102 1 5 #[35, 48, 61, 74, 87], 35) := by decide +kernel
theorem dX2_compare_60 : decode cX2_compare 60 = .ok (.lload_n 2, 1) := by decide +kernel
theorem dX2_compare_61 : decode cX2_compare 61 = .ok (.lload 4, 2) := by decide +kernel
theorem dX2_compare_63 : decode cX2_compare 63 = .ok (.lcmp, 1) := by decide +kernel
theorem dX2_compare_64 : decode cX2_compare 64 = .ok (.ifCond .ne 7, 3) := by decide +kernel
theorem dX2_compare_67 : decode cX2_compare 67 = .ok (.iconst 1, 1) := by decide +kernel
theorem dX2_compare_68 : decode cX2_compare 68 = .ok (.goto 4, 3) := by decide +kernel
theorem dX2_compare_71 : decode cX2_compare 71 = .ok (.iconst 0, 1) := by decide +kernel
theorem dX2_compare_72 : decode cX2_compare 72 = .ok (.ireturn, 1) := by decide +kernel
theorem dX2_compare_73 : decode cX2_compare 73 = .ok (.lload_n 2, 1) := by decide +kernel
theorem dX2_compare_74 : decode cX2_compare 74 = .ok (.lload 4, 2) := by decide +kernel
theorem dX2_compare_76 : decode cX2_compare 76 = .ok (.lcmp, 1) := by decide +kernel
theorem dX2_compare_77 : decode cX2_compare 77 = .ok (.ifCond .eq 7, 3) := by decide +kernel
theorem dX2_compare_80 : decode cX2_compare 80 = .ok (.iconst 1, 1) := by decide +kernel
theorem dX2_compare_81 : decode cX2_compare 81 = .ok (.goto 4, 3) := by decide +kernel
theorem dX2_compare_84 : decode cX2_compare 84 = .ok (.iconst 0, 1) := by decide +kernel
theorem dX2_compare_85 : decode cX2_compare 85 = .ok (.ireturn, 1) := by decide +kernel
theorem dX2_compare_86 : decode cX2_compare 86 = .ok (.lload_n 2, 1) := by decide +kernel
theorem dX2_compare_87 : decode cX2_compare 87 = .ok (.lload 4, 2) := by decide +kernel
theorem dX2_compare_89 : decode cX2_compare 89 = .ok (.lcmp, 1) := by decide +kernel
theorem dX2_compare_90 : decode cX2_compare 90 = .ok (.ifCond .ge 7, 3) := by decide +kernel
theorem dX2_compare_93 : decode cX2_compare 93 = .ok (.iconst 1, 1) := by decide +kernel
theorem dX2_compare_94 : decode cX2_compare 94 = .ok (.goto 4, 3) := by decide +kernel
theorem dX2_compare_97 : decode cX2_compare 97 = .ok (.iconst 0, 1) := by decide +kernel
theorem dX2_compare_98 : decode cX2_compare 98 = .ok (.ireturn, 1) := by decide +kernel
theorem dX2_compare_99 : decode cX2_compare 99 = .ok (.lload_n 2, 1) := by decide +kernel
theorem dX2_compare_100 : decode cX2_compare 100 = .ok (.lload 4, 2) := by decide +kernel
theorem dX2_compare_102 : decode cX2_compare 102 = .ok (.lcmp, 1) := by decide +kernel
theorem dX2_compare_103 : decode cX2_compare 103 = .ok (.ifCond .lt 7, 3) := by decide +kernel
theorem dX2_compare_106 : decode cX2_compare 106 = .ok (.iconst 1, 1) := by decide +kernel
theorem dX2_compare_107 : decode cX2_compare 107 = .ok (.goto 4, 3) := by decide +kernel
theorem dX2_compare_110 : decode cX2_compare 110 = .ok (.iconst 0, 1) := by decide +kernel
theorem dX2_compare_111 : decode cX2_compare 111 = .ok (.ireturn, 1) := by decide +kernel
theorem dX2_compare_112 : decode cX2_compare 112 = .ok (.lload_n 2, 1) := by decide +kernel
theorem dX2_compare_113 : decode cX2_compare 113 = .ok (.lload 4, 2) := by decide +kernel
theorem dX2_compare_115 : decode cX2_compare 115 = .ok (.ldiv, 1) := by decide +kernel
theorem dX2_compare_116 : decode cX2_compare 116 = .ok (.lconst 0, 1) := by decide +kernel
theorem dX2_compare_117 : decode cX2_compare 117 = .ok (.lcmp, 1) := by decide +kernel
theorem dX2_compare_118 : decode cX2_compare 118 = .ok (.ifCond .eq 7, 3) := by decide +kernel
theorem dX2_compare_121 : decode cX2_compare 121 = .ok (.iconst 1, 1) := by decide +kernel
theorem dX2_compare_122 : decode cX2_compare 122 = .ok (.goto 4, 3) := by decide +kernel
theorem dX2_compare_125 : decode cX2_compare 125 = .ok (.iconst 0, 1) := by decide +kernel
theorem dX2_compare_126 : decode cX2_compare 126 = .ok (.ireturn, 1) := by decide +kernel
theorem dX2_compare_127 : decode cX2_compare 127 = .ok (.lload_n 2, 1) := by decide +kernel
theorem dX2_compare_128 : decode cX2_compare 128 = .ok (.lload 4, 2) := by decide +kernel
theorem dX2_compare_130 : decode cX2_compare 130 = .ok (.lrem, 1) := by decide +kernel
theorem dX2_compare_131 : decode cX2_compare 131 = .ok (.lconst 0, 1) := by decide +kernel
theorem dX2_compare_132 : decode cX2_compare 132 = .ok (.lcmp, 1) := by decide +kernel
theorem dX2_compare_133 : decode cX2_compare 133 = .ok (.ifCond .ne 7, 3) := by decide +kernel
theorem dX2_compare_136 : decode cX2_compare 136 = .ok (.iconst 1, 1) := by decide +kernel
theorem dX2_compare_137 : decode cX2_compare 137 = .ok (.goto 4, 3) := by decide +kernel
theorem dX2_compare_140 : decode cX2_compare 140 = .ok (.iconst 0, 1) := by decide +kernel
theorem dX2_compare_141 : decode cX2_compare 141 = .ok (.ireturn, 1) := by decide +kernel
theorem cwX2_compare : mw_cwV yX2_compare cX2_compare 6 ((some .boolean)) 3 := ⟨⟨wd_12, wd_1698, by decide +kernel⟩, wd_1697, sl_127⟩
set_option maxHeartbeats 4000000 in
set_option maxRecDepth 100000 in
theorem tX2_compare (l : Launch) (G : mwG) (ad : Nat → Nat) (fu : Nat) (k : Nat) (a1 : Int32) (a2 : Int64) (a3 : Int64) (M : mwM) (L : mwL) {r0 : Int32} {M0 : mwM} {L0 : mwL} (hD : DX2_compare fu k a1 a2 a3 M L = some (r0, M0, L0)) (hk0 : isCh k) : Met l yX2_compare (Cond.code yX2_compare cX2_compare 6 ((some .boolean)) :: GT) ({ frames := 0, cells := 0, slots := 0, locals := 0 }) (mw_Pre G ad NF TF FF M L [.ref (ad k), .int a1, .long a2, .long a3]) (mw_Qi G ad NF TF FF (mw_eqI r0 M0 L0)) 0 0 (mw_fr G) := by
  refine mw_enter (by decide) (Nat.le_of_ble_eq_true rfl) ?_
  intro p e s m below meth c ls C hr hlocks hnm hw hl
  have hl : lv_has ls 6 [(0, .ref (ad k)), (1, .int a1), (2, .long a2), (4, .long a3)] := hl
  have hb72 : ∀ (s0 : Int32) (M : mwM) (L : mwL) (H : Heap) (locs : List Loc) (ls : Array Slot), fX2_compare_b72 fu k a1 a2 a3 s0 M L = some (r0, M0, L0) → mw_W G ad NF TF FF M L H locs → lv_has ls 6 [] → W p l e ({ frames := 0, cells := 0, slots := 0, locals := 0 }) s m [.ref (ad k), .int a1, .long a2, .long a3].toArray below meth c H locs 0 0 (MQ below (mw_Qi G ad NF TF FF (mw_eqI r0 M0 L0)) [.ref (ad k), .int a1, .long a2, .long a3].toArray s 0 0 (mw_fr G)) (F0 m 72 ls [.int s0]) := by
    intro s0 M L H locs ls hD hw hl
    unfold fX2_compare_b72 at hD
    obtain ⟨z15, hD⟩ := g_zz hD
    exact mr_iret C hr hlocks hw (nz_zz z15) (Option.some.inj hD) dX2_compare_72
  have hb85 : ∀ (s0 : Int32) (M : mwM) (L : mwL) (H : Heap) (locs : List Loc) (ls : Array Slot), fX2_compare_b85 fu k a1 a2 a3 s0 M L = some (r0, M0, L0) → mw_W G ad NF TF FF M L H locs → lv_has ls 6 [] → W p l e ({ frames := 0, cells := 0, slots := 0, locals := 0 }) s m [.ref (ad k), .int a1, .long a2, .long a3].toArray below meth c H locs 0 0 (MQ below (mw_Qi G ad NF TF FF (mw_eqI r0 M0 L0)) [.ref (ad k), .int a1, .long a2, .long a3].toArray s 0 0 (mw_fr G)) (F0 m 85 ls [.int s0]) := by
    intro s0 M L H locs ls hD hw hl
    unfold fX2_compare_b85 at hD
    obtain ⟨z16, hD⟩ := g_zz hD
    exact mr_iret C hr hlocks hw (nz_zz z16) (Option.some.inj hD) dX2_compare_85
  have hb98 : ∀ (s0 : Int32) (M : mwM) (L : mwL) (H : Heap) (locs : List Loc) (ls : Array Slot), fX2_compare_b98 fu k a1 a2 a3 s0 M L = some (r0, M0, L0) → mw_W G ad NF TF FF M L H locs → lv_has ls 6 [] → W p l e ({ frames := 0, cells := 0, slots := 0, locals := 0 }) s m [.ref (ad k), .int a1, .long a2, .long a3].toArray below meth c H locs 0 0 (MQ below (mw_Qi G ad NF TF FF (mw_eqI r0 M0 L0)) [.ref (ad k), .int a1, .long a2, .long a3].toArray s 0 0 (mw_fr G)) (F0 m 98 ls [.int s0]) := by
    intro s0 M L H locs ls hD hw hl
    unfold fX2_compare_b98 at hD
    obtain ⟨z17, hD⟩ := g_zz hD
    exact mr_iret C hr hlocks hw (nz_zz z17) (Option.some.inj hD) dX2_compare_98
  have hb111 : ∀ (s0 : Int32) (M : mwM) (L : mwL) (H : Heap) (locs : List Loc) (ls : Array Slot), fX2_compare_b111 fu k a1 a2 a3 s0 M L = some (r0, M0, L0) → mw_W G ad NF TF FF M L H locs → lv_has ls 6 [] → W p l e ({ frames := 0, cells := 0, slots := 0, locals := 0 }) s m [.ref (ad k), .int a1, .long a2, .long a3].toArray below meth c H locs 0 0 (MQ below (mw_Qi G ad NF TF FF (mw_eqI r0 M0 L0)) [.ref (ad k), .int a1, .long a2, .long a3].toArray s 0 0 (mw_fr G)) (F0 m 111 ls [.int s0]) := by
    intro s0 M L H locs ls hD hw hl
    unfold fX2_compare_b111 at hD
    obtain ⟨z18, hD⟩ := g_zz hD
    exact mr_iret C hr hlocks hw (nz_zz z18) (Option.some.inj hD) dX2_compare_111
  have hb126 : ∀ (s0 : Int32) (M : mwM) (L : mwL) (H : Heap) (locs : List Loc) (ls : Array Slot), fX2_compare_b126 fu k a1 a2 a3 s0 M L = some (r0, M0, L0) → mw_W G ad NF TF FF M L H locs → lv_has ls 6 [] → W p l e ({ frames := 0, cells := 0, slots := 0, locals := 0 }) s m [.ref (ad k), .int a1, .long a2, .long a3].toArray below meth c H locs 0 0 (MQ below (mw_Qi G ad NF TF FF (mw_eqI r0 M0 L0)) [.ref (ad k), .int a1, .long a2, .long a3].toArray s 0 0 (mw_fr G)) (F0 m 126 ls [.int s0]) := by
    intro s0 M L H locs ls hD hw hl
    unfold fX2_compare_b126 at hD
    obtain ⟨z19, hD⟩ := g_zz hD
    exact mr_iret C hr hlocks hw (nz_zz z19) (Option.some.inj hD) dX2_compare_126
  have hb141 : ∀ (s0 : Int32) (M : mwM) (L : mwL) (H : Heap) (locs : List Loc) (ls : Array Slot), fX2_compare_b141 fu k a1 a2 a3 s0 M L = some (r0, M0, L0) → mw_W G ad NF TF FF M L H locs → lv_has ls 6 [] → W p l e ({ frames := 0, cells := 0, slots := 0, locals := 0 }) s m [.ref (ad k), .int a1, .long a2, .long a3].toArray below meth c H locs 0 0 (MQ below (mw_Qi G ad NF TF FF (mw_eqI r0 M0 L0)) [.ref (ad k), .int a1, .long a2, .long a3].toArray s 0 0 (mw_fr G)) (F0 m 141 ls [.int s0]) := by
    intro s0 M L H locs ls hD hw hl
    unfold fX2_compare_b141 at hD
    obtain ⟨z20, hD⟩ := g_zz hD
    exact mr_iret C hr hlocks hw (nz_zz z20) (Option.some.inj hD) dX2_compare_141
  have hb24 : ∀ (M : mwM) (L : mwL) (H : Heap) (locs : List Loc) (ls : Array Slot), fX2_compare_b24 fu k a1 a2 a3 M L = some (r0, M0, L0) → mw_W G ad NF TF FF M L H locs → lv_has ls 6 [(1, .int a1), (2, .long a2), (4, .long a3)] → W p l e ({ frames := 0, cells := 0, slots := 0, locals := 0 }) s m [.ref (ad k), .int a1, .long a2, .long a3].toArray below meth c H locs 0 0 (MQ below (mw_Qi G ad NF TF FF (mw_eqI r0 M0 L0)) [.ref (ad k), .int a1, .long a2, .long a3].toArray s 0 0 (mw_fr G)) (F0 m 24 ls []) := by
    intro M L H locs ls hD hw hl
    unfold fX2_compare_b24 at hD
    refine lv_iload_n C.1.1 C.1.2.1 dX2_compare_24 rfl (lv_at hl 0 rfl) ?_
    obtain ⟨x1, ex1, hD⟩ := g_let hD
    refine W.eq (g2 := F0 m 25 ls (.int x1 :: [])) (by rw [ex1]) ?_
    by_cases c2 : x1 = 1
    · replace hD := g_pos c2 hD
      refine lv_tableIn (tgt := 60) C.1.1 C.1.2.1 dX2_compare_25 (by rw [c2]; decide) (by rw [c2]; decide) (off := 35) (by rw [c2]; decide) (by decide) ?_
      refine lv_lload_n C.1.1 C.1.2.1 dX2_compare_60 rfl (lv_at hl 1 rfl) ?_
      refine lv_lload C.1.1 C.1.2.1 dX2_compare_61 (lv_at hl 2 rfl) ?_
      refine W.lcmp C.1.1 C.1.2.1 dX2_compare_63 ?_
      refine lv_if_ne (tgt := 71) C.1.1 C.1.2.1 dX2_compare_64 (by decide) (fun c3 => ?_) (fun c3 => ?_)
      · replace hD := g_neg c3 hD
        refine lv_iconst (v := 0) C.1.1 C.1.2.1 dX2_compare_71 (by decide) ?_
        exact hb72 0 M L _ _ ls hD hw (lv_sub hl [] rfl)
      · replace hD := g_pos c3 hD
        refine lv_iconst (v := 1) C.1.1 C.1.2.1 dX2_compare_67 (by decide) ?_
        refine lv_goto (tgt := 72) C.1.1 C.1.2.1 dX2_compare_68 (by decide) ?_
        exact hb72 1 M L _ _ ls hD hw (lv_sub hl [] rfl)
    replace hD := g_neg c2 hD
    by_cases c4 : x1 = 2
    · replace hD := g_pos c4 hD
      refine lv_tableIn (tgt := 73) C.1.1 C.1.2.1 dX2_compare_25 (by rw [c4]; decide) (by rw [c4]; decide) (off := 48) (by rw [c4]; decide) (by decide) ?_
      refine lv_lload_n C.1.1 C.1.2.1 dX2_compare_73 rfl (lv_at hl 1 rfl) ?_
      refine lv_lload C.1.1 C.1.2.1 dX2_compare_74 (lv_at hl 2 rfl) ?_
      refine W.lcmp C.1.1 C.1.2.1 dX2_compare_76 ?_
      refine lv_if_eq (tgt := 84) C.1.1 C.1.2.1 dX2_compare_77 (by decide) (fun c5 => ?_) (fun c5 => ?_)
      · replace hD := g_pos c5 hD
        refine lv_iconst (v := 0) C.1.1 C.1.2.1 dX2_compare_84 (by decide) ?_
        exact hb85 0 M L _ _ ls hD hw (lv_sub hl [] rfl)
      · replace hD := g_neg c5 hD
        refine lv_iconst (v := 1) C.1.1 C.1.2.1 dX2_compare_80 (by decide) ?_
        refine lv_goto (tgt := 85) C.1.1 C.1.2.1 dX2_compare_81 (by decide) ?_
        exact hb85 1 M L _ _ ls hD hw (lv_sub hl [] rfl)
    replace hD := g_neg c4 hD
    by_cases c6 : x1 = 3
    · replace hD := g_pos c6 hD
      refine lv_tableIn (tgt := 86) C.1.1 C.1.2.1 dX2_compare_25 (by rw [c6]; decide) (by rw [c6]; decide) (off := 61) (by rw [c6]; decide) (by decide) ?_
      refine lv_lload_n C.1.1 C.1.2.1 dX2_compare_86 rfl (lv_at hl 1 rfl) ?_
      refine lv_lload C.1.1 C.1.2.1 dX2_compare_87 (lv_at hl 2 rfl) ?_
      refine W.lcmp C.1.1 C.1.2.1 dX2_compare_89 ?_
      refine lv_if_ge (tgt := 97) C.1.1 C.1.2.1 dX2_compare_90 (by decide) (fun c7 => ?_) (fun c7 => ?_)
      · replace hD := g_pos c7 hD
        refine lv_iconst (v := 0) C.1.1 C.1.2.1 dX2_compare_97 (by decide) ?_
        exact hb98 0 M L _ _ ls hD hw (lv_sub hl [] rfl)
      · replace hD := g_neg c7 hD
        refine lv_iconst (v := 1) C.1.1 C.1.2.1 dX2_compare_93 (by decide) ?_
        refine lv_goto (tgt := 98) C.1.1 C.1.2.1 dX2_compare_94 (by decide) ?_
        exact hb98 1 M L _ _ ls hD hw (lv_sub hl [] rfl)
    replace hD := g_neg c6 hD
    by_cases c8 : x1 = 4
    · replace hD := g_pos c8 hD
      refine lv_tableIn (tgt := 99) C.1.1 C.1.2.1 dX2_compare_25 (by rw [c8]; decide) (by rw [c8]; decide) (off := 74) (by rw [c8]; decide) (by decide) ?_
      refine lv_lload_n C.1.1 C.1.2.1 dX2_compare_99 rfl (lv_at hl 1 rfl) ?_
      refine lv_lload C.1.1 C.1.2.1 dX2_compare_100 (lv_at hl 2 rfl) ?_
      refine W.lcmp C.1.1 C.1.2.1 dX2_compare_102 ?_
      refine lv_if_lt (tgt := 110) C.1.1 C.1.2.1 dX2_compare_103 (by decide) (fun c9 => ?_) (fun c9 => ?_)
      · replace hD := g_pos c9 hD
        refine lv_iconst (v := 0) C.1.1 C.1.2.1 dX2_compare_110 (by decide) ?_
        exact hb111 0 M L _ _ ls hD hw (lv_sub hl [] rfl)
      · replace hD := g_neg c9 hD
        refine lv_iconst (v := 1) C.1.1 C.1.2.1 dX2_compare_106 (by decide) ?_
        refine lv_goto (tgt := 111) C.1.1 C.1.2.1 dX2_compare_107 (by decide) ?_
        exact hb111 1 M L _ _ ls hD hw (lv_sub hl [] rfl)
    replace hD := g_neg c8 hD
    by_cases c10 : x1 = 5
    · replace hD := g_pos c10 hD
      refine lv_tableIn (tgt := 112) C.1.1 C.1.2.1 dX2_compare_25 (by rw [c10]; decide) (by rw [c10]; decide) (off := 87) (by rw [c10]; decide) (by decide) ?_
      refine lv_lload_n C.1.1 C.1.2.1 dX2_compare_112 rfl (lv_at hl 1 rfl) ?_
      refine lv_lload C.1.1 C.1.2.1 dX2_compare_113 (lv_at hl 2 rfl) ?_
      obtain ⟨q11, hD⟩ := g_nzL hD
      refine lv_ldiv C.1.1 C.1.2.1 dX2_compare_115 q11 ?_
      refine lv_lconst (v := 0) C.1.1 C.1.2.1 dX2_compare_116 (by decide) ?_
      refine W.lcmp C.1.1 C.1.2.1 dX2_compare_117 ?_
      refine lv_if_eq (tgt := 125) C.1.1 C.1.2.1 dX2_compare_118 (by decide) (fun c12 => ?_) (fun c12 => ?_)
      · replace hD := g_pos c12 hD
        refine lv_iconst (v := 0) C.1.1 C.1.2.1 dX2_compare_125 (by decide) ?_
        exact hb126 0 M L _ _ ls hD hw (lv_sub hl [] rfl)
      · replace hD := g_neg c12 hD
        refine lv_iconst (v := 1) C.1.1 C.1.2.1 dX2_compare_121 (by decide) ?_
        refine lv_goto (tgt := 126) C.1.1 C.1.2.1 dX2_compare_122 (by decide) ?_
        exact hb126 1 M L _ _ ls hD hw (lv_sub hl [] rfl)
    replace hD := g_neg c10 hD
    have nc2 : ¬ x1.toInt = 1 := fun q => c2 (Int32.toInt_inj.mp (q.trans (by decide)))
    have nc4 : ¬ x1.toInt = 2 := fun q => c4 (Int32.toInt_inj.mp (q.trans (by decide)))
    have nc6 : ¬ x1.toInt = 3 := fun q => c6 (Int32.toInt_inj.mp (q.trans (by decide)))
    have nc8 : ¬ x1.toInt = 4 := fun q => c8 (Int32.toInt_inj.mp (q.trans (by decide)))
    have nc10 : ¬ x1.toInt = 5 := fun q => c10 (Int32.toInt_inj.mp (q.trans (by decide)))
    refine lv_tableOut (tgt := 127) C.1.1 C.1.2.1 dX2_compare_25 (by omega) (by decide) ?_
    refine lv_lload_n C.1.1 C.1.2.1 dX2_compare_127 rfl (lv_at hl 1 rfl) ?_
    refine lv_lload C.1.1 C.1.2.1 dX2_compare_128 (lv_at hl 2 rfl) ?_
    obtain ⟨q13, hD⟩ := g_nzL hD
    refine lv_lrem C.1.1 C.1.2.1 dX2_compare_130 q13 ?_
    refine lv_lconst (v := 0) C.1.1 C.1.2.1 dX2_compare_131 (by decide) ?_
    refine W.lcmp C.1.1 C.1.2.1 dX2_compare_132 ?_
    refine lv_if_ne (tgt := 140) C.1.1 C.1.2.1 dX2_compare_133 (by decide) (fun c14 => ?_) (fun c14 => ?_)
    · replace hD := g_neg c14 hD
      refine lv_iconst (v := 0) C.1.1 C.1.2.1 dX2_compare_140 (by decide) ?_
      exact hb141 0 M L _ _ ls hD hw (lv_sub hl [] rfl)
    · replace hD := g_pos c14 hD
      refine lv_iconst (v := 1) C.1.1 C.1.2.1 dX2_compare_136 (by decide) ?_
      refine lv_goto (tgt := 141) C.1.1 C.1.2.1 dX2_compare_137 (by decide) ?_
      exact hb141 1 M L _ _ ls hD hw (lv_sub hl [] rfl)
  unfold DX2_compare at hD
  refine lv_iload_n C.1.1 C.1.2.1 dX2_compare_0 rfl (lv_at hl 1 rfl) ?_
  refine lv_iconst (v := 5) C.1.1 C.1.2.1 dX2_compare_1 (by decide) ?_
  refine lv_icmp_lt (tgt := 24) C.1.1 C.1.2.1 dX2_compare_2 (by decide) (fun c21 => ?_) (fun c21 => ?_)
  · replace hD := g_pos c21 hD
    exact hb24 M L _ _ ls hD hw (lv_sub hl [1, 2, 3] rfl)
  · replace hD := g_neg c21 hD
    refine lv_lload C.1.1 C.1.2.1 dX2_compare_5 (lv_at hl 3 rfl) ?_
    refine lv_lconst (v := 0) C.1.1 C.1.2.1 dX2_compare_7 (by decide) ?_
    refine W.lcmp C.1.1 C.1.2.1 dX2_compare_8 ?_
    refine lv_if_ne (tgt := 24) C.1.1 C.1.2.1 dX2_compare_9 (by decide) (fun c22 => ?_) (fun c22 => ?_)
    · replace hD := g_neg c22 hD
      exact hb24 M L _ _ ls hD hw (lv_sub hl [1, 2, 3] rfl)
    · replace hD := g_pos c22 hD
      refine lv_aload_n C.1.1 C.1.2.1 dX2_compare_12 rfl (lv_at hl 0 rfl) ?_
      refine lv_dup C.1.1 C.1.2.1 dX2_compare_13 rfl ?_
      refine mr_getI C hw kc_2 15 (Ch_N0 hk0) (Ch_T0 hk0) wd_471 dX2_compare_14 (by decide) rfl ?_
      refine lv_iconst (v := 1) C.1.1 C.1.2.1 dX2_compare_17 (by decide) ?_
      refine lv_iadd C.1.1 C.1.2.1 dX2_compare_18 ?_
      obtain ⟨M23, eM23, hD⟩ := g_let hD
      refine mr_putI C hw kc_2 15 (Ch_N0 hk0) (Ch_T0 hk0) wd_471 dX2_compare_19 (by decide) rfl rfl rfl rfl (fun H locs hw => ?_)
      replace hw : mw_W G ad NF TF FF M23 L H locs := by rw [eM23]; exact hw
      refine lv_iconst (v := 0) C.1.1 C.1.2.1 dX2_compare_22 (by decide) ?_
      exact mr_iret C hr hlocks hw (by decide +kernel) (Option.some.inj hD) dX2_compare_23

theorem dX2_holds_0 : decode cX2_holds 0 = .ok (.aload_n 0, 1) := by decide +kernel
theorem dX2_holds_1 : decode cX2_holds 1 = .ok (.getfield 16, 3) := by decide +kernel
theorem dX2_holds_4 : decode cX2_holds 4 = .ok (.iconst 3, 1) := by decide +kernel
theorem dX2_holds_5 : decode cX2_holds 5 = .ok (.aaload, 1) := by decide +kernel
theorem dX2_holds_6 : decode cX2_holds 6 = .ok (.iload_n 1, 1) := by decide +kernel
theorem dX2_holds_7 : decode cX2_holds 7 = .ok (.iaload, 1) := by decide +kernel
theorem dX2_holds_8 : decode cX2_holds 8 = .ok (.istore_n 2, 1) := by decide +kernel
theorem dX2_holds_9 : decode cX2_holds 9 = .ok (.iload_n 2, 1) := by decide +kernel
theorem dX2_holds_10 : decode cX2_holds 10 = .ok (.ifCond .ne 5, 3) := by decide +kernel
theorem dX2_holds_13 : decode cX2_holds 13 = .ok (.iconst 1, 1) := by decide +kernel
theorem dX2_holds_14 : decode cX2_holds 14 = .ok (.ireturn, 1) := by decide +kernel
theorem dX2_holds_15 : decode cX2_holds 15 = .ok (.iload_n 2, 1) := by decide +kernel
theorem dX2_holds_16 : decode cX2_holds 16 = .ok (.sipush 256, 3) := by decide +kernel
theorem dX2_holds_19 : decode cX2_holds 19 = .ok (.idiv, 1) := by decide +kernel
theorem dX2_holds_20 : decode cX2_holds 20 = .ok (.bipush 32, 2) := by decide +kernel
theorem dX2_holds_22 : decode cX2_holds 22 = .ok (.irem, 1) := by decide +kernel
theorem dX2_holds_23 : decode cX2_holds 23 = .ok (.istore_n 3, 1) := by decide +kernel
theorem dX2_holds_24 : decode cX2_holds 24 = .ok (.aload_n 0, 1) := by decide +kernel
theorem dX2_holds_25 : decode cX2_holds 25 = .ok (.iload_n 2, 1) := by decide +kernel
theorem dX2_holds_26 : decode cX2_holds 26 = .ok (.bipush 8, 2) := by decide +kernel
theorem dX2_holds_28 : decode cX2_holds 28 = .ok (.irem, 1) := by decide +kernel
theorem dX2_holds_29 : decode cX2_holds 29 = .ok (.aload_n 0, 1) := by decide +kernel
theorem dX2_holds_30 : decode cX2_holds 30 = .ok (.getfield 22, 3) := by decide +kernel
theorem dX2_holds_33 : decode cX2_holds 33 = .ok (.iload_n 2, 1) := by decide +kernel
theorem dX2_holds_34 : decode cX2_holds 34 = .ok (.bipush 8, 2) := by decide +kernel
theorem dX2_holds_36 : decode cX2_holds 36 = .ok (.idiv, 1) := by decide +kernel
theorem dX2_holds_37 : decode cX2_holds 37 = .ok (.bipush 32, 2) := by decide +kernel
theorem dX2_holds_39 : decode cX2_holds 39 = .ok (.irem, 1) := by decide +kernel
theorem dX2_holds_40 : decode cX2_holds 40 = .ok (.laload, 1) := by decide +kernel
theorem dX2_holds_41 : decode cX2_holds 41 = .ok (.iload_n 2, 1) := by decide +kernel
theorem dX2_holds_42 : decode cX2_holds 42 = .ok (.sipush 8192, 3) := by decide +kernel
theorem dX2_holds_45 : decode cX2_holds 45 = .ok (.if_icmp .lt 8, 3) := by decide +kernel
theorem dX2_holds_48 : decode cX2_holds 48 = .ok (.iload_n 3, 1) := by decide +kernel
theorem dX2_holds_49 : decode cX2_holds 49 = .ok (.i2l, 1) := by decide +kernel
theorem dX2_holds_50 : decode cX2_holds 50 = .ok (.goto 9, 3) := by decide +kernel
theorem dX2_holds_53 : decode cX2_holds 53 = .ok (.aload_n 0, 1) := by decide +kernel
theorem dX2_holds_54 : decode cX2_holds 54 = .ok (.getfield 22, 3) := by decide +kernel
theorem dX2_holds_57 : decode cX2_holds 57 = .ok (.iload_n 3, 1) := by decide +kernel
theorem dX2_holds_58 : decode cX2_holds 58 = .ok (.laload, 1) := by decide +kernel
theorem dX2_holds_59 : decode cX2_holds 59 = .ok (.invokevirtual 132, 3) := by decide +kernel
theorem dX2_holds_62 : decode cX2_holds 62 = .ok (.istore 4, 2) := by decide +kernel
theorem dX2_holds_64 : decode cX2_holds 64 = .ok (.aload_n 0, 1) := by decide +kernel
theorem dX2_holds_65 : decode cX2_holds 65 = .ok (.getfield 16, 3) := by decide +kernel
theorem dX2_holds_68 : decode cX2_holds 68 = .ok (.iconst 5, 1) := by decide +kernel
theorem dX2_holds_69 : decode cX2_holds 69 = .ok (.aaload, 1) := by decide +kernel
theorem dX2_holds_70 : decode cX2_holds 70 = .ok (.iload_n 1, 1) := by decide +kernel
theorem dX2_holds_71 : decode cX2_holds 71 = .ok (.dup2, 1) := by decide +kernel
theorem dX2_holds_72 : decode cX2_holds 72 = .ok (.iaload, 1) := by decide +kernel
theorem dX2_holds_73 : decode cX2_holds 73 = .ok (.iload 4, 2) := by decide +kernel
theorem dX2_holds_75 : decode cX2_holds 75 = .ok (.ifCond .eq 7, 3) := by decide +kernel
theorem dX2_holds_78 : decode cX2_holds 78 = .ok (.iconst 2, 1) := by decide +kernel
theorem dX2_holds_79 : decode cX2_holds 79 = .ok (.goto 4, 3) := by decide +kernel
theorem dX2_holds_82 : decode cX2_holds 82 = .ok (.iconst 4, 1) := by decide +kernel
theorem dX2_holds_83 : decode cX2_holds 83 = .ok (.ior, 1) := by decide +kernel
theorem dX2_holds_84 : decode cX2_holds 84 = .ok (.iastore, 1) := by decide +kernel
theorem dX2_holds_85 : decode cX2_holds 85 = .ok (.iload 4, 2) := by decide +kernel
theorem dX2_holds_87 : decode cX2_holds 87 = .ok (.ireturn, 1) := by decide +kernel
theorem cwX2_holds : mw_cwV yX2_holds cX2_holds 5 ((some .boolean)) 1 := ⟨⟨wd_12, wd_1694, by decide +kernel⟩, wd_1693, sl_126⟩
set_option maxHeartbeats 4000000 in
set_option maxRecDepth 100000 in
theorem tX2_holds (l : Launch) (G : mwG) (ad : Nat → Nat) (fu : Nat) (k : Nat) (a1 : Int32) (M : mwM) (L : mwL) {r0 : Int32} {M0 : mwM} {L0 : mwL} (hD : DX2_holds fu k a1 M L = some (r0, M0, L0)) (hk0 : isCh k) : Met l yX2_holds (Cond.code yX2_holds cX2_holds 5 ((some .boolean)) :: GT) ({ frames := 1, cells := 0, slots := 0, locals := 25 }) (mw_Pre G ad NF TF FF M L [.ref (ad k), .int a1]) (mw_Qi G ad NF TF FF (mw_eqI r0 M0 L0)) 0 0 (mw_fr G) := by
  refine mw_enter (by decide) (Nat.le_of_ble_eq_true rfl) ?_
  intro p e s m below meth c ls C hr hlocks hnm hw hl
  have hl : lv_has ls 5 [(0, .ref (ad k)), (1, .int a1)] := hl
  have hb83 : ∀ (v4 : Int32) (s2 : Int32) (s3 : Int32) (M : mwM) (L : mwL) (H : Heap) (locs : List Loc) (ls : Array Slot), fX2_holds_b83 fu k a1 v4 s2 s3 M L = some (r0, M0, L0) → mw_W G ad NF TF FF M L H locs → lv_has ls 5 [(4, .int v4)] → W p l e ({ frames := 1, cells := 0, slots := 0, locals := 25 }) s m [.ref (ad k), .int a1].toArray below meth c H locs 0 0 (MQ below (mw_Qi G ad NF TF FF (mw_eqI r0 M0 L0)) [.ref (ad k), .int a1].toArray s 0 0 (mw_fr G)) (F0 m 83 ls [.int s3, .int s2, .int a1, .ref (ad (k + 26))]) := by
    intro v4 s2 s3 M L H locs ls hD hw hl
    unfold fX2_holds_b83 at hD
    refine lv_ior C.1.1 C.1.2.1 dX2_holds_83 ?_
    obtain ⟨q7, hD⟩ := g_ck hD
    obtain ⟨M8, eM8, hD⟩ := g_let hD
    refine mr_iast C hw (Ch_N26 hk0) (Ch_T26 hk0) q7 dX2_holds_84 (fun H locs hw => ?_)
    replace hw : mw_W G ad NF TF FF M8 L H locs := by rw [eM8]; exact hw
    refine lv_iload C.1.1 C.1.2.1 dX2_holds_85 (lv_at hl 0 rfl) ?_
    obtain ⟨z9, hD⟩ := g_zz hD
    exact mr_iret C hr hlocks hw (nz_zz z9) (Option.some.inj hD) dX2_holds_87
  have hb59 : ∀ (s1 : Int32) (s2 : Int64) (s3 : Int64) (M : mwM) (L : mwL) (H : Heap) (locs : List Loc) (ls : Array Slot), fX2_holds_b59 fu k a1 s1 s2 s3 M L = some (r0, M0, L0) → mw_W G ad NF TF FF M L H locs → lv_has ls 5 [(0, .ref (ad k)), (1, .int a1)] → W p l e ({ frames := 1, cells := 0, slots := 0, locals := 25 }) s m [.ref (ad k), .int a1].toArray below meth c H locs 0 0 (MQ below (mw_Qi G ad NF TF FF (mw_eqI r0 M0 L0)) [.ref (ad k), .int a1].toArray s 0 0 (mw_fr G)) (F0 m 59 ls [.long s3, .long s2, .int s1, .ref (ad k)]) := by
    intro s1 s2 s3 M L H locs ls hD hw hl
    unfold fX2_holds_b59 at hD
    obtain ⟨r3, M1, L2, h1, hD⟩ := g_b3 hD
    refine md_cvI (As := [.int s1, .long s2, .long s3]) (rest := []) C hw (tX2_compare l G ad fu k s1 s2 s3 M L h1 hk0) kc_2 (Ch_N0 hk0) (Ch_T0 hk0) wd_1695 cwX2_compare ⟨Nat.le_of_ble_eq_true rfl, Nat.le_of_ble_eq_true rfl⟩ rfl hl.1 (Nat.le_of_ble_eq_true rfl) dX2_holds_59 rfl rfl ⟨Nat.zero_le _, Nat.zero_le _⟩ rfl (fun H locs hw => ?_)
    refine lv_istore (lv' := [(4, .int r3), (0, .ref (ad k)), (1, .int a1)]) C.1.1 C.1.2.1 dX2_holds_62 hl (by decide) rfl (fun ls hl => ?_)
    refine lv_aload_n C.1.1 C.1.2.1 dX2_holds_64 rfl (lv_at hl 1 rfl) ?_
    refine mr_getR C hw kc_2 1 (Ch_N0 hk0) (Ch_T0 hk0) (Ch_F0_1 hk0) wd_445 dX2_holds_65 (by decide) rfl ?_
    refine lv_iconst (v := 5) C.1.1 C.1.2.1 dX2_holds_68 (by decide) ?_
    refine mr_aald C hw (Ch_N20 hk0) (Ch_T20 hk0) (by decide) (by decide) rfl rfl (show vp_in 5 7 from by unfold vp_in; decide) (Ch_R20 hk0 _ (by decide : 5 < 7)).1 dX2_holds_69 ?_
    refine lv_iload_n C.1.1 C.1.2.1 dX2_holds_70 rfl (lv_at hl 2 rfl) ?_
    refine lv_dup2_11 C.1.1 C.1.2.1 dX2_holds_71 rfl rfl ?_
    obtain ⟨q5, hD⟩ := g_ck hD
    refine mr_iald C hw (Ch_N26 hk0) (Ch_T26 hk0) q5 dX2_holds_72 ?_
    refine lv_iload C.1.1 C.1.2.1 dX2_holds_73 (lv_at hl 0 rfl) ?_
    refine lv_if_eq (tgt := 82) C.1.1 C.1.2.1 dX2_holds_75 (by decide) (fun c6 => ?_) (fun c6 => ?_)
    · replace hD := g_pos c6 hD
      refine lv_iconst (v := 4) C.1.1 C.1.2.1 dX2_holds_82 (by decide) ?_
      exact hb83 r3 (M1 (k + 26) a1.toNatClampNeg) 4 M1 L2 _ _ ls hD hw (lv_sub hl [0] rfl)
    · replace hD := g_neg c6 hD
      refine lv_iconst (v := 2) C.1.1 C.1.2.1 dX2_holds_78 (by decide) ?_
      refine lv_goto (tgt := 83) C.1.1 C.1.2.1 dX2_holds_79 (by decide) ?_
      exact hb83 r3 (M1 (k + 26) a1.toNatClampNeg) 2 M1 L2 _ _ ls hD hw (lv_sub hl [0] rfl)
  unfold DX2_holds at hD
  refine lv_aload_n C.1.1 C.1.2.1 dX2_holds_0 rfl (lv_at hl 0 rfl) ?_
  refine mr_getR C hw kc_2 1 (Ch_N0 hk0) (Ch_T0 hk0) (Ch_F0_1 hk0) wd_445 dX2_holds_1 (by decide) rfl ?_
  refine lv_iconst (v := 3) C.1.1 C.1.2.1 dX2_holds_4 (by decide) ?_
  refine mr_aald C hw (Ch_N20 hk0) (Ch_T20 hk0) (by decide) (by decide) rfl rfl (show vp_in 3 7 from by unfold vp_in; decide) (Ch_R20 hk0 _ (by decide : 3 < 7)).1 dX2_holds_5 ?_
  refine lv_iload_n C.1.1 C.1.2.1 dX2_holds_6 rfl (lv_at hl 1 rfl) ?_
  obtain ⟨q11, hD⟩ := g_ck hD
  refine mr_iald C hw (Ch_N24 hk0) (Ch_T24 hk0) q11 dX2_holds_7 ?_
  obtain ⟨x12, ex12, hD⟩ := g_let hD
  refine W.eq (g2 := F0 m 8 ls (.int x12 :: [])) (by rw [ex12]) ?_
  refine lv_istore_n (lv' := [(2, .int x12), (0, .ref (ad k)), (1, .int a1)]) C.1.1 C.1.2.1 dX2_holds_8 rfl hl (by decide) rfl (fun ls hl => ?_)
  refine lv_iload_n C.1.1 C.1.2.1 dX2_holds_9 rfl (lv_at hl 0 rfl) ?_
  refine lv_if_ne (tgt := 15) C.1.1 C.1.2.1 dX2_holds_10 (by decide) (fun c13 => ?_) (fun c13 => ?_)
  · replace hD := g_neg c13 hD
    refine lv_iload_n C.1.1 C.1.2.1 dX2_holds_15 rfl (lv_at hl 0 rfl) ?_
    refine lv_sipush (v := 256) C.1.1 C.1.2.1 dX2_holds_16 (by decide) ?_
    refine lv_idiv C.1.1 C.1.2.1 dX2_holds_19 (by decide) ?_
    refine lv_bipush (v := 32) C.1.1 C.1.2.1 dX2_holds_20 (by decide) ?_
    refine lv_irem C.1.1 C.1.2.1 dX2_holds_22 (by decide) ?_
    obtain ⟨x16, ex16, hD⟩ := g_let hD
    refine W.eq (g2 := F0 m 23 ls (.int x16 :: [])) (by rw [ex16]) ?_
    refine lv_istore_n (lv' := [(3, .int x16), (2, .int x12), (0, .ref (ad k)), (1, .int a1)]) C.1.1 C.1.2.1 dX2_holds_23 rfl hl (by decide) rfl (fun ls hl => ?_)
    refine lv_aload_n C.1.1 C.1.2.1 dX2_holds_24 rfl (lv_at hl 2 rfl) ?_
    refine lv_iload_n C.1.1 C.1.2.1 dX2_holds_25 rfl (lv_at hl 1 rfl) ?_
    refine lv_bipush (v := 8) C.1.1 C.1.2.1 dX2_holds_26 (by decide) ?_
    refine lv_irem C.1.1 C.1.2.1 dX2_holds_28 (by decide) ?_
    refine lv_aload_n C.1.1 C.1.2.1 dX2_holds_29 rfl (lv_at hl 2 rfl) ?_
    refine mr_getR C hw kc_2 3 (Ch_N0 hk0) (Ch_T0 hk0) (Ch_F0_3 hk0) wd_447 dX2_holds_30 (by decide) rfl ?_
    refine lv_iload_n C.1.1 C.1.2.1 dX2_holds_33 rfl (lv_at hl 1 rfl) ?_
    refine lv_bipush (v := 8) C.1.1 C.1.2.1 dX2_holds_34 (by decide) ?_
    refine lv_idiv C.1.1 C.1.2.1 dX2_holds_36 (by decide) ?_
    refine lv_bipush (v := 32) C.1.1 C.1.2.1 dX2_holds_37 (by decide) ?_
    refine lv_irem C.1.1 C.1.2.1 dX2_holds_39 (by decide) ?_
    obtain ⟨q20, hD⟩ := g_ck hD
    refine mr_lald C hw (Ch_N34 hk0) (Ch_T34 hk0) q20 dX2_holds_40 ?_
    refine lv_iload_n C.1.1 C.1.2.1 dX2_holds_41 rfl (lv_at hl 1 rfl) ?_
    refine lv_sipush (v := 8192) C.1.1 C.1.2.1 dX2_holds_42 (by decide) ?_
    refine lv_icmp_lt (tgt := 53) C.1.1 C.1.2.1 dX2_holds_45 (by decide) (fun c21 => ?_) (fun c21 => ?_)
    · replace hD := g_pos c21 hD
      refine lv_aload_n C.1.1 C.1.2.1 dX2_holds_53 rfl (lv_at hl 2 rfl) ?_
      refine mr_getR C hw kc_2 3 (Ch_N0 hk0) (Ch_T0 hk0) (Ch_F0_3 hk0) wd_447 dX2_holds_54 (by decide) rfl ?_
      refine lv_iload_n C.1.1 C.1.2.1 dX2_holds_57 rfl (lv_at hl 0 rfl) ?_
      obtain ⟨q22, hD⟩ := g_ck hD
      refine mr_lald C hw (Ch_N34 hk0) (Ch_T34 hk0) q22 dX2_holds_58 ?_
      exact hb59 (x12 - x12 / 8 * 8) (L (k + 34) ((x12 / 8) - (x12 / 8) / 32 * 32).toNatClampNeg) (L (k + 34) x16.toNatClampNeg) M L _ _ ls hD hw (lv_sub hl [2, 3] rfl)
    · replace hD := g_neg c21 hD
      refine lv_iload_n C.1.1 C.1.2.1 dX2_holds_48 rfl (lv_at hl 0 rfl) ?_
      refine lv_i2l C.1.1 C.1.2.1 dX2_holds_49 rfl ?_
      refine lv_goto (tgt := 59) C.1.1 C.1.2.1 dX2_holds_50 (by decide) ?_
      exact hb59 (x12 - x12 / 8 * 8) (L (k + 34) ((x12 / 8) - (x12 / 8) / 32 * 32).toNatClampNeg) x16.toInt64 M L _ _ ls hD hw (lv_sub hl [2, 3] rfl)
  · replace hD := g_pos c13 hD
    refine lv_iconst (v := 1) C.1.1 C.1.2.1 dX2_holds_13 (by decide) ?_
    exact mr_iret C hr hlocks hw (by decide +kernel) (Option.some.inj hD) dX2_holds_14
