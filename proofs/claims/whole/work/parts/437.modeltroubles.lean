theorem dX18_event_0 : decode cX18_event 0 = .ok (.aload_n 0, 1) := by decide +kernel
theorem dX18_event_1 : decode cX18_event 1 = .ok (.iload_n 1, 1) := by decide +kernel
theorem dX18_event_2 : decode cX18_event 2 = .ok (.invokevirtual 128, 3) := by decide +kernel
theorem dX18_event_5 : decode cX18_event 5 = .ok (.ifCond .eq 5, 3) := by decide +kernel
theorem dX18_event_8 : decode cX18_event 8 = .ok (.iconst (-1), 1) := by decide +kernel
theorem dX18_event_9 : decode cX18_event 9 = .ok (.ireturn, 1) := by decide +kernel
theorem dX18_event_10 : decode cX18_event 10 = .ok (.aload_n 0, 1) := by decide +kernel
theorem dX18_event_11 : decode cX18_event 11 = .ok (.getfield 78, 3) := by decide +kernel
theorem dX18_event_14 : decode cX18_event 14 = .ok (.ifCond .eq 6, 3) := by decide +kernel
theorem dX18_event_17 : decode cX18_event 17 = .ok (.bipush (-3), 2) := by decide +kernel
theorem dX18_event_19 : decode cX18_event 19 = .ok (.ireturn, 1) := by decide +kernel
theorem dX18_event_20 : decode cX18_event 20 = .ok (.aload_n 0, 1) := by decide +kernel
theorem dX18_event_21 : decode cX18_event 21 = .ok (.dup, 1) := by decide +kernel
theorem dX18_event_22 : decode cX18_event 22 = .ok (.getfield 85, 3) := by decide +kernel
theorem dX18_event_25 : decode cX18_event 25 = .ok (.iconst 1, 1) := by decide +kernel
theorem dX18_event_26 : decode cX18_event 26 = .ok (.iadd, 1) := by decide +kernel
theorem dX18_event_27 : decode cX18_event 27 = .ok (.putfield 85, 3) := by decide +kernel
theorem dX18_event_30 : decode cX18_event 30 = .ok (.aload_n 0, 1) := by decide +kernel
theorem dX18_event_31 : decode cX18_event 31 = .ok (.getfield 62, 3) := by decide +kernel
theorem dX18_event_34 : decode cX18_event 34 = .ok (.iload_n 1, 1) := by decide +kernel
theorem dX18_event_35 : decode cX18_event 35 = .ok (.bipush 32, 2) := by decide +kernel
theorem dX18_event_37 : decode cX18_event 37 = .ok (.irem, 1) := by decide +kernel
theorem dX18_event_38 : decode cX18_event 38 = .ok (.baload, 1) := by decide +kernel
theorem dX18_event_39 : decode cX18_event 39 = .ok (.ifCond .eq 9, 3) := by decide +kernel
theorem dX18_event_42 : decode cX18_event 42 = .ok (.aload_n 0, 1) := by decide +kernel
theorem dX18_event_43 : decode cX18_event 43 = .ok (.iload_n 1, 1) := by decide +kernel
theorem dX18_event_44 : decode cX18_event 44 = .ok (.invokevirtual 131, 3) := by decide +kernel
theorem dX18_event_47 : decode cX18_event 47 = .ok (.ireturn, 1) := by decide +kernel
theorem dX18_event_48 : decode cX18_event 48 = .ok (.iload_n 2, 1) := by decide +kernel
theorem dX18_event_49 : decode cX18_event 49 = .ok (.ifCond .eq 82, 3) := by decide +kernel
theorem dX18_event_52 : decode cX18_event 52 = .ok (.aload_n 0, 1) := by decide +kernel
theorem dX18_event_53 : decode cX18_event 53 = .ok (.getfield 22, 3) := by decide +kernel
theorem dX18_event_56 : decode cX18_event 56 = .ok (.iload_n 1, 1) := by decide +kernel
theorem dX18_event_57 : decode cX18_event 57 = .ok (.aload_n 0, 1) := by decide +kernel
theorem dX18_event_58 : decode cX18_event 58 = .ok (.getfield 22, 3) := by decide +kernel
theorem dX18_event_61 : decode cX18_event 61 = .ok (.iload_n 1, 1) := by decide +kernel
theorem dX18_event_62 : decode cX18_event 62 = .ok (.iaload, 1) := by decide +kernel
theorem dX18_event_63 : decode cX18_event 63 = .ok (.ifCond .ge 7, 3) := by decide +kernel
theorem dX18_event_66 : decode cX18_event 66 = .ok (.iconst 0, 1) := by decide +kernel
theorem dX18_event_67 : decode cX18_event 67 = .ok (.goto 9, 3) := by decide +kernel
theorem dX18_event_70 : decode cX18_event 70 = .ok (.aload_n 0, 1) := by decide +kernel
theorem dX18_event_71 : decode cX18_event 71 = .ok (.getfield 22, 3) := by decide +kernel
theorem dX18_event_74 : decode cX18_event 74 = .ok (.iload_n 1, 1) := by decide +kernel
theorem dX18_event_75 : decode cX18_event 75 = .ok (.iaload, 1) := by decide +kernel
theorem dX18_event_76 : decode cX18_event 76 = .ok (.aload_n 0, 1) := by decide +kernel
theorem dX18_event_77 : decode cX18_event 77 = .ok (.getfield 13, 3) := by decide +kernel
theorem dX18_event_80 : decode cX18_event 80 = .ok (.iload_n 1, 1) := by decide +kernel
theorem dX18_event_81 : decode cX18_event 81 = .ok (.iaload, 1) := by decide +kernel
theorem dX18_event_82 : decode cX18_event 82 = .ok (.iadd, 1) := by decide +kernel
theorem dX18_event_83 : decode cX18_event 83 = .ok (.iastore, 1) := by decide +kernel
theorem dX18_event_84 : decode cX18_event 84 = .ok (.aload_n 0, 1) := by decide +kernel
theorem dX18_event_85 : decode cX18_event 85 = .ok (.getfield 22, 3) := by decide +kernel
theorem dX18_event_88 : decode cX18_event 88 = .ok (.iload_n 1, 1) := by decide +kernel
theorem dX18_event_89 : decode cX18_event 89 = .ok (.aload_n 0, 1) := by decide +kernel
theorem dX18_event_90 : decode cX18_event 90 = .ok (.getfield 22, 3) := by decide +kernel
theorem dX18_event_93 : decode cX18_event 93 = .ok (.iload_n 1, 1) := by decide +kernel
theorem dX18_event_94 : decode cX18_event 94 = .ok (.iaload, 1) := by decide +kernel
theorem dX18_event_95 : decode cX18_event 95 = .ok (.bipush 127, 2) := by decide +kernel
theorem dX18_event_97 : decode cX18_event 97 = .ok (.if_icmp .le 8, 3) := by decide +kernel
theorem dX18_event_100 : decode cX18_event 100 = .ok (.bipush 127, 2) := by decide +kernel
theorem dX18_event_102 : decode cX18_event 102 = .ok (.goto 9, 3) := by decide +kernel
theorem dX18_event_105 : decode cX18_event 105 = .ok (.aload_n 0, 1) := by decide +kernel
theorem dX18_event_106 : decode cX18_event 106 = .ok (.getfield 22, 3) := by decide +kernel
theorem dX18_event_109 : decode cX18_event 109 = .ok (.iload_n 1, 1) := by decide +kernel
theorem dX18_event_110 : decode cX18_event 110 = .ok (.iaload, 1) := by decide +kernel
theorem dX18_event_111 : decode cX18_event 111 = .ok (.iastore, 1) := by decide +kernel
theorem dX18_event_112 : decode cX18_event 112 = .ok (.aload_n 0, 1) := by decide +kernel
theorem dX18_event_113 : decode cX18_event 113 = .ok (.getfield 22, 3) := by decide +kernel
theorem dX18_event_116 : decode cX18_event 116 = .ok (.iload_n 1, 1) := by decide +kernel
theorem dX18_event_117 : decode cX18_event 117 = .ok (.iaload, 1) := by decide +kernel
theorem dX18_event_118 : decode cX18_event 118 = .ok (.bipush 127, 2) := by decide +kernel
theorem dX18_event_120 : decode cX18_event 120 = .ok (.if_icmp .ne 104, 3) := by decide +kernel
theorem dX18_event_123 : decode cX18_event 123 = .ok (.aload_n 0, 1) := by decide +kernel
theorem dX18_event_124 : decode cX18_event 124 = .ok (.iload_n 1, 1) := by decide +kernel
theorem dX18_event_125 : decode cX18_event 125 = .ok (.invokevirtual 134, 3) := by decide +kernel
theorem dX18_event_128 : decode cX18_event 128 = .ok (.goto 96, 3) := by decide +kernel
theorem dX18_event_131 : decode cX18_event 131 = .ok (.aload_n 0, 1) := by decide +kernel
theorem dX18_event_132 : decode cX18_event 132 = .ok (.getfield 22, 3) := by decide +kernel
theorem dX18_event_135 : decode cX18_event 135 = .ok (.iload_n 1, 1) := by decide +kernel
theorem dX18_event_136 : decode cX18_event 136 = .ok (.aload_n 0, 1) := by decide +kernel
theorem dX18_event_137 : decode cX18_event 137 = .ok (.getfield 22, 3) := by decide +kernel
theorem dX18_event_140 : decode cX18_event 140 = .ok (.iload_n 1, 1) := by decide +kernel
theorem dX18_event_141 : decode cX18_event 141 = .ok (.iaload, 1) := by decide +kernel
theorem dX18_event_142 : decode cX18_event 142 = .ok (.ifCond .le 7, 3) := by decide +kernel
theorem dX18_event_145 : decode cX18_event 145 = .ok (.iconst 0, 1) := by decide +kernel
theorem dX18_event_146 : decode cX18_event 146 = .ok (.goto 9, 3) := by decide +kernel
theorem dX18_event_149 : decode cX18_event 149 = .ok (.aload_n 0, 1) := by decide +kernel
theorem dX18_event_150 : decode cX18_event 150 = .ok (.getfield 22, 3) := by decide +kernel
theorem dX18_event_153 : decode cX18_event 153 = .ok (.iload_n 1, 1) := by decide +kernel
theorem dX18_event_154 : decode cX18_event 154 = .ok (.iaload, 1) := by decide +kernel
theorem dX18_event_155 : decode cX18_event 155 = .ok (.aload_n 0, 1) := by decide +kernel
theorem dX18_event_156 : decode cX18_event 156 = .ok (.getfield 16, 3) := by decide +kernel
theorem dX18_event_159 : decode cX18_event 159 = .ok (.iload_n 1, 1) := by decide +kernel
theorem dX18_event_160 : decode cX18_event 160 = .ok (.iaload, 1) := by decide +kernel
theorem dX18_event_161 : decode cX18_event 161 = .ok (.isub, 1) := by decide +kernel
theorem dX18_event_162 : decode cX18_event 162 = .ok (.iastore, 1) := by decide +kernel
theorem dX18_event_163 : decode cX18_event 163 = .ok (.aload_n 0, 1) := by decide +kernel
theorem dX18_event_164 : decode cX18_event 164 = .ok (.getfield 22, 3) := by decide +kernel
theorem dX18_event_167 : decode cX18_event 167 = .ok (.iload_n 1, 1) := by decide +kernel
theorem dX18_event_168 : decode cX18_event 168 = .ok (.aload_n 0, 1) := by decide +kernel
theorem dX18_event_169 : decode cX18_event 169 = .ok (.getfield 22, 3) := by decide +kernel
theorem dX18_event_172 : decode cX18_event 172 = .ok (.iload_n 1, 1) := by decide +kernel
theorem dX18_event_173 : decode cX18_event 173 = .ok (.iaload, 1) := by decide +kernel
theorem dX18_event_174 : decode cX18_event 174 = .ok (.bipush (-128), 2) := by decide +kernel
theorem dX18_event_176 : decode cX18_event 176 = .ok (.if_icmp .ge 8, 3) := by decide +kernel
theorem dX18_event_179 : decode cX18_event 179 = .ok (.bipush (-128), 2) := by decide +kernel
theorem dX18_event_181 : decode cX18_event 181 = .ok (.goto 9, 3) := by decide +kernel
theorem dX18_event_184 : decode cX18_event 184 = .ok (.aload_n 0, 1) := by decide +kernel
theorem dX18_event_185 : decode cX18_event 185 = .ok (.getfield 22, 3) := by decide +kernel
theorem dX18_event_188 : decode cX18_event 188 = .ok (.iload_n 1, 1) := by decide +kernel
theorem dX18_event_189 : decode cX18_event 189 = .ok (.iaload, 1) := by decide +kernel
theorem dX18_event_190 : decode cX18_event 190 = .ok (.iastore, 1) := by decide +kernel
theorem dX18_event_191 : decode cX18_event 191 = .ok (.aload_n 0, 1) := by decide +kernel
theorem dX18_event_192 : decode cX18_event 192 = .ok (.getfield 22, 3) := by decide +kernel
theorem dX18_event_195 : decode cX18_event 195 = .ok (.iload_n 1, 1) := by decide +kernel
theorem dX18_event_196 : decode cX18_event 196 = .ok (.iaload, 1) := by decide +kernel
theorem dX18_event_197 : decode cX18_event 197 = .ok (.bipush (-128), 2) := by decide +kernel
theorem dX18_event_199 : decode cX18_event 199 = .ok (.if_icmp .ne 25, 3) := by decide +kernel
theorem dX18_event_202 : decode cX18_event 202 = .ok (.aload_n 0, 1) := by decide +kernel
theorem dX18_event_203 : decode cX18_event 203 = .ok (.iload_n 1, 1) := by decide +kernel
theorem dX18_event_204 : decode cX18_event 204 = .ok (.iconst 0, 1) := by decide +kernel
theorem dX18_event_205 : decode cX18_event 205 = .ok (.iconst 0, 1) := by decide +kernel
theorem dX18_event_206 : decode cX18_event 206 = .ok (.invokevirtual 95, 3) := by decide +kernel
theorem dX18_event_209 : decode cX18_event 209 = .ok (.aload_n 0, 1) := by decide +kernel
theorem dX18_event_210 : decode cX18_event 210 = .ok (.iload_n 1, 1) := by decide +kernel
theorem dX18_event_211 : decode cX18_event 211 = .ok (.iconst 4, 1) := by decide +kernel
theorem dX18_event_212 : decode cX18_event 212 = .ok (.iconst 0, 1) := by decide +kernel
theorem dX18_event_213 : decode cX18_event 213 = .ok (.invokevirtual 95, 3) := by decide +kernel
theorem dX18_event_216 : decode cX18_event 216 = .ok (.aload_n 0, 1) := by decide +kernel
theorem dX18_event_217 : decode cX18_event 217 = .ok (.iload_n 1, 1) := by decide +kernel
theorem dX18_event_218 : decode cX18_event 218 = .ok (.bipush 6, 2) := by decide +kernel
theorem dX18_event_220 : decode cX18_event 220 = .ok (.iconst 0, 1) := by decide +kernel
theorem dX18_event_221 : decode cX18_event 221 = .ok (.invokevirtual 95, 3) := by decide +kernel
theorem dX18_event_224 : decode cX18_event 224 = .ok (.aload_n 0, 1) := by decide +kernel
theorem dX18_event_225 : decode cX18_event 225 = .ok (.iload_n 1, 1) := by decide +kernel
theorem dX18_event_226 : decode cX18_event 226 = .ok (.invokevirtual 131, 3) := by decide +kernel
theorem dX18_event_229 : decode cX18_event 229 = .ok (.ireturn, 1) := by decide +kernel
theorem cwX18_event : mw_cwV yX18_event cX18_event 3 ((some .int)) 2 := ⟨⟨wd_18, wd_3883, by decide +kernel⟩, wd_3881, wd_3882⟩
set_option maxHeartbeats 4000000 in
set_option maxRecDepth 100000 in
theorem tX18_event (l : Launch) (G : mwG) (ad : Nat → Nat) (fu : Nat) (a1 : Int32) (a2 : Int32) (M : mwM) (L : mwL) {r0 : Int32} {M0 : mwM} {L0 : mwL} (hD : DX18_event fu a1 a2 M L = some (r0, M0, L0)) : Met l yX18_event (Cond.code yX18_event cX18_event 3 ((some .int)) :: GT) ({ frames := 5, cells := 0, slots := 0, locals := 112 }) (mw_Pre G ad NF TF FF M L [.ref (ad 902), .int a1, .int a2]) (mw_Qi G ad NF TF FF (mw_eqI r0 M0 L0)) 0 0 (mw_fr G) := by
  refine mw_enter (by decide) (Nat.le_of_ble_eq_true rfl) ?_
  intro p e s m below meth c ls C hr hlocks hnm hw hl
  have hl : lv_has ls 3 [(0, .ref (ad 902)), (1, .int a1), (2, .int a2)] := hl
  have hb224 : ∀ (M : mwM) (L : mwL) (H : Heap) (locs : List Loc) (ls : Array Slot), fX18_event_b224 fu a1 a2 M L = some (r0, M0, L0) → mw_W G ad NF TF FF M L H locs → lv_has ls 3 [(0, .ref (ad 902)), (1, .int a1)] → W p l e ({ frames := 5, cells := 0, slots := 0, locals := 112 }) s m [.ref (ad 902), .int a1, .int a2].toArray below meth c H locs 0 0 (MQ below (mw_Qi G ad NF TF FF (mw_eqI r0 M0 L0)) [.ref (ad 902), .int a1, .int a2].toArray s 0 0 (mw_fr G)) (F0 m 224 ls []) := by
    intro M L H locs ls hD hw hl
    unfold fX18_event_b224 at hD
    refine lv_aload_n C.1.1 C.1.2.1 dX18_event_224 rfl (lv_at hl 0 rfl) ?_
    refine lv_iload_n C.1.1 C.1.2.1 dX18_event_225 rfl (lv_at hl 1 rfl) ?_
    obtain ⟨r31, M29, L30, h1, hD⟩ := g_b3 hD
    refine md_cvI (As := [.int a1]) (rest := []) C hw (tX18_statusOf l G ad fu a1 M L h1) kc_18 (by decide) tf_902 wd_3888 cwX18_statusOf ⟨Nat.le_of_ble_eq_true rfl, Nat.le_of_ble_eq_true rfl⟩ rfl hl.1 (Nat.le_of_ble_eq_true rfl) dX18_event_226 rfl rfl ⟨Nat.zero_le _, Nat.zero_le _⟩ rfl (fun H locs hw => ?_)
    exact mr_iret C hr hlocks hw rfl (Option.some.inj hD) dX18_event_229
  have hb111 : ∀ (s2 : Int32) (M : mwM) (L : mwL) (H : Heap) (locs : List Loc) (ls : Array Slot), fX18_event_b111 fu a1 a2 s2 M L = some (r0, M0, L0) → mw_W G ad NF TF FF M L H locs → lv_has ls 3 [(0, .ref (ad 902)), (1, .int a1)] → W p l e ({ frames := 5, cells := 0, slots := 0, locals := 112 }) s m [.ref (ad 902), .int a1, .int a2].toArray below meth c H locs 0 0 (MQ below (mw_Qi G ad NF TF FF (mw_eqI r0 M0 L0)) [.ref (ad 902), .int a1, .int a2].toArray s 0 0 (mw_fr G)) (F0 m 111 ls [.int s2, .int a1, .ref (ad 907)]) := by
    intro s2 M L H locs ls hD hw hl
    unfold fX18_event_b111 at hD
    obtain ⟨q7, hD⟩ := g_ck hD
    obtain ⟨M8, eM8, hD⟩ := g_let hD
    refine mr_iast C hw (by decide) tf_907 q7 dX18_event_111 (fun H locs hw => ?_)
    replace hw : mw_W G ad NF TF FF M8 L H locs := by rw [eM8]; exact hw
    refine lv_aload_n C.1.1 C.1.2.1 dX18_event_112 rfl (lv_at hl 0 rfl) ?_
    refine mr_getR C hw kc_18 7 (by decide) tf_902 ff_902_7 wd_2474 dX18_event_113 (by decide) rfl ?_
    refine lv_iload_n C.1.1 C.1.2.1 dX18_event_116 rfl (lv_at hl 1 rfl) ?_
    obtain ⟨q9, hD⟩ := g_ck hD
    refine mr_iald C hw (by decide) tf_907 q9 dX18_event_117 ?_
    refine lv_bipush (v := 127) C.1.1 C.1.2.1 dX18_event_118 (by decide) ?_
    refine lv_icmp_ne (tgt := 224) C.1.1 C.1.2.1 dX18_event_120 (by decide) (fun c10 => ?_) (fun c10 => ?_)
    · replace hD := g_neg c10 hD
      exact hb224 M8 L _ _ ls hD hw (lv_sub hl [0, 1] rfl)
    · replace hD := g_pos c10 hD
      refine lv_aload_n C.1.1 C.1.2.1 dX18_event_123 rfl (lv_at hl 0 rfl) ?_
      refine lv_iload_n C.1.1 C.1.2.1 dX18_event_124 rfl (lv_at hl 1 rfl) ?_
      obtain ⟨M11, L12, h1, hD⟩ := g_b2 hD
      refine md_cvV (As := [.int a1]) (rest := []) C hw (tX18_fails l G ad fu a1 M8 L h1) kc_18 (by decide) tf_902 wd_3892 cwX18_fails ⟨Nat.le_of_ble_eq_true rfl, Nat.le_of_ble_eq_true rfl⟩ rfl hl.1 (Nat.le_of_ble_eq_true rfl) dX18_event_125 rfl rfl ⟨Nat.zero_le _, Nat.zero_le _⟩ rfl (fun H locs hw => ?_)
      refine lv_goto (tgt := 224) C.1.1 C.1.2.1 dX18_event_128 (by decide) ?_
      exact hb224 M11 L12 _ _ ls hD hw (lv_sub hl [0, 1] rfl)
  have hb76 : ∀ (s2 : Int32) (M : mwM) (L : mwL) (H : Heap) (locs : List Loc) (ls : Array Slot), fX18_event_b76 fu a1 a2 s2 M L = some (r0, M0, L0) → mw_W G ad NF TF FF M L H locs → lv_has ls 3 [(0, .ref (ad 902)), (1, .int a1)] → W p l e ({ frames := 5, cells := 0, slots := 0, locals := 112 }) s m [.ref (ad 902), .int a1, .int a2].toArray below meth c H locs 0 0 (MQ below (mw_Qi G ad NF TF FF (mw_eqI r0 M0 L0)) [.ref (ad 902), .int a1, .int a2].toArray s 0 0 (mw_fr G)) (F0 m 76 ls [.int s2, .int a1, .ref (ad 907)]) := by
    intro s2 M L H locs ls hD hw hl
    unfold fX18_event_b76 at hD
    refine lv_aload_n C.1.1 C.1.2.1 dX18_event_76 rfl (lv_at hl 0 rfl) ?_
    refine mr_getR C hw kc_18 4 (by decide) tf_902 ff_902_4 wd_2471 dX18_event_77 (by decide) rfl ?_
    refine lv_iload_n C.1.1 C.1.2.1 dX18_event_80 rfl (lv_at hl 1 rfl) ?_
    obtain ⟨q1, hD⟩ := g_ck hD
    refine mr_iald C hw (by decide) tf_904 q1 dX18_event_81 ?_
    refine lv_iadd C.1.1 C.1.2.1 dX18_event_82 ?_
    obtain ⟨q2, hD⟩ := g_ck hD
    obtain ⟨M3, eM3, hD⟩ := g_let hD
    refine mr_iast C hw (by decide) tf_907 q2 dX18_event_83 (fun H locs hw => ?_)
    replace hw : mw_W G ad NF TF FF M3 L H locs := by rw [eM3]; exact hw
    refine lv_aload_n C.1.1 C.1.2.1 dX18_event_84 rfl (lv_at hl 0 rfl) ?_
    refine mr_getR C hw kc_18 7 (by decide) tf_902 ff_902_7 wd_2474 dX18_event_85 (by decide) rfl ?_
    refine lv_iload_n C.1.1 C.1.2.1 dX18_event_88 rfl (lv_at hl 1 rfl) ?_
    refine lv_aload_n C.1.1 C.1.2.1 dX18_event_89 rfl (lv_at hl 0 rfl) ?_
    refine mr_getR C hw kc_18 7 (by decide) tf_902 ff_902_7 wd_2474 dX18_event_90 (by decide) rfl ?_
    refine lv_iload_n C.1.1 C.1.2.1 dX18_event_93 rfl (lv_at hl 1 rfl) ?_
    obtain ⟨q4, hD⟩ := g_ck hD
    refine mr_iald C hw (by decide) tf_907 q4 dX18_event_94 ?_
    refine lv_bipush (v := 127) C.1.1 C.1.2.1 dX18_event_95 (by decide) ?_
    refine lv_icmp_le (tgt := 105) C.1.1 C.1.2.1 dX18_event_97 (by decide) (fun c5 => ?_) (fun c5 => ?_)
    · replace hD := g_pos c5 hD
      refine lv_aload_n C.1.1 C.1.2.1 dX18_event_105 rfl (lv_at hl 0 rfl) ?_
      refine mr_getR C hw kc_18 7 (by decide) tf_902 ff_902_7 wd_2474 dX18_event_106 (by decide) rfl ?_
      refine lv_iload_n C.1.1 C.1.2.1 dX18_event_109 rfl (lv_at hl 1 rfl) ?_
      obtain ⟨q6, hD⟩ := g_ck hD
      refine mr_iald C hw (by decide) tf_907 q6 dX18_event_110 ?_
      exact hb111 (M3 907 a1.toNatClampNeg) M3 L _ _ ls hD hw (lv_sub hl [0, 1] rfl)
    · replace hD := g_neg c5 hD
      refine lv_bipush (v := 127) C.1.1 C.1.2.1 dX18_event_100 (by decide) ?_
      refine lv_goto (tgt := 111) C.1.1 C.1.2.1 dX18_event_102 (by decide) ?_
      exact hb111 127 M3 L _ _ ls hD hw (lv_sub hl [0, 1] rfl)
  have hb190 : ∀ (s2 : Int32) (M : mwM) (L : mwL) (H : Heap) (locs : List Loc) (ls : Array Slot), fX18_event_b190 fu a1 a2 s2 M L = some (r0, M0, L0) → mw_W G ad NF TF FF M L H locs → lv_has ls 3 [(0, .ref (ad 902)), (1, .int a1)] → W p l e ({ frames := 5, cells := 0, slots := 0, locals := 112 }) s m [.ref (ad 902), .int a1, .int a2].toArray below meth c H locs 0 0 (MQ below (mw_Qi G ad NF TF FF (mw_eqI r0 M0 L0)) [.ref (ad 902), .int a1, .int a2].toArray s 0 0 (mw_fr G)) (F0 m 190 ls [.int s2, .int a1, .ref (ad 907)]) := by
    intro s2 M L H locs ls hD hw hl
    unfold fX18_event_b190 at hD
    obtain ⟨q19, hD⟩ := g_ck hD
    obtain ⟨M20, eM20, hD⟩ := g_let hD
    refine mr_iast C hw (by decide) tf_907 q19 dX18_event_190 (fun H locs hw => ?_)
    replace hw : mw_W G ad NF TF FF M20 L H locs := by rw [eM20]; exact hw
    refine lv_aload_n C.1.1 C.1.2.1 dX18_event_191 rfl (lv_at hl 0 rfl) ?_
    refine mr_getR C hw kc_18 7 (by decide) tf_902 ff_902_7 wd_2474 dX18_event_192 (by decide) rfl ?_
    refine lv_iload_n C.1.1 C.1.2.1 dX18_event_195 rfl (lv_at hl 1 rfl) ?_
    obtain ⟨q21, hD⟩ := g_ck hD
    refine mr_iald C hw (by decide) tf_907 q21 dX18_event_196 ?_
    refine lv_bipush (v := (-128)) C.1.1 C.1.2.1 dX18_event_197 (by decide) ?_
    refine lv_icmp_ne (tgt := 224) C.1.1 C.1.2.1 dX18_event_199 (by decide) (fun c22 => ?_) (fun c22 => ?_)
    · replace hD := g_neg c22 hD
      exact hb224 M20 L _ _ ls hD hw (lv_sub hl [0, 1] rfl)
    · replace hD := g_pos c22 hD
      refine lv_aload_n C.1.1 C.1.2.1 dX18_event_202 rfl (lv_at hl 0 rfl) ?_
      refine lv_iload_n C.1.1 C.1.2.1 dX18_event_203 rfl (lv_at hl 1 rfl) ?_
      refine lv_iconst (v := 0) C.1.1 C.1.2.1 dX18_event_204 (by decide) ?_
      refine lv_iconst (v := 0) C.1.1 C.1.2.1 dX18_event_205 (by decide) ?_
      obtain ⟨M23, L24, h1, hD⟩ := g_b2 hD
      refine md_cvV (As := [.int a1, .int 0, .int 0]) (rest := []) C hw (tX18_set l G ad fu a1 0 0 M20 L h1) kc_18 (by decide) tf_902 wd_3379 cwX18_set ⟨Nat.le_of_ble_eq_true rfl, Nat.le_of_ble_eq_true rfl⟩ rfl hl.1 (Nat.le_of_ble_eq_true rfl) dX18_event_206 rfl rfl ⟨Nat.zero_le _, Nat.zero_le _⟩ rfl (fun H locs hw => ?_)
      refine lv_aload_n C.1.1 C.1.2.1 dX18_event_209 rfl (lv_at hl 0 rfl) ?_
      refine lv_iload_n C.1.1 C.1.2.1 dX18_event_210 rfl (lv_at hl 1 rfl) ?_
      refine lv_iconst (v := 4) C.1.1 C.1.2.1 dX18_event_211 (by decide) ?_
      refine lv_iconst (v := 0) C.1.1 C.1.2.1 dX18_event_212 (by decide) ?_
      obtain ⟨M25, L26, h1, hD⟩ := g_b2 hD
      refine md_cvV (As := [.int a1, .int 4, .int 0]) (rest := []) C hw (tX18_set l G ad fu a1 4 0 M23 L24 h1) kc_18 (by decide) tf_902 wd_3379 cwX18_set ⟨Nat.le_of_ble_eq_true rfl, Nat.le_of_ble_eq_true rfl⟩ rfl hl.1 (Nat.le_of_ble_eq_true rfl) dX18_event_213 rfl rfl ⟨Nat.zero_le _, Nat.zero_le _⟩ rfl (fun H locs hw => ?_)
      refine lv_aload_n C.1.1 C.1.2.1 dX18_event_216 rfl (lv_at hl 0 rfl) ?_
      refine lv_iload_n C.1.1 C.1.2.1 dX18_event_217 rfl (lv_at hl 1 rfl) ?_
      refine lv_bipush (v := 6) C.1.1 C.1.2.1 dX18_event_218 (by decide) ?_
      refine lv_iconst (v := 0) C.1.1 C.1.2.1 dX18_event_220 (by decide) ?_
      obtain ⟨M27, L28, h1, hD⟩ := g_b2 hD
      refine md_cvV (As := [.int a1, .int 6, .int 0]) (rest := []) C hw (tX18_set l G ad fu a1 6 0 M25 L26 h1) kc_18 (by decide) tf_902 wd_3379 cwX18_set ⟨Nat.le_of_ble_eq_true rfl, Nat.le_of_ble_eq_true rfl⟩ rfl hl.1 (Nat.le_of_ble_eq_true rfl) dX18_event_221 rfl rfl ⟨Nat.zero_le _, Nat.zero_le _⟩ rfl (fun H locs hw => ?_)
      exact hb224 M27 L28 _ _ ls hD hw (lv_sub hl [0, 1] rfl)
  have hb155 : ∀ (s2 : Int32) (M : mwM) (L : mwL) (H : Heap) (locs : List Loc) (ls : Array Slot), fX18_event_b155 fu a1 a2 s2 M L = some (r0, M0, L0) → mw_W G ad NF TF FF M L H locs → lv_has ls 3 [(0, .ref (ad 902)), (1, .int a1)] → W p l e ({ frames := 5, cells := 0, slots := 0, locals := 112 }) s m [.ref (ad 902), .int a1, .int a2].toArray below meth c H locs 0 0 (MQ below (mw_Qi G ad NF TF FF (mw_eqI r0 M0 L0)) [.ref (ad 902), .int a1, .int a2].toArray s 0 0 (mw_fr G)) (F0 m 155 ls [.int s2, .int a1, .ref (ad 907)]) := by
    intro s2 M L H locs ls hD hw hl
    unfold fX18_event_b155 at hD
    refine lv_aload_n C.1.1 C.1.2.1 dX18_event_155 rfl (lv_at hl 0 rfl) ?_
    refine mr_getR C hw kc_18 5 (by decide) tf_902 ff_902_5 wd_2472 dX18_event_156 (by decide) rfl ?_
    refine lv_iload_n C.1.1 C.1.2.1 dX18_event_159 rfl (lv_at hl 1 rfl) ?_
    obtain ⟨q13, hD⟩ := g_ck hD
    refine mr_iald C hw (by decide) tf_905 q13 dX18_event_160 ?_
    refine lv_isub C.1.1 C.1.2.1 dX18_event_161 ?_
    obtain ⟨q14, hD⟩ := g_ck hD
    obtain ⟨M15, eM15, hD⟩ := g_let hD
    refine mr_iast C hw (by decide) tf_907 q14 dX18_event_162 (fun H locs hw => ?_)
    replace hw : mw_W G ad NF TF FF M15 L H locs := by rw [eM15]; exact hw
    refine lv_aload_n C.1.1 C.1.2.1 dX18_event_163 rfl (lv_at hl 0 rfl) ?_
    refine mr_getR C hw kc_18 7 (by decide) tf_902 ff_902_7 wd_2474 dX18_event_164 (by decide) rfl ?_
    refine lv_iload_n C.1.1 C.1.2.1 dX18_event_167 rfl (lv_at hl 1 rfl) ?_
    refine lv_aload_n C.1.1 C.1.2.1 dX18_event_168 rfl (lv_at hl 0 rfl) ?_
    refine mr_getR C hw kc_18 7 (by decide) tf_902 ff_902_7 wd_2474 dX18_event_169 (by decide) rfl ?_
    refine lv_iload_n C.1.1 C.1.2.1 dX18_event_172 rfl (lv_at hl 1 rfl) ?_
    obtain ⟨q16, hD⟩ := g_ck hD
    refine mr_iald C hw (by decide) tf_907 q16 dX18_event_173 ?_
    refine lv_bipush (v := (-128)) C.1.1 C.1.2.1 dX18_event_174 (by decide) ?_
    refine lv_icmp_ge (tgt := 184) C.1.1 C.1.2.1 dX18_event_176 (by decide) (fun c17 => ?_) (fun c17 => ?_)
    · replace hD := g_pos c17 hD
      refine lv_aload_n C.1.1 C.1.2.1 dX18_event_184 rfl (lv_at hl 0 rfl) ?_
      refine mr_getR C hw kc_18 7 (by decide) tf_902 ff_902_7 wd_2474 dX18_event_185 (by decide) rfl ?_
      refine lv_iload_n C.1.1 C.1.2.1 dX18_event_188 rfl (lv_at hl 1 rfl) ?_
      obtain ⟨q18, hD⟩ := g_ck hD
      refine mr_iald C hw (by decide) tf_907 q18 dX18_event_189 ?_
      exact hb190 (M15 907 a1.toNatClampNeg) M15 L _ _ ls hD hw (lv_sub hl [0, 1] rfl)
    · replace hD := g_neg c17 hD
      refine lv_bipush (v := (-128)) C.1.1 C.1.2.1 dX18_event_179 (by decide) ?_
      refine lv_goto (tgt := 190) C.1.1 C.1.2.1 dX18_event_181 (by decide) ?_
      exact hb190 ((-128)) M15 L _ _ ls hD hw (lv_sub hl [0, 1] rfl)
  unfold DX18_event at hD
  refine lv_aload_n C.1.1 C.1.2.1 dX18_event_0 rfl (lv_at hl 0 rfl) ?_
  refine lv_iload_n C.1.1 C.1.2.1 dX18_event_1 rfl (lv_at hl 1 rfl) ?_
  obtain ⟨r34, M32, L33, h1, hD⟩ := g_b3 hD
  refine md_cvI (As := [.int a1]) (rest := []) C hw (tX18_none l G ad fu a1 M L h1) kc_18 (by decide) tf_902 wd_3884 cwX18_none ⟨Nat.le_of_ble_eq_true rfl, Nat.le_of_ble_eq_true rfl⟩ rfl hl.1 (Nat.le_of_ble_eq_true rfl) dX18_event_2 rfl rfl ⟨Nat.zero_le _, Nat.zero_le _⟩ rfl (fun H locs hw => ?_)
  refine lv_if_eq (tgt := 10) C.1.1 C.1.2.1 dX18_event_5 (by decide) (fun c35 => ?_) (fun c35 => ?_)
  · replace hD := g_pos c35 hD
    refine lv_aload_n C.1.1 C.1.2.1 dX18_event_10 rfl (lv_at hl 0 rfl) ?_
    refine mr_getI C hw kc_18 23 (by decide) tf_902 wd_2490 dX18_event_11 (by decide) rfl ?_
    refine lv_if_eq (tgt := 20) C.1.1 C.1.2.1 dX18_event_14 (by decide) (fun c36 => ?_) (fun c36 => ?_)
    · replace hD := g_pos c36 hD
      refine lv_aload_n C.1.1 C.1.2.1 dX18_event_20 rfl (lv_at hl 0 rfl) ?_
      refine lv_dup C.1.1 C.1.2.1 dX18_event_21 rfl ?_
      refine mr_getI C hw kc_18 25 (by decide) tf_902 wd_2492 dX18_event_22 (by decide) rfl ?_
      refine lv_iconst (v := 1) C.1.1 C.1.2.1 dX18_event_25 (by decide) ?_
      refine lv_iadd C.1.1 C.1.2.1 dX18_event_26 ?_
      obtain ⟨M37, eM37, hD⟩ := g_let hD
      refine mr_putI C hw kc_18 25 (by decide) tf_902 wd_2492 dX18_event_27 (by decide) rfl rfl rfl rfl (fun H locs hw => ?_)
      replace hw : mw_W G ad NF TF FF M37 L33 H locs := by rw [eM37]; exact hw
      refine lv_aload_n C.1.1 C.1.2.1 dX18_event_30 rfl (lv_at hl 0 rfl) ?_
      refine mr_getR C hw kc_18 22 (by decide) tf_902 ff_902_22 wd_2489 dX18_event_31 (by decide) rfl ?_
      refine lv_iload_n C.1.1 C.1.2.1 dX18_event_34 rfl (lv_at hl 1 rfl) ?_
      refine lv_bipush (v := 32) C.1.1 C.1.2.1 dX18_event_35 (by decide) ?_
      refine lv_irem C.1.1 C.1.2.1 dX18_event_37 (by decide) ?_
      obtain ⟨q39, hD⟩ := g_ck hD
      refine mr_zald C hw (by decide) tf_920 q39 dX18_event_38 ?_
      refine lv_if_eq (tgt := 48) C.1.1 C.1.2.1 dX18_event_39 (by decide) (fun c40 => ?_) (fun c40 => ?_)
      · replace hD := g_pos c40 hD
        refine lv_iload_n C.1.1 C.1.2.1 dX18_event_48 rfl (lv_at hl 2 rfl) ?_
        refine lv_if_eq (tgt := 131) C.1.1 C.1.2.1 dX18_event_49 (by decide) (fun c41 => ?_) (fun c41 => ?_)
        · replace hD := g_pos c41 hD
          refine lv_aload_n C.1.1 C.1.2.1 dX18_event_131 rfl (lv_at hl 0 rfl) ?_
          refine mr_getR C hw kc_18 7 (by decide) tf_902 ff_902_7 wd_2474 dX18_event_132 (by decide) rfl ?_
          refine lv_iload_n C.1.1 C.1.2.1 dX18_event_135 rfl (lv_at hl 1 rfl) ?_
          refine lv_aload_n C.1.1 C.1.2.1 dX18_event_136 rfl (lv_at hl 0 rfl) ?_
          refine mr_getR C hw kc_18 7 (by decide) tf_902 ff_902_7 wd_2474 dX18_event_137 (by decide) rfl ?_
          refine lv_iload_n C.1.1 C.1.2.1 dX18_event_140 rfl (lv_at hl 1 rfl) ?_
          obtain ⟨q42, hD⟩ := g_ck hD
          refine mr_iald C hw (by decide) tf_907 q42 dX18_event_141 ?_
          refine lv_if_le (tgt := 149) C.1.1 C.1.2.1 dX18_event_142 (by decide) (fun c43 => ?_) (fun c43 => ?_)
          · replace hD := g_pos c43 hD
            refine lv_aload_n C.1.1 C.1.2.1 dX18_event_149 rfl (lv_at hl 0 rfl) ?_
            refine mr_getR C hw kc_18 7 (by decide) tf_902 ff_902_7 wd_2474 dX18_event_150 (by decide) rfl ?_
            refine lv_iload_n C.1.1 C.1.2.1 dX18_event_153 rfl (lv_at hl 1 rfl) ?_
            obtain ⟨q44, hD⟩ := g_ck hD
            refine mr_iald C hw (by decide) tf_907 q44 dX18_event_154 ?_
            exact hb155 (M37 907 a1.toNatClampNeg) M37 L33 _ _ ls hD hw (lv_sub hl [0, 1] rfl)
          · replace hD := g_neg c43 hD
            refine lv_iconst (v := 0) C.1.1 C.1.2.1 dX18_event_145 (by decide) ?_
            refine lv_goto (tgt := 155) C.1.1 C.1.2.1 dX18_event_146 (by decide) ?_
            exact hb155 0 M37 L33 _ _ ls hD hw (lv_sub hl [0, 1] rfl)
        · replace hD := g_neg c41 hD
          refine lv_aload_n C.1.1 C.1.2.1 dX18_event_52 rfl (lv_at hl 0 rfl) ?_
          refine mr_getR C hw kc_18 7 (by decide) tf_902 ff_902_7 wd_2474 dX18_event_53 (by decide) rfl ?_
          refine lv_iload_n C.1.1 C.1.2.1 dX18_event_56 rfl (lv_at hl 1 rfl) ?_
          refine lv_aload_n C.1.1 C.1.2.1 dX18_event_57 rfl (lv_at hl 0 rfl) ?_
          refine mr_getR C hw kc_18 7 (by decide) tf_902 ff_902_7 wd_2474 dX18_event_58 (by decide) rfl ?_
          refine lv_iload_n C.1.1 C.1.2.1 dX18_event_61 rfl (lv_at hl 1 rfl) ?_
          obtain ⟨q45, hD⟩ := g_ck hD
          refine mr_iald C hw (by decide) tf_907 q45 dX18_event_62 ?_
          refine lv_if_ge (tgt := 70) C.1.1 C.1.2.1 dX18_event_63 (by decide) (fun c46 => ?_) (fun c46 => ?_)
          · replace hD := g_pos c46 hD
            refine lv_aload_n C.1.1 C.1.2.1 dX18_event_70 rfl (lv_at hl 0 rfl) ?_
            refine mr_getR C hw kc_18 7 (by decide) tf_902 ff_902_7 wd_2474 dX18_event_71 (by decide) rfl ?_
            refine lv_iload_n C.1.1 C.1.2.1 dX18_event_74 rfl (lv_at hl 1 rfl) ?_
            obtain ⟨q47, hD⟩ := g_ck hD
            refine mr_iald C hw (by decide) tf_907 q47 dX18_event_75 ?_
            exact hb76 (M37 907 a1.toNatClampNeg) M37 L33 _ _ ls hD hw (lv_sub hl [0, 1] rfl)
          · replace hD := g_neg c46 hD
            refine lv_iconst (v := 0) C.1.1 C.1.2.1 dX18_event_66 (by decide) ?_
            refine lv_goto (tgt := 76) C.1.1 C.1.2.1 dX18_event_67 (by decide) ?_
            exact hb76 0 M37 L33 _ _ ls hD hw (lv_sub hl [0, 1] rfl)
      · replace hD := g_neg c40 hD
        refine lv_aload_n C.1.1 C.1.2.1 dX18_event_42 rfl (lv_at hl 0 rfl) ?_
        refine lv_iload_n C.1.1 C.1.2.1 dX18_event_43 rfl (lv_at hl 1 rfl) ?_
        obtain ⟨r50, M48, L49, h1, hD⟩ := g_b3 hD
        refine md_cvI (As := [.int a1]) (rest := []) C hw (tX18_statusOf l G ad fu a1 M37 L33 h1) kc_18 (by decide) tf_902 wd_3888 cwX18_statusOf ⟨Nat.le_of_ble_eq_true rfl, Nat.le_of_ble_eq_true rfl⟩ rfl hl.1 (Nat.le_of_ble_eq_true rfl) dX18_event_44 rfl rfl ⟨Nat.zero_le _, Nat.zero_le _⟩ rfl (fun H locs hw => ?_)
        exact mr_iret C hr hlocks hw rfl (Option.some.inj hD) dX18_event_47
    · replace hD := g_neg c36 hD
      refine lv_bipush (v := (-3)) C.1.1 C.1.2.1 dX18_event_17 (by decide) ?_
      exact mr_iret C hr hlocks hw rfl (Option.some.inj hD) dX18_event_19
  · replace hD := g_neg c35 hD
    refine lv_iconst (v := (-1)) C.1.1 C.1.2.1 dX18_event_8 (by decide) ?_
    exact mr_iret C hr hlocks hw rfl (Option.some.inj hD) dX18_event_9

theorem dX18_cycle_0 : decode cX18_cycle 0 = .ok (.aload_n 0, 1) := by decide +kernel
theorem dX18_cycle_1 : decode cX18_cycle 1 = .ok (.iconst 0, 1) := by decide +kernel
theorem dX18_cycle_2 : decode cX18_cycle 2 = .ok (.putfield 88, 3) := by decide +kernel
theorem dX18_cycle_5 : decode cX18_cycle 5 = .ok (.aload_n 0, 1) := by decide +kernel
theorem dX18_cycle_6 : decode cX18_cycle 6 = .ok (.getfield 78, 3) := by decide +kernel
theorem dX18_cycle_9 : decode cX18_cycle 9 = .ok (.ifCond .eq 6, 3) := by decide +kernel
theorem dX18_cycle_12 : decode cX18_cycle 12 = .ok (.bipush (-3), 2) := by decide +kernel
theorem dX18_cycle_14 : decode cX18_cycle 14 = .ok (.ireturn, 1) := by decide +kernel
theorem dX18_cycle_15 : decode cX18_cycle 15 = .ok (.iconst 1, 1) := by decide +kernel
theorem dX18_cycle_16 : decode cX18_cycle 16 = .ok (.istore_n 2, 1) := by decide +kernel
theorem dX18_cycle_17 : decode cX18_cycle 17 = .ok (.iload_n 2, 1) := by decide +kernel
theorem dX18_cycle_18 : decode cX18_cycle 18 = .ok (.aload_n 0, 1) := by decide +kernel
theorem dX18_cycle_19 : decode cX18_cycle 19 = .ok (.getfield 69, 3) := by decide +kernel
theorem dX18_cycle_22 : decode cX18_cycle 22 = .ok (.if_icmp .gt 208, 3) := by decide +kernel
theorem dX18_cycle_25 : decode cX18_cycle 25 = .ok (.aload_n 0, 1) := by decide +kernel
theorem dX18_cycle_26 : decode cX18_cycle 26 = .ok (.iload_n 2, 1) := by decide +kernel
theorem dX18_cycle_27 : decode cX18_cycle 27 = .ok (.iconst 1, 1) := by decide +kernel
theorem dX18_cycle_28 : decode cX18_cycle 28 = .ok (.invokevirtual 91, 3) := by decide +kernel
theorem dX18_cycle_31 : decode cX18_cycle 31 = .ok (.ifCond .ne 173, 3) := by decide +kernel
theorem dX18_cycle_34 : decode cX18_cycle 34 = .ok (.aload_n 0, 1) := by decide +kernel
theorem dX18_cycle_35 : decode cX18_cycle 35 = .ok (.iload_n 2, 1) := by decide +kernel
theorem dX18_cycle_36 : decode cX18_cycle 36 = .ok (.bipush 6, 2) := by decide +kernel
theorem dX18_cycle_38 : decode cX18_cycle 38 = .ok (.invokevirtual 91, 3) := by decide +kernel
theorem dX18_cycle_41 : decode cX18_cycle 41 = .ok (.ifCond .ne 163, 3) := by decide +kernel
theorem dX18_cycle_44 : decode cX18_cycle 44 = .ok (.aload_n 0, 1) := by decide +kernel
theorem dX18_cycle_45 : decode cX18_cycle 45 = .ok (.iload_n 2, 1) := by decide +kernel
theorem dX18_cycle_46 : decode cX18_cycle 46 = .ok (.iconst 2, 1) := by decide +kernel
theorem dX18_cycle_47 : decode cX18_cycle 47 = .ok (.iconst 0, 1) := by decide +kernel
theorem dX18_cycle_48 : decode cX18_cycle 48 = .ok (.invokevirtual 95, 3) := by decide +kernel
theorem dX18_cycle_51 : decode cX18_cycle 51 = .ok (.aload_n 0, 1) := by decide +kernel
theorem dX18_cycle_52 : decode cX18_cycle 52 = .ok (.getfield 29, 3) := by decide +kernel
theorem dX18_cycle_55 : decode cX18_cycle 55 = .ok (.iload_n 2, 1) := by decide +kernel
theorem dX18_cycle_56 : decode cX18_cycle 56 = .ok (.aload_n 0, 1) := by decide +kernel
theorem dX18_cycle_57 : decode cX18_cycle 57 = .ok (.iload_n 2, 1) := by decide +kernel
theorem dX18_cycle_58 : decode cX18_cycle 58 = .ok (.iconst 3, 1) := by decide +kernel
theorem dX18_cycle_59 : decode cX18_cycle 59 = .ok (.invokevirtual 91, 3) := by decide +kernel
theorem dX18_cycle_62 : decode cX18_cycle 62 = .ok (.ifCond .eq 12, 3) := by decide +kernel
theorem dX18_cycle_65 : decode cX18_cycle 65 = .ok (.aload_n 0, 1) := by decide +kernel
theorem dX18_cycle_66 : decode cX18_cycle 66 = .ok (.getfield 29, 3) := by decide +kernel
theorem dX18_cycle_69 : decode cX18_cycle 69 = .ok (.iload_n 2, 1) := by decide +kernel
theorem dX18_cycle_70 : decode cX18_cycle 70 = .ok (.iaload, 1) := by decide +kernel
theorem dX18_cycle_71 : decode cX18_cycle 71 = .ok (.goto 4, 3) := by decide +kernel
theorem dX18_cycle_74 : decode cX18_cycle 74 = .ok (.iconst 0, 1) := by decide +kernel
theorem dX18_cycle_75 : decode cX18_cycle 75 = .ok (.iastore, 1) := by decide +kernel
theorem dX18_cycle_76 : decode cX18_cycle 76 = .ok (.aload_n 0, 1) := by decide +kernel
theorem dX18_cycle_77 : decode cX18_cycle 77 = .ok (.getfield 35, 3) := by decide +kernel
theorem dX18_cycle_80 : decode cX18_cycle 80 = .ok (.iload_n 2, 1) := by decide +kernel
theorem dX18_cycle_81 : decode cX18_cycle 81 = .ok (.aload_n 0, 1) := by decide +kernel
theorem dX18_cycle_82 : decode cX18_cycle 82 = .ok (.getfield 35, 3) := by decide +kernel
theorem dX18_cycle_85 : decode cX18_cycle 85 = .ok (.iload_n 2, 1) := by decide +kernel
theorem dX18_cycle_86 : decode cX18_cycle 86 = .ok (.iaload, 1) := by decide +kernel
theorem dX18_cycle_87 : decode cX18_cycle 87 = .ok (.sipush 255, 3) := by decide +kernel
theorem dX18_cycle_90 : decode cX18_cycle 90 = .ok (.if_icmp .ge 14, 3) := by decide +kernel
theorem dX18_cycle_93 : decode cX18_cycle 93 = .ok (.aload_n 0, 1) := by decide +kernel
theorem dX18_cycle_94 : decode cX18_cycle 94 = .ok (.getfield 35, 3) := by decide +kernel
theorem dX18_cycle_97 : decode cX18_cycle 97 = .ok (.iload_n 2, 1) := by decide +kernel
theorem dX18_cycle_98 : decode cX18_cycle 98 = .ok (.iaload, 1) := by decide +kernel
theorem dX18_cycle_99 : decode cX18_cycle 99 = .ok (.iconst 1, 1) := by decide +kernel
theorem dX18_cycle_100 : decode cX18_cycle 100 = .ok (.iadd, 1) := by decide +kernel
theorem dX18_cycle_101 : decode cX18_cycle 101 = .ok (.goto 6, 3) := by decide +kernel
theorem dX18_cycle_104 : decode cX18_cycle 104 = .ok (.sipush 255, 3) := by decide +kernel
theorem dX18_cycle_107 : decode cX18_cycle 107 = .ok (.iastore, 1) := by decide +kernel
theorem dX18_cycle_108 : decode cX18_cycle 108 = .ok (.aload_n 0, 1) := by decide +kernel
theorem dX18_cycle_109 : decode cX18_cycle 109 = .ok (.getfield 35, 3) := by decide +kernel
theorem dX18_cycle_112 : decode cX18_cycle 112 = .ok (.iload_n 2, 1) := by decide +kernel
theorem dX18_cycle_113 : decode cX18_cycle 113 = .ok (.iaload, 1) := by decide +kernel
theorem dX18_cycle_114 : decode cX18_cycle 114 = .ok (.iconst 2, 1) := by decide +kernel
theorem dX18_cycle_115 : decode cX18_cycle 115 = .ok (.if_icmp .le 11, 3) := by decide +kernel
theorem dX18_cycle_118 : decode cX18_cycle 118 = .ok (.aload_n 0, 1) := by decide +kernel
theorem dX18_cycle_119 : decode cX18_cycle 119 = .ok (.iload_n 2, 1) := by decide +kernel
theorem dX18_cycle_120 : decode cX18_cycle 120 = .ok (.bipush 7, 2) := by decide +kernel
theorem dX18_cycle_122 : decode cX18_cycle 122 = .ok (.iconst 0, 1) := by decide +kernel
theorem dX18_cycle_123 : decode cX18_cycle 123 = .ok (.invokevirtual 95, 3) := by decide +kernel
theorem dX18_cycle_126 : decode cX18_cycle 126 = .ok (.iload_n 1, 1) := by decide +kernel
theorem dX18_cycle_127 : decode cX18_cycle 127 = .ok (.ifCond .eq 31, 3) := by decide +kernel
theorem dX18_cycle_130 : decode cX18_cycle 130 = .ok (.aload_n 0, 1) := by decide +kernel
theorem dX18_cycle_131 : decode cX18_cycle 131 = .ok (.iload_n 2, 1) := by decide +kernel
theorem dX18_cycle_132 : decode cX18_cycle 132 = .ok (.iconst 3, 1) := by decide +kernel
theorem dX18_cycle_133 : decode cX18_cycle 133 = .ok (.invokevirtual 91, 3) := by decide +kernel
theorem dX18_cycle_136 : decode cX18_cycle 136 = .ok (.ifCond .eq 22, 3) := by decide +kernel
theorem dX18_cycle_139 : decode cX18_cycle 139 = .ok (.aload_n 0, 1) := by decide +kernel
theorem dX18_cycle_140 : decode cX18_cycle 140 = .ok (.iload_n 2, 1) := by decide +kernel
theorem dX18_cycle_141 : decode cX18_cycle 141 = .ok (.iconst 0, 1) := by decide +kernel
theorem dX18_cycle_142 : decode cX18_cycle 142 = .ok (.invokevirtual 91, 3) := by decide +kernel
theorem dX18_cycle_145 : decode cX18_cycle 145 = .ok (.ifCond .ne 13, 3) := by decide +kernel
theorem dX18_cycle_148 : decode cX18_cycle 148 = .ok (.aload_n 0, 1) := by decide +kernel
theorem dX18_cycle_149 : decode cX18_cycle 149 = .ok (.getfield 32, 3) := by decide +kernel
theorem dX18_cycle_152 : decode cX18_cycle 152 = .ok (.iload_n 2, 1) := by decide +kernel
theorem dX18_cycle_153 : decode cX18_cycle 153 = .ok (.dup2, 1) := by decide +kernel
theorem dX18_cycle_154 : decode cX18_cycle 154 = .ok (.iaload, 1) := by decide +kernel
theorem dX18_cycle_155 : decode cX18_cycle 155 = .ok (.iconst 1, 1) := by decide +kernel
theorem dX18_cycle_156 : decode cX18_cycle 156 = .ok (.iadd, 1) := by decide +kernel
theorem dX18_cycle_157 : decode cX18_cycle 157 = .ok (.iastore, 1) := by decide +kernel
theorem dX18_cycle_158 : decode cX18_cycle 158 = .ok (.aload_n 0, 1) := by decide +kernel
theorem dX18_cycle_159 : decode cX18_cycle 159 = .ok (.getfield 32, 3) := by decide +kernel
theorem dX18_cycle_162 : decode cX18_cycle 162 = .ok (.iload_n 2, 1) := by decide +kernel
theorem dX18_cycle_163 : decode cX18_cycle 163 = .ok (.iaload, 1) := by decide +kernel
theorem dX18_cycle_164 : decode cX18_cycle 164 = .ok (.bipush 40, 2) := by decide +kernel
theorem dX18_cycle_166 : decode cX18_cycle 166 = .ok (.if_icmp .ne 38, 3) := by decide +kernel
theorem dX18_cycle_169 : decode cX18_cycle 169 = .ok (.aload_n 0, 1) := by decide +kernel
theorem dX18_cycle_170 : decode cX18_cycle 170 = .ok (.iload_n 2, 1) := by decide +kernel
theorem dX18_cycle_171 : decode cX18_cycle 171 = .ok (.iconst 3, 1) := by decide +kernel
theorem dX18_cycle_172 : decode cX18_cycle 172 = .ok (.iconst 0, 1) := by decide +kernel
theorem dX18_cycle_173 : decode cX18_cycle 173 = .ok (.invokevirtual 95, 3) := by decide +kernel
theorem dX18_cycle_176 : decode cX18_cycle 176 = .ok (.aload_n 0, 1) := by decide +kernel
theorem dX18_cycle_177 : decode cX18_cycle 177 = .ok (.getfield 29, 3) := by decide +kernel
theorem dX18_cycle_180 : decode cX18_cycle 180 = .ok (.iload_n 2, 1) := by decide +kernel
theorem dX18_cycle_181 : decode cX18_cycle 181 = .ok (.iconst 0, 1) := by decide +kernel
theorem dX18_cycle_182 : decode cX18_cycle 182 = .ok (.iastore, 1) := by decide +kernel
theorem dX18_cycle_183 : decode cX18_cycle 183 = .ok (.aload_n 0, 1) := by decide +kernel
theorem dX18_cycle_184 : decode cX18_cycle 184 = .ok (.getfield 32, 3) := by decide +kernel
theorem dX18_cycle_187 : decode cX18_cycle 187 = .ok (.iload_n 2, 1) := by decide +kernel
theorem dX18_cycle_188 : decode cX18_cycle 188 = .ok (.iconst 0, 1) := by decide +kernel
theorem dX18_cycle_189 : decode cX18_cycle 189 = .ok (.iastore, 1) := by decide +kernel
theorem dX18_cycle_190 : decode cX18_cycle 190 = .ok (.aload_n 0, 1) := by decide +kernel
theorem dX18_cycle_191 : decode cX18_cycle 191 = .ok (.getfield 35, 3) := by decide +kernel
theorem dX18_cycle_194 : decode cX18_cycle 194 = .ok (.iload_n 2, 1) := by decide +kernel
theorem dX18_cycle_195 : decode cX18_cycle 195 = .ok (.iconst 0, 1) := by decide +kernel
theorem dX18_cycle_196 : decode cX18_cycle 196 = .ok (.iastore, 1) := by decide +kernel
theorem dX18_cycle_197 : decode cX18_cycle 197 = .ok (.aload_n 0, 1) := by decide +kernel
theorem dX18_cycle_198 : decode cX18_cycle 198 = .ok (.getfield 50, 3) := by decide +kernel
theorem dX18_cycle_201 : decode cX18_cycle 201 = .ok (.iload_n 2, 1) := by decide +kernel
theorem dX18_cycle_202 : decode cX18_cycle 202 = .ok (.iconst 0, 1) := by decide +kernel
theorem dX18_cycle_203 : decode cX18_cycle 203 = .ok (.iastore, 1) := by decide +kernel
theorem dX18_cycle_204 : decode cX18_cycle 204 = .ok (.aload_n 0, 1) := by decide +kernel
theorem dX18_cycle_205 : decode cX18_cycle 205 = .ok (.iload_n 2, 1) := by decide +kernel
theorem dX18_cycle_206 : decode cX18_cycle 206 = .ok (.iconst 1, 1) := by decide +kernel
theorem dX18_cycle_207 : decode cX18_cycle 207 = .ok (.iconst 0, 1) := by decide +kernel
theorem dX18_cycle_208 : decode cX18_cycle 208 = .ok (.invokevirtual 95, 3) := by decide +kernel
theorem dX18_cycle_211 : decode cX18_cycle 211 = .ok (.aload_n 0, 1) := by decide +kernel
theorem dX18_cycle_212 : decode cX18_cycle 212 = .ok (.iload_n 2, 1) := by decide +kernel
theorem dX18_cycle_213 : decode cX18_cycle 213 = .ok (.bipush 6, 2) := by decide +kernel
theorem dX18_cycle_215 : decode cX18_cycle 215 = .ok (.iconst 1, 1) := by decide +kernel
theorem dX18_cycle_216 : decode cX18_cycle 216 = .ok (.invokevirtual 95, 3) := by decide +kernel
theorem dX18_cycle_219 : decode cX18_cycle 219 = .ok (.aload_n 0, 1) := by decide +kernel
theorem dX18_cycle_220 : decode cX18_cycle 220 = .ok (.iload_n 2, 1) := by decide +kernel
theorem dX18_cycle_221 : decode cX18_cycle 221 = .ok (.invokevirtual 103, 3) := by decide +kernel
theorem dX18_cycle_224 : decode cX18_cycle 224 = .ok (.iinc 2 1, 3) := by decide +kernel
theorem dX18_cycle_227 : decode cX18_cycle 227 = .ok (.goto (-210), 3) := by decide +kernel
theorem dX18_cycle_230 : decode cX18_cycle 230 = .ok (.aload_n 0, 1) := by decide +kernel
theorem dX18_cycle_231 : decode cX18_cycle 231 = .ok (.dup, 1) := by decide +kernel
theorem dX18_cycle_232 : decode cX18_cycle 232 = .ok (.getfield 82, 3) := by decide +kernel
theorem dX18_cycle_235 : decode cX18_cycle 235 = .ok (.iconst 1, 1) := by decide +kernel
theorem dX18_cycle_236 : decode cX18_cycle 236 = .ok (.iadd, 1) := by decide +kernel
theorem dX18_cycle_237 : decode cX18_cycle 237 = .ok (.putfield 82, 3) := by decide +kernel
theorem dX18_cycle_240 : decode cX18_cycle 240 = .ok (.aload_n 0, 1) := by decide +kernel
theorem dX18_cycle_241 : decode cX18_cycle 241 = .ok (.getfield 82, 3) := by decide +kernel
theorem dX18_cycle_244 : decode cX18_cycle 244 = .ok (.ireturn, 1) := by decide +kernel
theorem cwX18_cycle : mw_cwV yX18_cycle cX18_cycle 3 ((some .int)) 1 := ⟨⟨wd_18, wd_4313, by decide +kernel⟩, wd_4311, wd_4312⟩
set_option maxHeartbeats 4000000 in
set_option maxRecDepth 100000 in
theorem tX18_cycle (l : Launch) (G : mwG) (ad : Nat → Nat) (fu : Nat) (a1 : Int32) (M : mwM) (L : mwL) {r0 : Int32} {M0 : mwM} {L0 : mwL} (hD : DX18_cycle fu a1 M L = some (r0, M0, L0)) : Met l yX18_cycle (Cond.code yX18_cycle cX18_cycle 3 ((some .int)) :: GT) ({ frames := 2, cells := 0, slots := 0, locals := 44 }) (mw_Pre G ad NF TF FF M L [.ref (ad 902), .int a1]) (mw_Qi G ad NF TF FF (mw_eqI r0 M0 L0)) 0 0 (mw_fr G) := by
  refine mw_enter (by decide) (Nat.le_of_ble_eq_true rfl) ?_
  intro p e s m below meth c ls C hr hlocks hnm hw hl
  have hl : lv_has ls 3 [(0, .ref (ad 902)), (1, .int a1)] := hl
  have hh17 : ∀ (f : Nat) (v2 : Int32) (M : mwM) (L : mwL) (H : Heap) (locs : List Loc) (ls : Array Slot), fX18_cycle_h17 fu a1 f (v2, M, L) = some (r0, M0, L0) → mw_W G ad NF TF FF M L H locs → lv_has ls 3 [(0, .ref (ad 902)), (1, .int a1), (2, .int v2)] → W p l e ({ frames := 2, cells := 0, slots := 0, locals := 44 }) s m [.ref (ad 902), .int a1].toArray below meth c H locs 0 0 (MQ below (mw_Qi G ad NF TF FF (mw_eqI r0 M0 L0)) [.ref (ad 902), .int a1].toArray s 0 0 (mw_fr G)) (F0 m 17 ls []) := by
    intro f
    induction f with
    | zero => intro v2 M L H locs ls hD; cases hD
    | succ f17 ih17 =>
      intro v2 M L H locs ls hD hw hl
      replace hD : fX18_cycle_i17 fu a1 (fX18_cycle_h17 fu a1 f17) v2 M L = some (r0, M0, L0) := hD
      have hb204 : ∀ (v2 : Int32) (M : mwM) (L : mwL) (H : Heap) (locs : List Loc) (ls : Array Slot), fX18_cycle_b204 fu a1 (fX18_cycle_h17 fu a1 f17) v2 M L = some (r0, M0, L0) → mw_W G ad NF TF FF M L H locs → lv_has ls 3 [(0, .ref (ad 902)), (1, .int a1), (2, .int v2)] → W p l e ({ frames := 2, cells := 0, slots := 0, locals := 44 }) s m [.ref (ad 902), .int a1].toArray below meth c H locs 0 0 (MQ below (mw_Qi G ad NF TF FF (mw_eqI r0 M0 L0)) [.ref (ad 902), .int a1].toArray s 0 0 (mw_fr G)) (F0 m 204 ls []) := by
        intro v2 M L H locs ls hD hw hl
        unfold fX18_cycle_b204 at hD
        refine lv_aload_n C.1.1 C.1.2.1 dX18_cycle_204 rfl (lv_at hl 0 rfl) ?_
        refine lv_iload_n C.1.1 C.1.2.1 dX18_cycle_205 rfl (lv_at hl 2 rfl) ?_
        refine lv_iconst (v := 1) C.1.1 C.1.2.1 dX18_cycle_206 (by decide) ?_
        refine lv_iconst (v := 0) C.1.1 C.1.2.1 dX18_cycle_207 (by decide) ?_
        obtain ⟨M53, L54, h1, hD⟩ := g_b2 hD
        refine md_cvV (As := [.int v2, .int 1, .int 0]) (rest := []) C hw (tX18_set l G ad fu v2 1 0 M L h1) kc_18 (by decide) tf_902 wd_3379 cwX18_set ⟨Nat.le_of_ble_eq_true rfl, Nat.le_of_ble_eq_true rfl⟩ rfl hl.1 (Nat.le_of_ble_eq_true rfl) dX18_cycle_208 rfl rfl ⟨Nat.zero_le _, Nat.zero_le _⟩ rfl (fun H locs hw => ?_)
        refine lv_aload_n C.1.1 C.1.2.1 dX18_cycle_211 rfl (lv_at hl 0 rfl) ?_
        refine lv_iload_n C.1.1 C.1.2.1 dX18_cycle_212 rfl (lv_at hl 2 rfl) ?_
        refine lv_bipush (v := 6) C.1.1 C.1.2.1 dX18_cycle_213 (by decide) ?_
        refine lv_iconst (v := 1) C.1.1 C.1.2.1 dX18_cycle_215 (by decide) ?_
        obtain ⟨M55, L56, h1, hD⟩ := g_b2 hD
        refine md_cvV (As := [.int v2, .int 6, .int 1]) (rest := []) C hw (tX18_set l G ad fu v2 6 1 M53 L54 h1) kc_18 (by decide) tf_902 wd_3379 cwX18_set ⟨Nat.le_of_ble_eq_true rfl, Nat.le_of_ble_eq_true rfl⟩ rfl hl.1 (Nat.le_of_ble_eq_true rfl) dX18_cycle_216 rfl rfl ⟨Nat.zero_le _, Nat.zero_le _⟩ rfl (fun H locs hw => ?_)
        refine lv_aload_n C.1.1 C.1.2.1 dX18_cycle_219 rfl (lv_at hl 0 rfl) ?_
        refine lv_iload_n C.1.1 C.1.2.1 dX18_cycle_220 rfl (lv_at hl 2 rfl) ?_
        obtain ⟨M57, L58, h1, hD⟩ := g_b2 hD
        refine md_cvV (As := [.int v2]) (rest := []) C hw (tX18_keep l G ad fu v2 M55 L56 h1) kc_18 (by decide) tf_902 wd_3383 cwX18_keep ⟨Nat.le_of_ble_eq_true rfl, Nat.le_of_ble_eq_true rfl⟩ rfl hl.1 (Nat.le_of_ble_eq_true rfl) dX18_cycle_221 rfl rfl ⟨Nat.zero_le _, Nat.zero_le _⟩ rfl (fun H locs hw => ?_)
        obtain ⟨x59, ex59, hD⟩ := g_let hD
        refine lv_iinc (v := x59) (lv' := [(2, .int x59), (0, .ref (ad 902)), (1, .int a1)]) C.1.1 C.1.2.1 dX18_cycle_224 hl (k := 2) rfl (by rw [ex59]; rfl) (by decide) rfl (fun ls hl => ?_)
        refine lv_goto (tgt := 17) C.1.1 C.1.2.1 dX18_cycle_227 (by decide) ?_
        exact ih17 x59 M57 L58 _ _ ls hD hw (lv_sub hl [1, 2, 0] rfl)
      have hb158 : ∀ (v2 : Int32) (M : mwM) (L : mwL) (H : Heap) (locs : List Loc) (ls : Array Slot), fX18_cycle_b158 fu a1 (fX18_cycle_h17 fu a1 f17) v2 M L = some (r0, M0, L0) → mw_W G ad NF TF FF M L H locs → lv_has ls 3 [(0, .ref (ad 902)), (1, .int a1), (2, .int v2)] → W p l e ({ frames := 2, cells := 0, slots := 0, locals := 44 }) s m [.ref (ad 902), .int a1].toArray below meth c H locs 0 0 (MQ below (mw_Qi G ad NF TF FF (mw_eqI r0 M0 L0)) [.ref (ad 902), .int a1].toArray s 0 0 (mw_fr G)) (F0 m 158 ls []) := by
        intro v2 M L H locs ls hD hw hl
        unfold fX18_cycle_b158 at hD
        refine lv_aload_n C.1.1 C.1.2.1 dX18_cycle_158 rfl (lv_at hl 0 rfl) ?_
        refine mr_getR C hw kc_18 10 (by decide) tf_902 ff_902_10 wd_2477 dX18_cycle_159 (by decide) rfl ?_
        refine lv_iload_n C.1.1 C.1.2.1 dX18_cycle_162 rfl (lv_at hl 2 rfl) ?_
        obtain ⟨q41, hD⟩ := g_ck hD
        refine mr_iald C hw (by decide) tf_910 q41 dX18_cycle_163 ?_
        refine lv_bipush (v := 40) C.1.1 C.1.2.1 dX18_cycle_164 (by decide) ?_
        refine lv_icmp_ne (tgt := 204) C.1.1 C.1.2.1 dX18_cycle_166 (by decide) (fun c42 => ?_) (fun c42 => ?_)
        · replace hD := g_neg c42 hD
          exact hb204 v2 M L _ _ ls hD hw (lv_sub hl [0, 1, 2] rfl)
        · replace hD := g_pos c42 hD
          refine lv_aload_n C.1.1 C.1.2.1 dX18_cycle_169 rfl (lv_at hl 0 rfl) ?_
          refine lv_iload_n C.1.1 C.1.2.1 dX18_cycle_170 rfl (lv_at hl 2 rfl) ?_
          refine lv_iconst (v := 3) C.1.1 C.1.2.1 dX18_cycle_171 (by decide) ?_
          refine lv_iconst (v := 0) C.1.1 C.1.2.1 dX18_cycle_172 (by decide) ?_
          obtain ⟨M43, L44, h1, hD⟩ := g_b2 hD
          refine md_cvV (As := [.int v2, .int 3, .int 0]) (rest := []) C hw (tX18_set l G ad fu v2 3 0 M L h1) kc_18 (by decide) tf_902 wd_3379 cwX18_set ⟨Nat.le_of_ble_eq_true rfl, Nat.le_of_ble_eq_true rfl⟩ rfl hl.1 (Nat.le_of_ble_eq_true rfl) dX18_cycle_173 rfl rfl ⟨Nat.zero_le _, Nat.zero_le _⟩ rfl (fun H locs hw => ?_)
          refine lv_aload_n C.1.1 C.1.2.1 dX18_cycle_176 rfl (lv_at hl 0 rfl) ?_
          refine mr_getR C hw kc_18 9 (by decide) tf_902 ff_902_9 wd_2476 dX18_cycle_177 (by decide) rfl ?_
          refine lv_iload_n C.1.1 C.1.2.1 dX18_cycle_180 rfl (lv_at hl 2 rfl) ?_
          refine lv_iconst (v := 0) C.1.1 C.1.2.1 dX18_cycle_181 (by decide) ?_
          obtain ⟨q45, hD⟩ := g_ck hD
          obtain ⟨M46, eM46, hD⟩ := g_let hD
          refine mr_iast C hw (by decide) tf_909 q45 dX18_cycle_182 (fun H locs hw => ?_)
          replace hw : mw_W G ad NF TF FF M46 L44 H locs := by rw [eM46]; exact hw
          refine lv_aload_n C.1.1 C.1.2.1 dX18_cycle_183 rfl (lv_at hl 0 rfl) ?_
          refine mr_getR C hw kc_18 10 (by decide) tf_902 ff_902_10 wd_2477 dX18_cycle_184 (by decide) rfl ?_
          refine lv_iload_n C.1.1 C.1.2.1 dX18_cycle_187 rfl (lv_at hl 2 rfl) ?_
          refine lv_iconst (v := 0) C.1.1 C.1.2.1 dX18_cycle_188 (by decide) ?_
          obtain ⟨q47, hD⟩ := g_ck hD
          obtain ⟨M48, eM48, hD⟩ := g_let hD
          refine mr_iast C hw (by decide) tf_910 q47 dX18_cycle_189 (fun H locs hw => ?_)
          replace hw : mw_W G ad NF TF FF M48 L44 H locs := by rw [eM48]; exact hw
          refine lv_aload_n C.1.1 C.1.2.1 dX18_cycle_190 rfl (lv_at hl 0 rfl) ?_
          refine mr_getR C hw kc_18 11 (by decide) tf_902 ff_902_11 wd_2478 dX18_cycle_191 (by decide) rfl ?_
          refine lv_iload_n C.1.1 C.1.2.1 dX18_cycle_194 rfl (lv_at hl 2 rfl) ?_
          refine lv_iconst (v := 0) C.1.1 C.1.2.1 dX18_cycle_195 (by decide) ?_
          obtain ⟨q49, hD⟩ := g_ck hD
          obtain ⟨M50, eM50, hD⟩ := g_let hD
          refine mr_iast C hw (by decide) tf_911 q49 dX18_cycle_196 (fun H locs hw => ?_)
          replace hw : mw_W G ad NF TF FF M50 L44 H locs := by rw [eM50]; exact hw
          refine lv_aload_n C.1.1 C.1.2.1 dX18_cycle_197 rfl (lv_at hl 0 rfl) ?_
          refine mr_getR C hw kc_18 16 (by decide) tf_902 ff_902_16 wd_2483 dX18_cycle_198 (by decide) rfl ?_
          refine lv_iload_n C.1.1 C.1.2.1 dX18_cycle_201 rfl (lv_at hl 2 rfl) ?_
          refine lv_iconst (v := 0) C.1.1 C.1.2.1 dX18_cycle_202 (by decide) ?_
          obtain ⟨q51, hD⟩ := g_ck hD
          obtain ⟨M52, eM52, hD⟩ := g_let hD
          refine mr_iast C hw (by decide) tf_916 q51 dX18_cycle_203 (fun H locs hw => ?_)
          replace hw : mw_W G ad NF TF FF M52 L44 H locs := by rw [eM52]; exact hw
          exact hb204 v2 M52 L44 _ _ ls hD hw (lv_sub hl [0, 1, 2] rfl)
      have hb126 : ∀ (v2 : Int32) (M : mwM) (L : mwL) (H : Heap) (locs : List Loc) (ls : Array Slot), fX18_cycle_b126 fu a1 (fX18_cycle_h17 fu a1 f17) v2 M L = some (r0, M0, L0) → mw_W G ad NF TF FF M L H locs → lv_has ls 3 [(0, .ref (ad 902)), (1, .int a1), (2, .int v2)] → W p l e ({ frames := 2, cells := 0, slots := 0, locals := 44 }) s m [.ref (ad 902), .int a1].toArray below meth c H locs 0 0 (MQ below (mw_Qi G ad NF TF FF (mw_eqI r0 M0 L0)) [.ref (ad 902), .int a1].toArray s 0 0 (mw_fr G)) (F0 m 126 ls []) := by
        intro v2 M L H locs ls hD hw hl
        unfold fX18_cycle_b126 at hD
        refine lv_iload_n C.1.1 C.1.2.1 dX18_cycle_126 rfl (lv_at hl 1 rfl) ?_
        refine lv_if_eq (tgt := 158) C.1.1 C.1.2.1 dX18_cycle_127 (by decide) (fun c29 => ?_) (fun c29 => ?_)
        · replace hD := g_pos c29 hD
          exact hb158 v2 M L _ _ ls hD hw (lv_sub hl [0, 1, 2] rfl)
        · replace hD := g_neg c29 hD
          refine lv_aload_n C.1.1 C.1.2.1 dX18_cycle_130 rfl (lv_at hl 0 rfl) ?_
          refine lv_iload_n C.1.1 C.1.2.1 dX18_cycle_131 rfl (lv_at hl 2 rfl) ?_
          refine lv_iconst (v := 3) C.1.1 C.1.2.1 dX18_cycle_132 (by decide) ?_
          obtain ⟨r32, M30, L31, h1, hD⟩ := g_b3 hD
          refine md_cvI (As := [.int v2, .int 3]) (rest := []) C hw (tX18_is l G ad fu v2 3 M L h1) kc_18 (by decide) tf_902 wd_3387 cwX18_is ⟨Nat.le_of_ble_eq_true rfl, Nat.le_of_ble_eq_true rfl⟩ rfl hl.1 (Nat.le_of_ble_eq_true rfl) dX18_cycle_133 rfl rfl ⟨Nat.zero_le _, Nat.zero_le _⟩ rfl (fun H locs hw => ?_)
          refine lv_if_eq (tgt := 158) C.1.1 C.1.2.1 dX18_cycle_136 (by decide) (fun c33 => ?_) (fun c33 => ?_)
          · replace hD := g_pos c33 hD
            exact hb158 v2 M30 L31 _ _ ls hD hw (lv_sub hl [0, 1, 2] rfl)
          · replace hD := g_neg c33 hD
            refine lv_aload_n C.1.1 C.1.2.1 dX18_cycle_139 rfl (lv_at hl 0 rfl) ?_
            refine lv_iload_n C.1.1 C.1.2.1 dX18_cycle_140 rfl (lv_at hl 2 rfl) ?_
            refine lv_iconst (v := 0) C.1.1 C.1.2.1 dX18_cycle_141 (by decide) ?_
            obtain ⟨r36, M34, L35, h1, hD⟩ := g_b3 hD
            refine md_cvI (As := [.int v2, .int 0]) (rest := []) C hw (tX18_is l G ad fu v2 0 M30 L31 h1) kc_18 (by decide) tf_902 wd_3387 cwX18_is ⟨Nat.le_of_ble_eq_true rfl, Nat.le_of_ble_eq_true rfl⟩ rfl hl.1 (Nat.le_of_ble_eq_true rfl) dX18_cycle_142 rfl rfl ⟨Nat.zero_le _, Nat.zero_le _⟩ rfl (fun H locs hw => ?_)
            refine lv_if_ne (tgt := 158) C.1.1 C.1.2.1 dX18_cycle_145 (by decide) (fun c37 => ?_) (fun c37 => ?_)
            · replace hD := g_neg c37 hD
              exact hb158 v2 M34 L35 _ _ ls hD hw (lv_sub hl [0, 1, 2] rfl)
            · replace hD := g_pos c37 hD
              refine lv_aload_n C.1.1 C.1.2.1 dX18_cycle_148 rfl (lv_at hl 0 rfl) ?_
              refine mr_getR C hw kc_18 10 (by decide) tf_902 ff_902_10 wd_2477 dX18_cycle_149 (by decide) rfl ?_
              refine lv_iload_n C.1.1 C.1.2.1 dX18_cycle_152 rfl (lv_at hl 2 rfl) ?_
              refine lv_dup2_11 C.1.1 C.1.2.1 dX18_cycle_153 rfl rfl ?_
              obtain ⟨q38, hD⟩ := g_ck hD
              refine mr_iald C hw (by decide) tf_910 q38 dX18_cycle_154 ?_
              refine lv_iconst (v := 1) C.1.1 C.1.2.1 dX18_cycle_155 (by decide) ?_
              refine lv_iadd C.1.1 C.1.2.1 dX18_cycle_156 ?_
              obtain ⟨q39, hD⟩ := g_ck hD
              obtain ⟨M40, eM40, hD⟩ := g_let hD
              refine mr_iast C hw (by decide) tf_910 q39 dX18_cycle_157 (fun H locs hw => ?_)
              replace hw : mw_W G ad NF TF FF M40 L35 H locs := by rw [eM40]; exact hw
              exact hb158 v2 M40 L35 _ _ ls hD hw (lv_sub hl [0, 1, 2] rfl)
      have hb107 : ∀ (v2 : Int32) (s1 : Int32) (s2 : Int32) (M : mwM) (L : mwL) (H : Heap) (locs : List Loc) (ls : Array Slot), fX18_cycle_b107 fu a1 (fX18_cycle_h17 fu a1 f17) v2 s1 s2 M L = some (r0, M0, L0) → mw_W G ad NF TF FF M L H locs → lv_has ls 3 [(0, .ref (ad 902)), (1, .int a1), (2, .int v2)] → W p l e ({ frames := 2, cells := 0, slots := 0, locals := 44 }) s m [.ref (ad 902), .int a1].toArray below meth c H locs 0 0 (MQ below (mw_Qi G ad NF TF FF (mw_eqI r0 M0 L0)) [.ref (ad 902), .int a1].toArray s 0 0 (mw_fr G)) (F0 m 107 ls [.int s2, .int s1, .ref (ad 911)]) := by
        intro v2 s1 s2 M L H locs ls hD hw hl
        unfold fX18_cycle_b107 at hD
        obtain ⟨q23, hD⟩ := g_ck hD
        obtain ⟨M24, eM24, hD⟩ := g_let hD
        refine mr_iast C hw (by decide) tf_911 q23 dX18_cycle_107 (fun H locs hw => ?_)
        replace hw : mw_W G ad NF TF FF M24 L H locs := by rw [eM24]; exact hw
        refine lv_aload_n C.1.1 C.1.2.1 dX18_cycle_108 rfl (lv_at hl 0 rfl) ?_
        refine mr_getR C hw kc_18 11 (by decide) tf_902 ff_902_11 wd_2478 dX18_cycle_109 (by decide) rfl ?_
        refine lv_iload_n C.1.1 C.1.2.1 dX18_cycle_112 rfl (lv_at hl 2 rfl) ?_
        obtain ⟨q25, hD⟩ := g_ck hD
        refine mr_iald C hw (by decide) tf_911 q25 dX18_cycle_113 ?_
        refine lv_iconst (v := 2) C.1.1 C.1.2.1 dX18_cycle_114 (by decide) ?_
        refine lv_icmp_le (tgt := 126) C.1.1 C.1.2.1 dX18_cycle_115 (by decide) (fun c26 => ?_) (fun c26 => ?_)
        · replace hD := g_pos c26 hD
          exact hb126 v2 M24 L _ _ ls hD hw (lv_sub hl [0, 1, 2] rfl)
        · replace hD := g_neg c26 hD
          refine lv_aload_n C.1.1 C.1.2.1 dX18_cycle_118 rfl (lv_at hl 0 rfl) ?_
          refine lv_iload_n C.1.1 C.1.2.1 dX18_cycle_119 rfl (lv_at hl 2 rfl) ?_
          refine lv_bipush (v := 7) C.1.1 C.1.2.1 dX18_cycle_120 (by decide) ?_
          refine lv_iconst (v := 0) C.1.1 C.1.2.1 dX18_cycle_122 (by decide) ?_
          obtain ⟨M27, L28, h1, hD⟩ := g_b2 hD
          refine md_cvV (As := [.int v2, .int 7, .int 0]) (rest := []) C hw (tX18_set l G ad fu v2 7 0 M24 L h1) kc_18 (by decide) tf_902 wd_3379 cwX18_set ⟨Nat.le_of_ble_eq_true rfl, Nat.le_of_ble_eq_true rfl⟩ rfl hl.1 (Nat.le_of_ble_eq_true rfl) dX18_cycle_123 rfl rfl ⟨Nat.zero_le _, Nat.zero_le _⟩ rfl (fun H locs hw => ?_)
          exact hb126 v2 M27 L28 _ _ ls hD hw (lv_sub hl [0, 1, 2] rfl)
      have hb75 : ∀ (v2 : Int32) (s1 : Int32) (s2 : Int32) (M : mwM) (L : mwL) (H : Heap) (locs : List Loc) (ls : Array Slot), fX18_cycle_b75 fu a1 (fX18_cycle_h17 fu a1 f17) v2 s1 s2 M L = some (r0, M0, L0) → mw_W G ad NF TF FF M L H locs → lv_has ls 3 [(0, .ref (ad 902)), (1, .int a1), (2, .int v2)] → W p l e ({ frames := 2, cells := 0, slots := 0, locals := 44 }) s m [.ref (ad 902), .int a1].toArray below meth c H locs 0 0 (MQ below (mw_Qi G ad NF TF FF (mw_eqI r0 M0 L0)) [.ref (ad 902), .int a1].toArray s 0 0 (mw_fr G)) (F0 m 75 ls [.int s2, .int s1, .ref (ad 909)]) := by
        intro v2 s1 s2 M L H locs ls hD hw hl
        unfold fX18_cycle_b75 at hD
        obtain ⟨q18, hD⟩ := g_ck hD
        obtain ⟨M19, eM19, hD⟩ := g_let hD
        refine mr_iast C hw (by decide) tf_909 q18 dX18_cycle_75 (fun H locs hw => ?_)
        replace hw : mw_W G ad NF TF FF M19 L H locs := by rw [eM19]; exact hw
        refine lv_aload_n C.1.1 C.1.2.1 dX18_cycle_76 rfl (lv_at hl 0 rfl) ?_
        refine mr_getR C hw kc_18 11 (by decide) tf_902 ff_902_11 wd_2478 dX18_cycle_77 (by decide) rfl ?_
        refine lv_iload_n C.1.1 C.1.2.1 dX18_cycle_80 rfl (lv_at hl 2 rfl) ?_
        refine lv_aload_n C.1.1 C.1.2.1 dX18_cycle_81 rfl (lv_at hl 0 rfl) ?_
        refine mr_getR C hw kc_18 11 (by decide) tf_902 ff_902_11 wd_2478 dX18_cycle_82 (by decide) rfl ?_
        refine lv_iload_n C.1.1 C.1.2.1 dX18_cycle_85 rfl (lv_at hl 2 rfl) ?_
        obtain ⟨q20, hD⟩ := g_ck hD
        refine mr_iald C hw (by decide) tf_911 q20 dX18_cycle_86 ?_
        refine lv_sipush (v := 255) C.1.1 C.1.2.1 dX18_cycle_87 (by decide) ?_
        refine lv_icmp_ge (tgt := 104) C.1.1 C.1.2.1 dX18_cycle_90 (by decide) (fun c21 => ?_) (fun c21 => ?_)
        · replace hD := g_pos c21 hD
          refine lv_sipush (v := 255) C.1.1 C.1.2.1 dX18_cycle_104 (by decide) ?_
          exact hb107 v2 v2 255 M19 L _ _ ls hD hw (lv_sub hl [0, 1, 2] rfl)
        · replace hD := g_neg c21 hD
          refine lv_aload_n C.1.1 C.1.2.1 dX18_cycle_93 rfl (lv_at hl 0 rfl) ?_
          refine mr_getR C hw kc_18 11 (by decide) tf_902 ff_902_11 wd_2478 dX18_cycle_94 (by decide) rfl ?_
          refine lv_iload_n C.1.1 C.1.2.1 dX18_cycle_97 rfl (lv_at hl 2 rfl) ?_
          obtain ⟨q22, hD⟩ := g_ck hD
          refine mr_iald C hw (by decide) tf_911 q22 dX18_cycle_98 ?_
          refine lv_iconst (v := 1) C.1.1 C.1.2.1 dX18_cycle_99 (by decide) ?_
          refine lv_iadd C.1.1 C.1.2.1 dX18_cycle_100 ?_
          refine lv_goto (tgt := 107) C.1.1 C.1.2.1 dX18_cycle_101 (by decide) ?_
          exact hb107 v2 v2 ((M19 911 v2.toNatClampNeg) + 1) M19 L _ _ ls hD hw (lv_sub hl [0, 1, 2] rfl)
      unfold fX18_cycle_i17 at hD
      refine lv_iload_n C.1.1 C.1.2.1 dX18_cycle_17 rfl (lv_at hl 2 rfl) ?_
      refine lv_aload_n C.1.1 C.1.2.1 dX18_cycle_18 rfl (lv_at hl 0 rfl) ?_
      refine mr_getI C hw kc_18 2 (by decide) tf_902 wd_2469 dX18_cycle_19 (by decide) rfl ?_
      refine lv_icmp_gt (tgt := 230) C.1.1 C.1.2.1 dX18_cycle_22 (by decide) (fun c1 => ?_) (fun c1 => ?_)
      · replace hD := g_pos c1 hD
        refine lv_aload_n C.1.1 C.1.2.1 dX18_cycle_230 rfl (lv_at hl 0 rfl) ?_
        refine lv_dup C.1.1 C.1.2.1 dX18_cycle_231 rfl ?_
        refine mr_getI C hw kc_18 24 (by decide) tf_902 wd_2491 dX18_cycle_232 (by decide) rfl ?_
        refine lv_iconst (v := 1) C.1.1 C.1.2.1 dX18_cycle_235 (by decide) ?_
        refine lv_iadd C.1.1 C.1.2.1 dX18_cycle_236 ?_
        obtain ⟨M2, eM2, hD⟩ := g_let hD
        refine mr_putI C hw kc_18 24 (by decide) tf_902 wd_2491 dX18_cycle_237 (by decide) rfl rfl rfl rfl (fun H locs hw => ?_)
        replace hw : mw_W G ad NF TF FF M2 L H locs := by rw [eM2]; exact hw
        refine lv_aload_n C.1.1 C.1.2.1 dX18_cycle_240 rfl (lv_at hl 0 rfl) ?_
        refine mr_getI C hw kc_18 24 (by decide) tf_902 wd_2491 dX18_cycle_241 (by decide) rfl ?_
        exact mr_iret C hr hlocks hw rfl (Option.some.inj hD) dX18_cycle_244
      · replace hD := g_neg c1 hD
        refine lv_aload_n C.1.1 C.1.2.1 dX18_cycle_25 rfl (lv_at hl 0 rfl) ?_
        refine lv_iload_n C.1.1 C.1.2.1 dX18_cycle_26 rfl (lv_at hl 2 rfl) ?_
        refine lv_iconst (v := 1) C.1.1 C.1.2.1 dX18_cycle_27 (by decide) ?_
        obtain ⟨r5, M3, L4, h1, hD⟩ := g_b3 hD
        refine md_cvI (As := [.int v2, .int 1]) (rest := []) C hw (tX18_is l G ad fu v2 1 M L h1) kc_18 (by decide) tf_902 wd_3387 cwX18_is ⟨Nat.le_of_ble_eq_true rfl, Nat.le_of_ble_eq_true rfl⟩ rfl hl.1 (Nat.le_of_ble_eq_true rfl) dX18_cycle_28 rfl rfl ⟨Nat.zero_le _, Nat.zero_le _⟩ rfl (fun H locs hw => ?_)
        refine lv_if_ne (tgt := 204) C.1.1 C.1.2.1 dX18_cycle_31 (by decide) (fun c6 => ?_) (fun c6 => ?_)
        · replace hD := g_neg c6 hD
          exact hb204 v2 M3 L4 _ _ ls hD hw (lv_sub hl [0, 1, 2] rfl)
        · replace hD := g_pos c6 hD
          refine lv_aload_n C.1.1 C.1.2.1 dX18_cycle_34 rfl (lv_at hl 0 rfl) ?_
          refine lv_iload_n C.1.1 C.1.2.1 dX18_cycle_35 rfl (lv_at hl 2 rfl) ?_
          refine lv_bipush (v := 6) C.1.1 C.1.2.1 dX18_cycle_36 (by decide) ?_
          obtain ⟨r9, M7, L8, h1, hD⟩ := g_b3 hD
          refine md_cvI (As := [.int v2, .int 6]) (rest := []) C hw (tX18_is l G ad fu v2 6 M3 L4 h1) kc_18 (by decide) tf_902 wd_3387 cwX18_is ⟨Nat.le_of_ble_eq_true rfl, Nat.le_of_ble_eq_true rfl⟩ rfl hl.1 (Nat.le_of_ble_eq_true rfl) dX18_cycle_38 rfl rfl ⟨Nat.zero_le _, Nat.zero_le _⟩ rfl (fun H locs hw => ?_)
          refine lv_if_ne (tgt := 204) C.1.1 C.1.2.1 dX18_cycle_41 (by decide) (fun c10 => ?_) (fun c10 => ?_)
          · replace hD := g_neg c10 hD
            exact hb204 v2 M7 L8 _ _ ls hD hw (lv_sub hl [0, 1, 2] rfl)
          · replace hD := g_pos c10 hD
            refine lv_aload_n C.1.1 C.1.2.1 dX18_cycle_44 rfl (lv_at hl 0 rfl) ?_
            refine lv_iload_n C.1.1 C.1.2.1 dX18_cycle_45 rfl (lv_at hl 2 rfl) ?_
            refine lv_iconst (v := 2) C.1.1 C.1.2.1 dX18_cycle_46 (by decide) ?_
            refine lv_iconst (v := 0) C.1.1 C.1.2.1 dX18_cycle_47 (by decide) ?_
            obtain ⟨M11, L12, h1, hD⟩ := g_b2 hD
            refine md_cvV (As := [.int v2, .int 2, .int 0]) (rest := []) C hw (tX18_set l G ad fu v2 2 0 M7 L8 h1) kc_18 (by decide) tf_902 wd_3379 cwX18_set ⟨Nat.le_of_ble_eq_true rfl, Nat.le_of_ble_eq_true rfl⟩ rfl hl.1 (Nat.le_of_ble_eq_true rfl) dX18_cycle_48 rfl rfl ⟨Nat.zero_le _, Nat.zero_le _⟩ rfl (fun H locs hw => ?_)
            refine lv_aload_n C.1.1 C.1.2.1 dX18_cycle_51 rfl (lv_at hl 0 rfl) ?_
            refine mr_getR C hw kc_18 9 (by decide) tf_902 ff_902_9 wd_2476 dX18_cycle_52 (by decide) rfl ?_
            refine lv_iload_n C.1.1 C.1.2.1 dX18_cycle_55 rfl (lv_at hl 2 rfl) ?_
            refine lv_aload_n C.1.1 C.1.2.1 dX18_cycle_56 rfl (lv_at hl 0 rfl) ?_
            refine lv_iload_n C.1.1 C.1.2.1 dX18_cycle_57 rfl (lv_at hl 2 rfl) ?_
            refine lv_iconst (v := 3) C.1.1 C.1.2.1 dX18_cycle_58 (by decide) ?_
            obtain ⟨r15, M13, L14, h1, hD⟩ := g_b3 hD
            refine md_cvI (As := [.int v2, .int 3]) (rest := [.int v2, .ref (ad 909)]) C hw (tX18_is l G ad fu v2 3 M11 L12 h1) kc_18 (by decide) tf_902 wd_3387 cwX18_is ⟨Nat.le_of_ble_eq_true rfl, Nat.le_of_ble_eq_true rfl⟩ rfl hl.1 (Nat.le_of_ble_eq_true rfl) dX18_cycle_59 rfl rfl ⟨Nat.zero_le _, Nat.zero_le _⟩ rfl (fun H locs hw => ?_)
            refine lv_if_eq (tgt := 74) C.1.1 C.1.2.1 dX18_cycle_62 (by decide) (fun c16 => ?_) (fun c16 => ?_)
            · replace hD := g_pos c16 hD
              refine lv_iconst (v := 0) C.1.1 C.1.2.1 dX18_cycle_74 (by decide) ?_
              exact hb75 v2 v2 0 M13 L14 _ _ ls hD hw (lv_sub hl [0, 1, 2] rfl)
            · replace hD := g_neg c16 hD
              refine lv_aload_n C.1.1 C.1.2.1 dX18_cycle_65 rfl (lv_at hl 0 rfl) ?_
              refine mr_getR C hw kc_18 9 (by decide) tf_902 ff_902_9 wd_2476 dX18_cycle_66 (by decide) rfl ?_
              refine lv_iload_n C.1.1 C.1.2.1 dX18_cycle_69 rfl (lv_at hl 2 rfl) ?_
              obtain ⟨q17, hD⟩ := g_ck hD
              refine mr_iald C hw (by decide) tf_909 q17 dX18_cycle_70 ?_
              refine lv_goto (tgt := 75) C.1.1 C.1.2.1 dX18_cycle_71 (by decide) ?_
              exact hb75 v2 v2 (M13 909 v2.toNatClampNeg) M13 L14 _ _ ls hD hw (lv_sub hl [0, 1, 2] rfl)
  unfold DX18_cycle at hD
  refine lv_aload_n C.1.1 C.1.2.1 dX18_cycle_0 rfl (lv_at hl 0 rfl) ?_
  refine lv_iconst (v := 0) C.1.1 C.1.2.1 dX18_cycle_1 (by decide) ?_
  obtain ⟨M60, eM60, hD⟩ := g_let hD
  refine mr_putI C hw kc_18 0 (by decide) tf_902 wd_2467 dX18_cycle_2 (by decide) rfl rfl rfl rfl (fun H locs hw => ?_)
  replace hw : mw_W G ad NF TF FF M60 L H locs := by rw [eM60]; exact hw
  refine lv_aload_n C.1.1 C.1.2.1 dX18_cycle_5 rfl (lv_at hl 0 rfl) ?_
  refine mr_getI C hw kc_18 23 (by decide) tf_902 wd_2490 dX18_cycle_6 (by decide) rfl ?_
  refine lv_if_eq (tgt := 15) C.1.1 C.1.2.1 dX18_cycle_9 (by decide) (fun c61 => ?_) (fun c61 => ?_)
  · replace hD := g_pos c61 hD
    refine lv_iconst (v := 1) C.1.1 C.1.2.1 dX18_cycle_15 (by decide) ?_
    refine lv_istore_n (lv' := [(2, .int 1), (0, .ref (ad 902)), (1, .int a1)]) C.1.1 C.1.2.1 dX18_cycle_16 rfl hl (by decide) rfl (fun ls hl => ?_)
    exact hh17 fu 1 M60 L _ _ ls hD hw (lv_sub hl [1, 2, 0] rfl)
  · replace hD := g_neg c61 hD
    refine lv_bipush (v := (-3)) C.1.1 C.1.2.1 dX18_cycle_12 (by decide) ?_
    exact mr_iret C hr hlocks hw rfl (Option.some.inj hD) dX18_cycle_14

theorem dX18_status_0 : decode cX18_status 0 = .ok (.aload_n 0, 1) := by decide +kernel
theorem dX18_status_1 : decode cX18_status 1 = .ok (.iload_n 1, 1) := by decide +kernel
theorem dX18_status_2 : decode cX18_status 2 = .ok (.invokevirtual 128, 3) := by decide +kernel
theorem dX18_status_5 : decode cX18_status 5 = .ok (.ifCond .eq 7, 3) := by decide +kernel
theorem dX18_status_8 : decode cX18_status 8 = .ok (.iconst (-1), 1) := by decide +kernel
theorem dX18_status_9 : decode cX18_status 9 = .ok (.goto 8, 3) := by decide +kernel
theorem dX18_status_12 : decode cX18_status 12 = .ok (.aload_n 0, 1) := by decide +kernel
theorem dX18_status_13 : decode cX18_status 13 = .ok (.iload_n 1, 1) := by decide +kernel
theorem dX18_status_14 : decode cX18_status 14 = .ok (.invokevirtual 131, 3) := by decide +kernel
theorem dX18_status_17 : decode cX18_status 17 = .ok (.ireturn, 1) := by decide +kernel
theorem cwX18_status : mw_cwV yX18_status cX18_status 2 ((some .int)) 1 := ⟨⟨wd_18, wd_4023, by decide +kernel⟩, wd_4021, wd_4022⟩
set_option maxHeartbeats 4000000 in
set_option maxRecDepth 100000 in
theorem tX18_status (l : Launch) (G : mwG) (ad : Nat → Nat) (fu : Nat) (a1 : Int32) (M : mwM) (L : mwL) {r0 : Int32} {M0 : mwM} {L0 : mwL} (hD : DX18_status fu a1 M L = some (r0, M0, L0)) : Met l yX18_status (Cond.code yX18_status cX18_status 2 ((some .int)) :: GT) ({ frames := 2, cells := 0, slots := 0, locals := 45 }) (mw_Pre G ad NF TF FF M L [.ref (ad 902), .int a1]) (mw_Qi G ad NF TF FF (mw_eqI r0 M0 L0)) 0 0 (mw_fr G) := by
  refine mw_enter (by decide) (Nat.le_of_ble_eq_true rfl) ?_
  intro p e s m below meth c ls C hr hlocks hnm hw hl
  have hl : lv_has ls 2 [(0, .ref (ad 902)), (1, .int a1)] := hl
  have hb17 : ∀ (s0 : Int32) (M : mwM) (L : mwL) (H : Heap) (locs : List Loc) (ls : Array Slot), fX18_status_b17 fu a1 s0 M L = some (r0, M0, L0) → mw_W G ad NF TF FF M L H locs → lv_has ls 2 [] → W p l e ({ frames := 2, cells := 0, slots := 0, locals := 45 }) s m [.ref (ad 902), .int a1].toArray below meth c H locs 0 0 (MQ below (mw_Qi G ad NF TF FF (mw_eqI r0 M0 L0)) [.ref (ad 902), .int a1].toArray s 0 0 (mw_fr G)) (F0 m 17 ls [.int s0]) := by
    intro s0 M L H locs ls hD hw hl
    unfold fX18_status_b17 at hD
    exact mr_iret C hr hlocks hw rfl (Option.some.inj hD) dX18_status_17
  unfold DX18_status at hD
  refine lv_aload_n C.1.1 C.1.2.1 dX18_status_0 rfl (lv_at hl 0 rfl) ?_
  refine lv_iload_n C.1.1 C.1.2.1 dX18_status_1 rfl (lv_at hl 1 rfl) ?_
  obtain ⟨r3, M1, L2, h1, hD⟩ := g_b3 hD
  refine md_cvI (As := [.int a1]) (rest := []) C hw (tX18_none l G ad fu a1 M L h1) kc_18 (by decide) tf_902 wd_3884 cwX18_none ⟨Nat.le_of_ble_eq_true rfl, Nat.le_of_ble_eq_true rfl⟩ rfl hl.1 (Nat.le_of_ble_eq_true rfl) dX18_status_2 rfl rfl ⟨Nat.zero_le _, Nat.zero_le _⟩ rfl (fun H locs hw => ?_)
  refine lv_if_eq (tgt := 12) C.1.1 C.1.2.1 dX18_status_5 (by decide) (fun c4 => ?_) (fun c4 => ?_)
  · replace hD := g_pos c4 hD
    refine lv_aload_n C.1.1 C.1.2.1 dX18_status_12 rfl (lv_at hl 0 rfl) ?_
    refine lv_iload_n C.1.1 C.1.2.1 dX18_status_13 rfl (lv_at hl 1 rfl) ?_
    obtain ⟨r7, M5, L6, h1, hD⟩ := g_b3 hD
    refine md_cvI (As := [.int a1]) (rest := []) C hw (tX18_statusOf l G ad fu a1 M1 L2 h1) kc_18 (by decide) tf_902 wd_3888 cwX18_statusOf ⟨Nat.le_of_ble_eq_true rfl, Nat.le_of_ble_eq_true rfl⟩ rfl hl.1 (Nat.le_of_ble_eq_true rfl) dX18_status_14 rfl rfl ⟨Nat.zero_le _, Nat.zero_le _⟩ rfl (fun H locs hw => ?_)
    exact hb17 r7 M5 L6 _ _ ls hD hw (lv_sub hl [] rfl)
  · replace hD := g_neg c4 hD
    refine lv_iconst (v := (-1)) C.1.1 C.1.2.1 dX18_status_8 (by decide) ?_
    refine lv_goto (tgt := 17) C.1.1 C.1.2.1 dX18_status_9 (by decide) ?_
    exact hb17 ((-1)) M1 L2 _ _ ls hD hw (lv_sub hl [] rfl)

theorem dX18_snapshot_0 : decode cX18_snapshot 0 = .ok (.aload_n 0, 1) := by decide +kernel
theorem dX18_snapshot_1 : decode cX18_snapshot 1 = .ok (.iload_n 1, 1) := by decide +kernel
theorem dX18_snapshot_2 : decode cX18_snapshot 2 = .ok (.invokevirtual 128, 3) := by decide +kernel
theorem dX18_snapshot_5 : decode cX18_snapshot 5 = .ok (.ifCond .ne 12, 3) := by decide +kernel
theorem dX18_snapshot_8 : decode cX18_snapshot 8 = .ok (.aload_n 0, 1) := by decide +kernel
theorem dX18_snapshot_9 : decode cX18_snapshot 9 = .ok (.getfield 50, 3) := by decide +kernel
theorem dX18_snapshot_12 : decode cX18_snapshot 12 = .ok (.iload_n 1, 1) := by decide +kernel
theorem dX18_snapshot_13 : decode cX18_snapshot 13 = .ok (.iaload, 1) := by decide +kernel
theorem dX18_snapshot_14 : decode cX18_snapshot 14 = .ok (.ifCond .ne 5, 3) := by decide +kernel
theorem dX18_snapshot_17 : decode cX18_snapshot 17 = .ok (.iconst (-1), 1) := by decide +kernel
theorem dX18_snapshot_18 : decode cX18_snapshot 18 = .ok (.ireturn, 1) := by decide +kernel
theorem dX18_snapshot_19 : decode cX18_snapshot 19 = .ok (.iload_n 2, 1) := by decide +kernel
theorem dX18_snapshot_20 : decode cX18_snapshot 20 = .ok (.ifCond .lt 17, 3) := by decide +kernel
theorem dX18_snapshot_23 : decode cX18_snapshot 23 = .ok (.iload_n 2, 1) := by decide +kernel
theorem dX18_snapshot_24 : decode cX18_snapshot 24 = .ok (.iconst 1, 1) := by decide +kernel
theorem dX18_snapshot_25 : decode cX18_snapshot 25 = .ok (.if_icmp .gt 12, 3) := by decide +kernel
theorem dX18_snapshot_28 : decode cX18_snapshot 28 = .ok (.iload_n 3, 1) := by decide +kernel
theorem dX18_snapshot_29 : decode cX18_snapshot 29 = .ok (.ifCond .lt 8, 3) := by decide +kernel
theorem dX18_snapshot_32 : decode cX18_snapshot 32 = .ok (.iload_n 3, 1) := by decide +kernel
theorem dX18_snapshot_33 : decode cX18_snapshot 33 = .ok (.iconst 3, 1) := by decide +kernel
theorem dX18_snapshot_34 : decode cX18_snapshot 34 = .ok (.if_icmp .le 6, 3) := by decide +kernel
theorem dX18_snapshot_37 : decode cX18_snapshot 37 = .ok (.bipush (-2), 2) := by decide +kernel
theorem dX18_snapshot_39 : decode cX18_snapshot 39 = .ok (.ireturn, 1) := by decide +kernel
theorem dX18_snapshot_40 : decode cX18_snapshot 40 = .ok (.aload_n 0, 1) := by decide +kernel
theorem dX18_snapshot_41 : decode cX18_snapshot 41 = .ok (.getfield 56, 3) := by decide +kernel
theorem dX18_snapshot_44 : decode cX18_snapshot 44 = .ok (.bipush 8, 2) := by decide +kernel
theorem dX18_snapshot_46 : decode cX18_snapshot 46 = .ok (.iload_n 1, 1) := by decide +kernel
theorem dX18_snapshot_47 : decode cX18_snapshot 47 = .ok (.imul, 1) := by decide +kernel
theorem dX18_snapshot_48 : decode cX18_snapshot 48 = .ok (.iconst 4, 1) := by decide +kernel
theorem dX18_snapshot_49 : decode cX18_snapshot 49 = .ok (.iload_n 2, 1) := by decide +kernel
theorem dX18_snapshot_50 : decode cX18_snapshot 50 = .ok (.imul, 1) := by decide +kernel
theorem dX18_snapshot_51 : decode cX18_snapshot 51 = .ok (.iadd, 1) := by decide +kernel
theorem dX18_snapshot_52 : decode cX18_snapshot 52 = .ok (.iload_n 3, 1) := by decide +kernel
theorem dX18_snapshot_53 : decode cX18_snapshot 53 = .ok (.iadd, 1) := by decide +kernel
theorem dX18_snapshot_54 : decode cX18_snapshot 54 = .ok (.iaload, 1) := by decide +kernel
theorem dX18_snapshot_55 : decode cX18_snapshot 55 = .ok (.ireturn, 1) := by decide +kernel
theorem cwX18_snapshot : mw_cwV yX18_snapshot cX18_snapshot 4 ((some .int)) 3 := ⟨⟨wd_18, wd_4305, by decide +kernel⟩, wd_4303, wd_4304⟩
set_option maxHeartbeats 4000000 in
set_option maxRecDepth 100000 in
theorem tX18_snapshot (l : Launch) (G : mwG) (ad : Nat → Nat) (fu : Nat) (a1 : Int32) (a2 : Int32) (a3 : Int32) (M : mwM) (L : mwL) {r0 : Int32} {M0 : mwM} {L0 : mwL} (hD : DX18_snapshot fu a1 a2 a3 M L = some (r0, M0, L0)) : Met l yX18_snapshot (Cond.code yX18_snapshot cX18_snapshot 4 ((some .int)) :: GT) ({ frames := 1, cells := 0, slots := 0, locals := 21 }) (mw_Pre G ad NF TF FF M L [.ref (ad 902), .int a1, .int a2, .int a3]) (mw_Qi G ad NF TF FF (mw_eqI r0 M0 L0)) 0 0 (mw_fr G) := by
  refine mw_enter (by decide) (Nat.le_of_ble_eq_true rfl) ?_
  intro p e s m below meth c ls C hr hlocks hnm hw hl
  have hl : lv_has ls 4 [(0, .ref (ad 902)), (1, .int a1), (2, .int a2), (3, .int a3)] := hl
  have hb17 : ∀ (M : mwM) (L : mwL) (H : Heap) (locs : List Loc) (ls : Array Slot), fX18_snapshot_b17 fu a1 a2 a3 M L = some (r0, M0, L0) → mw_W G ad NF TF FF M L H locs → lv_has ls 4 [] → W p l e ({ frames := 1, cells := 0, slots := 0, locals := 21 }) s m [.ref (ad 902), .int a1, .int a2, .int a3].toArray below meth c H locs 0 0 (MQ below (mw_Qi G ad NF TF FF (mw_eqI r0 M0 L0)) [.ref (ad 902), .int a1, .int a2, .int a3].toArray s 0 0 (mw_fr G)) (F0 m 17 ls []) := by
    intro M L H locs ls hD hw hl
    unfold fX18_snapshot_b17 at hD
    refine lv_iconst (v := (-1)) C.1.1 C.1.2.1 dX18_snapshot_17 (by decide) ?_
    exact mr_iret C hr hlocks hw rfl (Option.some.inj hD) dX18_snapshot_18
  have hb37 : ∀ (M : mwM) (L : mwL) (H : Heap) (locs : List Loc) (ls : Array Slot), fX18_snapshot_b37 fu a1 a2 a3 M L = some (r0, M0, L0) → mw_W G ad NF TF FF M L H locs → lv_has ls 4 [] → W p l e ({ frames := 1, cells := 0, slots := 0, locals := 21 }) s m [.ref (ad 902), .int a1, .int a2, .int a3].toArray below meth c H locs 0 0 (MQ below (mw_Qi G ad NF TF FF (mw_eqI r0 M0 L0)) [.ref (ad 902), .int a1, .int a2, .int a3].toArray s 0 0 (mw_fr G)) (F0 m 37 ls []) := by
    intro M L H locs ls hD hw hl
    unfold fX18_snapshot_b37 at hD
    refine lv_bipush (v := (-2)) C.1.1 C.1.2.1 dX18_snapshot_37 (by decide) ?_
    exact mr_iret C hr hlocks hw rfl (Option.some.inj hD) dX18_snapshot_39
  unfold DX18_snapshot at hD
  refine lv_aload_n C.1.1 C.1.2.1 dX18_snapshot_0 rfl (lv_at hl 0 rfl) ?_
  refine lv_iload_n C.1.1 C.1.2.1 dX18_snapshot_1 rfl (lv_at hl 1 rfl) ?_
  obtain ⟨r3, M1, L2, h1, hD⟩ := g_b3 hD
  refine md_cvI (As := [.int a1]) (rest := []) C hw (tX18_none l G ad fu a1 M L h1) kc_18 (by decide) tf_902 wd_3884 cwX18_none ⟨Nat.le_of_ble_eq_true rfl, Nat.le_of_ble_eq_true rfl⟩ rfl hl.1 (Nat.le_of_ble_eq_true rfl) dX18_snapshot_2 rfl rfl ⟨Nat.zero_le _, Nat.zero_le _⟩ rfl (fun H locs hw => ?_)
  refine lv_if_ne (tgt := 17) C.1.1 C.1.2.1 dX18_snapshot_5 (by decide) (fun c4 => ?_) (fun c4 => ?_)
  · replace hD := g_neg c4 hD
    exact hb17 M1 L2 _ _ ls hD hw (lv_sub hl [] rfl)
  · replace hD := g_pos c4 hD
    refine lv_aload_n C.1.1 C.1.2.1 dX18_snapshot_8 rfl (lv_at hl 0 rfl) ?_
    refine mr_getR C hw kc_18 16 (by decide) tf_902 ff_902_16 wd_2483 dX18_snapshot_9 (by decide) rfl ?_
    refine lv_iload_n C.1.1 C.1.2.1 dX18_snapshot_12 rfl (lv_at hl 1 rfl) ?_
    obtain ⟨q5, hD⟩ := g_ck hD
    refine mr_iald C hw (by decide) tf_916 q5 dX18_snapshot_13 ?_
    refine lv_if_ne (tgt := 19) C.1.1 C.1.2.1 dX18_snapshot_14 (by decide) (fun c6 => ?_) (fun c6 => ?_)
    · replace hD := g_neg c6 hD
      refine lv_iload_n C.1.1 C.1.2.1 dX18_snapshot_19 rfl (lv_at hl 2 rfl) ?_
      refine lv_if_lt (tgt := 37) C.1.1 C.1.2.1 dX18_snapshot_20 (by decide) (fun c7 => ?_) (fun c7 => ?_)
      · replace hD := g_pos c7 hD
        exact hb37 M1 L2 _ _ ls hD hw (lv_sub hl [] rfl)
      · replace hD := g_neg c7 hD
        refine lv_iload_n C.1.1 C.1.2.1 dX18_snapshot_23 rfl (lv_at hl 2 rfl) ?_
        refine lv_iconst (v := 1) C.1.1 C.1.2.1 dX18_snapshot_24 (by decide) ?_
        refine lv_icmp_gt (tgt := 37) C.1.1 C.1.2.1 dX18_snapshot_25 (by decide) (fun c8 => ?_) (fun c8 => ?_)
        · replace hD := g_pos c8 hD
          exact hb37 M1 L2 _ _ ls hD hw (lv_sub hl [] rfl)
        · replace hD := g_neg c8 hD
          refine lv_iload_n C.1.1 C.1.2.1 dX18_snapshot_28 rfl (lv_at hl 3 rfl) ?_
          refine lv_if_lt (tgt := 37) C.1.1 C.1.2.1 dX18_snapshot_29 (by decide) (fun c9 => ?_) (fun c9 => ?_)
          · replace hD := g_pos c9 hD
            exact hb37 M1 L2 _ _ ls hD hw (lv_sub hl [] rfl)
          · replace hD := g_neg c9 hD
            refine lv_iload_n C.1.1 C.1.2.1 dX18_snapshot_32 rfl (lv_at hl 3 rfl) ?_
            refine lv_iconst (v := 3) C.1.1 C.1.2.1 dX18_snapshot_33 (by decide) ?_
            refine lv_icmp_le (tgt := 40) C.1.1 C.1.2.1 dX18_snapshot_34 (by decide) (fun c10 => ?_) (fun c10 => ?_)
            · replace hD := g_pos c10 hD
              refine lv_aload_n C.1.1 C.1.2.1 dX18_snapshot_40 rfl (lv_at hl 0 rfl) ?_
              refine mr_getR C hw kc_18 18 (by decide) tf_902 ff_902_18 wd_2485 dX18_snapshot_41 (by decide) rfl ?_
              refine lv_bipush (v := 8) C.1.1 C.1.2.1 dX18_snapshot_44 (by decide) ?_
              refine lv_iload_n C.1.1 C.1.2.1 dX18_snapshot_46 rfl (lv_at hl 1 rfl) ?_
              refine lv_imul C.1.1 C.1.2.1 dX18_snapshot_47 ?_
              refine lv_iconst (v := 4) C.1.1 C.1.2.1 dX18_snapshot_48 (by decide) ?_
              refine lv_iload_n C.1.1 C.1.2.1 dX18_snapshot_49 rfl (lv_at hl 2 rfl) ?_
              refine lv_imul C.1.1 C.1.2.1 dX18_snapshot_50 ?_
              refine lv_iadd C.1.1 C.1.2.1 dX18_snapshot_51 ?_
              refine lv_iload_n C.1.1 C.1.2.1 dX18_snapshot_52 rfl (lv_at hl 3 rfl) ?_
              refine lv_iadd C.1.1 C.1.2.1 dX18_snapshot_53 ?_
              obtain ⟨q11, hD⟩ := g_ck hD
              refine mr_iald C hw (by decide) tf_918 q11 dX18_snapshot_54 ?_
              exact mr_iret C hr hlocks hw rfl (Option.some.inj hD) dX18_snapshot_55
            · replace hD := g_neg c10 hD
              exact hb37 M1 L2 _ _ ls hD hw (lv_sub hl [] rfl)
    · replace hD := g_pos c6 hD
      exact hb17 M1 L2 _ _ ls hD hw (lv_sub hl [] rfl)

theorem dX18_clear_0 : decode cX18_clear 0 = .ok (.aload_n 0, 1) := by decide +kernel
theorem dX18_clear_1 : decode cX18_clear 1 = .ok (.iconst 0, 1) := by decide +kernel
theorem dX18_clear_2 : decode cX18_clear 2 = .ok (.putfield 88, 3) := by decide +kernel
theorem dX18_clear_5 : decode cX18_clear 5 = .ok (.iload_n 1, 1) := by decide +kernel
theorem dX18_clear_6 : decode cX18_clear 6 = .ok (.ifCond .lt 9, 3) := by decide +kernel
theorem dX18_clear_9 : decode cX18_clear 9 = .ok (.iload_n 1, 1) := by decide +kernel
theorem dX18_clear_10 : decode cX18_clear 10 = .ok (.bipush 8, 2) := by decide +kernel
theorem dX18_clear_12 : decode cX18_clear 12 = .ok (.if_icmp .le 6, 3) := by decide +kernel
theorem dX18_clear_15 : decode cX18_clear 15 = .ok (.bipush (-2), 2) := by decide +kernel
theorem dX18_clear_17 : decode cX18_clear 17 = .ok (.ireturn, 1) := by decide +kernel
theorem dX18_clear_18 : decode cX18_clear 18 = .ok (.aload_n 0, 1) := by decide +kernel
theorem dX18_clear_19 : decode cX18_clear 19 = .ok (.getfield 78, 3) := by decide +kernel
theorem dX18_clear_22 : decode cX18_clear 22 = .ok (.ifCond .ne 13, 3) := by decide +kernel
theorem dX18_clear_25 : decode cX18_clear 25 = .ok (.aload_n 0, 1) := by decide +kernel
theorem dX18_clear_26 : decode cX18_clear 26 = .ok (.getfield 62, 3) := by decide +kernel
theorem dX18_clear_29 : decode cX18_clear 29 = .ok (.bipush 31, 2) := by decide +kernel
theorem dX18_clear_31 : decode cX18_clear 31 = .ok (.baload, 1) := by decide +kernel
theorem dX18_clear_32 : decode cX18_clear 32 = .ok (.ifCond .eq 6, 3) := by decide +kernel
theorem dX18_clear_35 : decode cX18_clear 35 = .ok (.bipush (-3), 2) := by decide +kernel
theorem dX18_clear_37 : decode cX18_clear 37 = .ok (.ireturn, 1) := by decide +kernel
theorem dX18_clear_38 : decode cX18_clear 38 = .ok (.iconst 0, 1) := by decide +kernel
theorem dX18_clear_39 : decode cX18_clear 39 = .ok (.istore_n 2, 1) := by decide +kernel
theorem dX18_clear_40 : decode cX18_clear 40 = .ok (.iconst 1, 1) := by decide +kernel
theorem dX18_clear_41 : decode cX18_clear 41 = .ok (.istore_n 3, 1) := by decide +kernel
theorem dX18_clear_42 : decode cX18_clear 42 = .ok (.iload_n 3, 1) := by decide +kernel
theorem dX18_clear_43 : decode cX18_clear 43 = .ok (.aload_n 0, 1) := by decide +kernel
theorem dX18_clear_44 : decode cX18_clear 44 = .ok (.getfield 69, 3) := by decide +kernel
theorem dX18_clear_47 : decode cX18_clear 47 = .ok (.if_icmp .gt 49, 3) := by decide +kernel
theorem dX18_clear_50 : decode cX18_clear 50 = .ok (.iload_n 1, 1) := by decide +kernel
theorem dX18_clear_51 : decode cX18_clear 51 = .ok (.ifCond .eq 19, 3) := by decide +kernel
theorem dX18_clear_54 : decode cX18_clear 54 = .ok (.aload_n 0, 1) := by decide +kernel
theorem dX18_clear_55 : decode cX18_clear 55 = .ok (.getfield 7, 3) := by decide +kernel
theorem dX18_clear_58 : decode cX18_clear 58 = .ok (.iload_n 3, 1) := by decide +kernel
theorem dX18_clear_59 : decode cX18_clear 59 = .ok (.iaload, 1) := by decide +kernel
theorem dX18_clear_60 : decode cX18_clear 60 = .ok (.bipush 31, 2) := by decide +kernel
theorem dX18_clear_62 : decode cX18_clear 62 = .ok (.iadd, 1) := by decide +kernel
theorem dX18_clear_63 : decode cX18_clear 63 = .ok (.bipush 32, 2) := by decide +kernel
theorem dX18_clear_65 : decode cX18_clear 65 = .ok (.idiv, 1) := by decide +kernel
theorem dX18_clear_66 : decode cX18_clear 66 = .ok (.iload_n 1, 1) := by decide +kernel
theorem dX18_clear_67 : decode cX18_clear 67 = .ok (.if_icmp .ne 23, 3) := by decide +kernel
theorem dX18_clear_70 : decode cX18_clear 70 = .ok (.aload_n 0, 1) := by decide +kernel
theorem dX18_clear_71 : decode cX18_clear 71 = .ok (.iload_n 3, 1) := by decide +kernel
theorem dX18_clear_72 : decode cX18_clear 72 = .ok (.invokevirtual 99, 3) := by decide +kernel
theorem dX18_clear_75 : decode cX18_clear 75 = .ok (.aload_n 0, 1) := by decide +kernel
theorem dX18_clear_76 : decode cX18_clear 76 = .ok (.iload_n 3, 1) := by decide +kernel
theorem dX18_clear_77 : decode cX18_clear 77 = .ok (.invokevirtual 103, 3) := by decide +kernel
theorem dX18_clear_80 : decode cX18_clear 80 = .ok (.aload_n 0, 1) := by decide +kernel
theorem dX18_clear_81 : decode cX18_clear 81 = .ok (.getfield 50, 3) := by decide +kernel
theorem dX18_clear_84 : decode cX18_clear 84 = .ok (.iload_n 3, 1) := by decide +kernel
theorem dX18_clear_85 : decode cX18_clear 85 = .ok (.iconst 0, 1) := by decide +kernel
theorem dX18_clear_86 : decode cX18_clear 86 = .ok (.iastore, 1) := by decide +kernel
theorem dX18_clear_87 : decode cX18_clear 87 = .ok (.iinc 2 1, 3) := by decide +kernel
theorem dX18_clear_90 : decode cX18_clear 90 = .ok (.iinc 3 1, 3) := by decide +kernel
theorem dX18_clear_93 : decode cX18_clear 93 = .ok (.goto (-51), 3) := by decide +kernel
theorem dX18_clear_96 : decode cX18_clear 96 = .ok (.iload_n 2, 1) := by decide +kernel
theorem dX18_clear_97 : decode cX18_clear 97 = .ok (.ireturn, 1) := by decide +kernel
theorem cwX18_clear : mw_cwV yX18_clear cX18_clear 4 ((some .int)) 1 := ⟨⟨wd_18, wd_4031, by decide +kernel⟩, wd_4029, wd_4030⟩
set_option maxHeartbeats 4000000 in
set_option maxRecDepth 100000 in
theorem tX18_clear (l : Launch) (G : mwG) (ad : Nat → Nat) (fu : Nat) (a1 : Int32) (M : mwM) (L : mwL) {r0 : Int32} {M0 : mwM} {L0 : mwL} (hD : DX18_clear fu a1 M L = some (r0, M0, L0)) : Met l yX18_clear (Cond.code yX18_clear cX18_clear 4 ((some .int)) :: GT) ({ frames := 2, cells := 0, slots := 0, locals := 45 }) (mw_Pre G ad NF TF FF M L [.ref (ad 902), .int a1]) (mw_Qi G ad NF TF FF (mw_eqI r0 M0 L0)) 0 0 (mw_fr G) := by
  refine mw_enter (by decide) (Nat.le_of_ble_eq_true rfl) ?_
  intro p e s m below meth c ls C hr hlocks hnm hw hl
  have hl : lv_has ls 4 [(0, .ref (ad 902)), (1, .int a1)] := hl
  have hb15 : ∀ (M : mwM) (L : mwL) (H : Heap) (locs : List Loc) (ls : Array Slot), fX18_clear_b15 fu a1 M L = some (r0, M0, L0) → mw_W G ad NF TF FF M L H locs → lv_has ls 4 [] → W p l e ({ frames := 2, cells := 0, slots := 0, locals := 45 }) s m [.ref (ad 902), .int a1].toArray below meth c H locs 0 0 (MQ below (mw_Qi G ad NF TF FF (mw_eqI r0 M0 L0)) [.ref (ad 902), .int a1].toArray s 0 0 (mw_fr G)) (F0 m 15 ls []) := by
    intro M L H locs ls hD hw hl
    unfold fX18_clear_b15 at hD
    refine lv_bipush (v := (-2)) C.1.1 C.1.2.1 dX18_clear_15 (by decide) ?_
    exact mr_iret C hr hlocks hw rfl (Option.some.inj hD) dX18_clear_17
  have hb35 : ∀ (M : mwM) (L : mwL) (H : Heap) (locs : List Loc) (ls : Array Slot), fX18_clear_b35 fu a1 M L = some (r0, M0, L0) → mw_W G ad NF TF FF M L H locs → lv_has ls 4 [] → W p l e ({ frames := 2, cells := 0, slots := 0, locals := 45 }) s m [.ref (ad 902), .int a1].toArray below meth c H locs 0 0 (MQ below (mw_Qi G ad NF TF FF (mw_eqI r0 M0 L0)) [.ref (ad 902), .int a1].toArray s 0 0 (mw_fr G)) (F0 m 35 ls []) := by
    intro M L H locs ls hD hw hl
    unfold fX18_clear_b35 at hD
    refine lv_bipush (v := (-3)) C.1.1 C.1.2.1 dX18_clear_35 (by decide) ?_
    exact mr_iret C hr hlocks hw rfl (Option.some.inj hD) dX18_clear_37
  have hh42 : ∀ (f : Nat) (v2 : Int32) (v3 : Int32) (M : mwM) (L : mwL) (H : Heap) (locs : List Loc) (ls : Array Slot), fX18_clear_h42 fu a1 f (v2, v3, M, L) = some (r0, M0, L0) → mw_W G ad NF TF FF M L H locs → lv_has ls 4 [(0, .ref (ad 902)), (1, .int a1), (2, .int v2), (3, .int v3)] → W p l e ({ frames := 2, cells := 0, slots := 0, locals := 45 }) s m [.ref (ad 902), .int a1].toArray below meth c H locs 0 0 (MQ below (mw_Qi G ad NF TF FF (mw_eqI r0 M0 L0)) [.ref (ad 902), .int a1].toArray s 0 0 (mw_fr G)) (F0 m 42 ls []) := by
    intro f
    induction f with
    | zero => intro v2 v3 M L H locs ls hD; cases hD
    | succ f42 ih42 =>
      intro v2 v3 M L H locs ls hD hw hl
      replace hD : fX18_clear_i42 fu a1 (fX18_clear_h42 fu a1 f42) v2 v3 M L = some (r0, M0, L0) := hD
      have hb90 : ∀ (v2 : Int32) (v3 : Int32) (M : mwM) (L : mwL) (H : Heap) (locs : List Loc) (ls : Array Slot), fX18_clear_b90 fu a1 (fX18_clear_h42 fu a1 f42) v2 v3 M L = some (r0, M0, L0) → mw_W G ad NF TF FF M L H locs → lv_has ls 4 [(0, .ref (ad 902)), (1, .int a1), (2, .int v2), (3, .int v3)] → W p l e ({ frames := 2, cells := 0, slots := 0, locals := 45 }) s m [.ref (ad 902), .int a1].toArray below meth c H locs 0 0 (MQ below (mw_Qi G ad NF TF FF (mw_eqI r0 M0 L0)) [.ref (ad 902), .int a1].toArray s 0 0 (mw_fr G)) (F0 m 90 ls []) := by
        intro v2 v3 M L H locs ls hD hw hl
        unfold fX18_clear_b90 at hD
        obtain ⟨x13, ex13, hD⟩ := g_let hD
        refine lv_iinc (v := x13) (lv' := [(3, .int x13), (0, .ref (ad 902)), (1, .int a1), (2, .int v2)]) C.1.1 C.1.2.1 dX18_clear_90 hl (k := 3) rfl (by rw [ex13]; rfl) (by decide) rfl (fun ls hl => ?_)
        refine lv_goto (tgt := 42) C.1.1 C.1.2.1 dX18_clear_93 (by decide) ?_
        exact ih42 v2 x13 M L _ _ ls hD hw (lv_sub hl [1, 2, 3, 0] rfl)
      have hb70 : ∀ (v2 : Int32) (v3 : Int32) (M : mwM) (L : mwL) (H : Heap) (locs : List Loc) (ls : Array Slot), fX18_clear_b70 fu a1 (fX18_clear_h42 fu a1 f42) v2 v3 M L = some (r0, M0, L0) → mw_W G ad NF TF FF M L H locs → lv_has ls 4 [(0, .ref (ad 902)), (1, .int a1), (2, .int v2), (3, .int v3)] → W p l e ({ frames := 2, cells := 0, slots := 0, locals := 45 }) s m [.ref (ad 902), .int a1].toArray below meth c H locs 0 0 (MQ below (mw_Qi G ad NF TF FF (mw_eqI r0 M0 L0)) [.ref (ad 902), .int a1].toArray s 0 0 (mw_fr G)) (F0 m 70 ls []) := by
        intro v2 v3 M L H locs ls hD hw hl
        unfold fX18_clear_b70 at hD
        refine lv_aload_n C.1.1 C.1.2.1 dX18_clear_70 rfl (lv_at hl 0 rfl) ?_
        refine lv_iload_n C.1.1 C.1.2.1 dX18_clear_71 rfl (lv_at hl 3 rfl) ?_
        obtain ⟨M6, L7, h1, hD⟩ := g_b2 hD
        refine md_cvV (As := [.int v3]) (rest := []) C hw (tX18_freshen l G ad fu v3 M L h1) kc_18 (by decide) tf_902 wd_3375 cwX18_freshen ⟨Nat.le_of_ble_eq_true rfl, Nat.le_of_ble_eq_true rfl⟩ rfl hl.1 (Nat.le_of_ble_eq_true rfl) dX18_clear_72 rfl rfl ⟨Nat.zero_le _, Nat.zero_le _⟩ rfl (fun H locs hw => ?_)
        refine lv_aload_n C.1.1 C.1.2.1 dX18_clear_75 rfl (lv_at hl 0 rfl) ?_
        refine lv_iload_n C.1.1 C.1.2.1 dX18_clear_76 rfl (lv_at hl 3 rfl) ?_
        obtain ⟨M8, L9, h1, hD⟩ := g_b2 hD
        refine md_cvV (As := [.int v3]) (rest := []) C hw (tX18_keep l G ad fu v3 M6 L7 h1) kc_18 (by decide) tf_902 wd_3383 cwX18_keep ⟨Nat.le_of_ble_eq_true rfl, Nat.le_of_ble_eq_true rfl⟩ rfl hl.1 (Nat.le_of_ble_eq_true rfl) dX18_clear_77 rfl rfl ⟨Nat.zero_le _, Nat.zero_le _⟩ rfl (fun H locs hw => ?_)
        refine lv_aload_n C.1.1 C.1.2.1 dX18_clear_80 rfl (lv_at hl 0 rfl) ?_
        refine mr_getR C hw kc_18 16 (by decide) tf_902 ff_902_16 wd_2483 dX18_clear_81 (by decide) rfl ?_
        refine lv_iload_n C.1.1 C.1.2.1 dX18_clear_84 rfl (lv_at hl 3 rfl) ?_
        refine lv_iconst (v := 0) C.1.1 C.1.2.1 dX18_clear_85 (by decide) ?_
        obtain ⟨q10, hD⟩ := g_ck hD
        obtain ⟨M11, eM11, hD⟩ := g_let hD
        refine mr_iast C hw (by decide) tf_916 q10 dX18_clear_86 (fun H locs hw => ?_)
        replace hw : mw_W G ad NF TF FF M11 L9 H locs := by rw [eM11]; exact hw
        obtain ⟨x12, ex12, hD⟩ := g_let hD
        refine lv_iinc (v := x12) (lv' := [(2, .int x12), (0, .ref (ad 902)), (1, .int a1), (3, .int v3)]) C.1.1 C.1.2.1 dX18_clear_87 hl (k := 2) rfl (by rw [ex12]; rfl) (by decide) rfl (fun ls hl => ?_)
        exact hb90 x12 v3 M11 L9 _ _ ls hD hw (lv_sub hl [1, 2, 0, 3] rfl)
      unfold fX18_clear_i42 at hD
      refine lv_iload_n C.1.1 C.1.2.1 dX18_clear_42 rfl (lv_at hl 3 rfl) ?_
      refine lv_aload_n C.1.1 C.1.2.1 dX18_clear_43 rfl (lv_at hl 0 rfl) ?_
      refine mr_getI C hw kc_18 2 (by decide) tf_902 wd_2469 dX18_clear_44 (by decide) rfl ?_
      refine lv_icmp_gt (tgt := 96) C.1.1 C.1.2.1 dX18_clear_47 (by decide) (fun c1 => ?_) (fun c1 => ?_)
      · replace hD := g_pos c1 hD
        refine lv_iload_n C.1.1 C.1.2.1 dX18_clear_96 rfl (lv_at hl 2 rfl) ?_
        exact mr_iret C hr hlocks hw rfl (Option.some.inj hD) dX18_clear_97
      · replace hD := g_neg c1 hD
        refine lv_iload_n C.1.1 C.1.2.1 dX18_clear_50 rfl (lv_at hl 1 rfl) ?_
        refine lv_if_eq (tgt := 70) C.1.1 C.1.2.1 dX18_clear_51 (by decide) (fun c2 => ?_) (fun c2 => ?_)
        · replace hD := g_pos c2 hD
          exact hb70 v2 v3 M L _ _ ls hD hw (lv_sub hl [0, 1, 2, 3] rfl)
        · replace hD := g_neg c2 hD
          refine lv_aload_n C.1.1 C.1.2.1 dX18_clear_54 rfl (lv_at hl 0 rfl) ?_
          refine mr_getR C hw kc_18 3 (by decide) tf_902 ff_902_3 wd_2470 dX18_clear_55 (by decide) rfl ?_
          refine lv_iload_n C.1.1 C.1.2.1 dX18_clear_58 rfl (lv_at hl 3 rfl) ?_
          obtain ⟨q3, hD⟩ := g_ck hD
          refine mr_iald C hw (by decide) tf_903 q3 dX18_clear_59 ?_
          refine lv_bipush (v := 31) C.1.1 C.1.2.1 dX18_clear_60 (by decide) ?_
          refine lv_iadd C.1.1 C.1.2.1 dX18_clear_62 ?_
          refine lv_bipush (v := 32) C.1.1 C.1.2.1 dX18_clear_63 (by decide) ?_
          refine lv_idiv C.1.1 C.1.2.1 dX18_clear_65 (by decide) ?_
          refine lv_iload_n C.1.1 C.1.2.1 dX18_clear_66 rfl (lv_at hl 1 rfl) ?_
          refine lv_icmp_ne (tgt := 90) C.1.1 C.1.2.1 dX18_clear_67 (by decide) (fun c5 => ?_) (fun c5 => ?_)
          · replace hD := g_neg c5 hD
            exact hb90 v2 v3 M L _ _ ls hD hw (lv_sub hl [0, 1, 2, 3] rfl)
          · replace hD := g_pos c5 hD
            exact hb70 v2 v3 M L _ _ ls hD hw (lv_sub hl [0, 1, 2, 3] rfl)
  unfold DX18_clear at hD
  refine lv_aload_n C.1.1 C.1.2.1 dX18_clear_0 rfl (lv_at hl 0 rfl) ?_
  refine lv_iconst (v := 0) C.1.1 C.1.2.1 dX18_clear_1 (by decide) ?_
  obtain ⟨M14, eM14, hD⟩ := g_let hD
  refine mr_putI C hw kc_18 0 (by decide) tf_902 wd_2467 dX18_clear_2 (by decide) rfl rfl rfl rfl (fun H locs hw => ?_)
  replace hw : mw_W G ad NF TF FF M14 L H locs := by rw [eM14]; exact hw
  refine lv_iload_n C.1.1 C.1.2.1 dX18_clear_5 rfl (lv_at hl 1 rfl) ?_
  refine lv_if_lt (tgt := 15) C.1.1 C.1.2.1 dX18_clear_6 (by decide) (fun c15 => ?_) (fun c15 => ?_)
  · replace hD := g_pos c15 hD
    exact hb15 M14 L _ _ ls hD hw (lv_sub hl [] rfl)
  · replace hD := g_neg c15 hD
    refine lv_iload_n C.1.1 C.1.2.1 dX18_clear_9 rfl (lv_at hl 1 rfl) ?_
    refine lv_bipush (v := 8) C.1.1 C.1.2.1 dX18_clear_10 (by decide) ?_
    refine lv_icmp_le (tgt := 18) C.1.1 C.1.2.1 dX18_clear_12 (by decide) (fun c16 => ?_) (fun c16 => ?_)
    · replace hD := g_pos c16 hD
      refine lv_aload_n C.1.1 C.1.2.1 dX18_clear_18 rfl (lv_at hl 0 rfl) ?_
      refine mr_getI C hw kc_18 23 (by decide) tf_902 wd_2490 dX18_clear_19 (by decide) rfl ?_
      refine lv_if_ne (tgt := 35) C.1.1 C.1.2.1 dX18_clear_22 (by decide) (fun c17 => ?_) (fun c17 => ?_)
      · replace hD := g_neg c17 hD
        exact hb35 M14 L _ _ ls hD hw (lv_sub hl [] rfl)
      · replace hD := g_pos c17 hD
        refine lv_aload_n C.1.1 C.1.2.1 dX18_clear_25 rfl (lv_at hl 0 rfl) ?_
        refine mr_getR C hw kc_18 22 (by decide) tf_902 ff_902_22 wd_2489 dX18_clear_26 (by decide) rfl ?_
        refine lv_bipush (v := 31) C.1.1 C.1.2.1 dX18_clear_29 (by decide) ?_
        refine mr_zald C hw (by decide) tf_920 (show vp_in 31 32 from by unfold vp_in; decide) dX18_clear_31 ?_
        refine lv_if_eq (tgt := 38) C.1.1 C.1.2.1 dX18_clear_32 (by decide) (fun c19 => ?_) (fun c19 => ?_)
        · replace hD := g_pos c19 hD
          refine lv_iconst (v := 0) C.1.1 C.1.2.1 dX18_clear_38 (by decide) ?_
          refine lv_istore_n (lv' := [(2, .int 0), (0, .ref (ad 902)), (1, .int a1)]) C.1.1 C.1.2.1 dX18_clear_39 rfl hl (by decide) rfl (fun ls hl => ?_)
          refine lv_iconst (v := 1) C.1.1 C.1.2.1 dX18_clear_40 (by decide) ?_
          refine lv_istore_n (lv' := [(3, .int 1), (2, .int 0), (0, .ref (ad 902)), (1, .int a1)]) C.1.1 C.1.2.1 dX18_clear_41 rfl hl (by decide) rfl (fun ls hl => ?_)
          exact hh42 fu 0 1 M14 L _ _ ls hD hw (lv_sub hl [2, 3, 1, 0] rfl)
        · replace hD := g_neg c19 hD
          exact hb35 M14 L _ _ ls hD hw (lv_sub hl [] rfl)
    · replace hD := g_neg c16 hD
      exact hb15 M14 L _ _ ls hD hw (lv_sub hl [] rfl)

theorem dX18_stored_0 : decode cX18_stored 0 = .ok (.aload_n 0, 1) := by decide +kernel
theorem dX18_stored_1 : decode cX18_stored 1 = .ok (.iconst 0, 1) := by decide +kernel
theorem dX18_stored_2 : decode cX18_stored 2 = .ok (.putfield 88, 3) := by decide +kernel
theorem dX18_stored_5 : decode cX18_stored 5 = .ok (.iload_n 1, 1) := by decide +kernel
theorem dX18_stored_6 : decode cX18_stored 6 = .ok (.iconst (-1), 1) := by decide +kernel
theorem dX18_stored_7 : decode cX18_stored 7 = .ok (.if_icmp .ne 12, 3) := by decide +kernel
theorem dX18_stored_10 : decode cX18_stored 10 = .ok (.iload_n 2, 1) := by decide +kernel
theorem dX18_stored_11 : decode cX18_stored 11 = .ok (.ifCond .ne 8, 3) := by decide +kernel
theorem dX18_stored_14 : decode cX18_stored 14 = .ok (.aload_n 0, 1) := by decide +kernel
theorem dX18_stored_15 : decode cX18_stored 15 = .ok (.invokevirtual 114, 3) := by decide +kernel
theorem dX18_stored_18 : decode cX18_stored 18 = .ok (.ireturn, 1) := by decide +kernel
theorem dX18_stored_19 : decode cX18_stored 19 = .ok (.iload_n 1, 1) := by decide +kernel
theorem dX18_stored_20 : decode cX18_stored 20 = .ok (.ifCond .lt 11, 3) := by decide +kernel
theorem dX18_stored_23 : decode cX18_stored 23 = .ok (.iload_n 1, 1) := by decide +kernel
theorem dX18_stored_24 : decode cX18_stored 24 = .ok (.aload_n 0, 1) := by decide +kernel
theorem dX18_stored_25 : decode cX18_stored 25 = .ok (.invokevirtual 114, 3) := by decide +kernel
theorem dX18_stored_28 : decode cX18_stored 28 = .ok (.if_icmp .lt 5, 3) := by decide +kernel
theorem dX18_stored_31 : decode cX18_stored 31 = .ok (.iconst (-1), 1) := by decide +kernel
theorem dX18_stored_32 : decode cX18_stored 32 = .ok (.ireturn, 1) := by decide +kernel
theorem dX18_stored_33 : decode cX18_stored 33 = .ok (.iload_n 2, 1) := by decide +kernel
theorem dX18_stored_34 : decode cX18_stored 34 = .ok (.ifCond .lt 8, 3) := by decide +kernel
theorem dX18_stored_37 : decode cX18_stored 37 = .ok (.iload_n 2, 1) := by decide +kernel
theorem dX18_stored_38 : decode cX18_stored 38 = .ok (.iconst 2, 1) := by decide +kernel
theorem dX18_stored_39 : decode cX18_stored 39 = .ok (.if_icmp .le 6, 3) := by decide +kernel
theorem dX18_stored_42 : decode cX18_stored 42 = .ok (.bipush (-2), 2) := by decide +kernel
theorem dX18_stored_44 : decode cX18_stored 44 = .ok (.ireturn, 1) := by decide +kernel
theorem dX18_stored_45 : decode cX18_stored 45 = .ok (.iconst 1, 1) := by decide +kernel
theorem dX18_stored_46 : decode cX18_stored 46 = .ok (.istore_n 3, 1) := by decide +kernel
theorem dX18_stored_47 : decode cX18_stored 47 = .ok (.iload_n 3, 1) := by decide +kernel
theorem dX18_stored_48 : decode cX18_stored 48 = .ok (.aload_n 0, 1) := by decide +kernel
theorem dX18_stored_49 : decode cX18_stored 49 = .ok (.getfield 69, 3) := by decide +kernel
theorem dX18_stored_52 : decode cX18_stored 52 = .ok (.if_icmp .gt 111, 3) := by decide +kernel
theorem dX18_stored_55 : decode cX18_stored 55 = .ok (.iconst 0, 1) := by decide +kernel
theorem dX18_stored_56 : decode cX18_stored 56 = .ok (.istore 4, 2) := by decide +kernel
theorem dX18_stored_58 : decode cX18_stored 58 = .ok (.iconst 1, 1) := by decide +kernel
theorem dX18_stored_59 : decode cX18_stored 59 = .ok (.istore 5, 2) := by decide +kernel
theorem dX18_stored_61 : decode cX18_stored 61 = .ok (.iload 5, 2) := by decide +kernel
theorem dX18_stored_63 : decode cX18_stored 63 = .ok (.aload_n 0, 1) := by decide +kernel
theorem dX18_stored_64 : decode cX18_stored 64 = .ok (.getfield 69, 3) := by decide +kernel
theorem dX18_stored_67 : decode cX18_stored 67 = .ok (.if_icmp .gt 46, 3) := by decide +kernel
theorem dX18_stored_70 : decode cX18_stored 70 = .ok (.aload_n 0, 1) := by decide +kernel
theorem dX18_stored_71 : decode cX18_stored 71 = .ok (.getfield 50, 3) := by decide +kernel
theorem dX18_stored_74 : decode cX18_stored 74 = .ok (.iload 5, 2) := by decide +kernel
theorem dX18_stored_76 : decode cX18_stored 76 = .ok (.iaload, 1) := by decide +kernel
theorem dX18_stored_77 : decode cX18_stored 77 = .ok (.ifCond .le 26, 3) := by decide +kernel
theorem dX18_stored_80 : decode cX18_stored 80 = .ok (.aload_n 0, 1) := by decide +kernel
theorem dX18_stored_81 : decode cX18_stored 81 = .ok (.getfield 50, 3) := by decide +kernel
theorem dX18_stored_84 : decode cX18_stored 84 = .ok (.iload 5, 2) := by decide +kernel
theorem dX18_stored_86 : decode cX18_stored 86 = .ok (.iaload, 1) := by decide +kernel
theorem dX18_stored_87 : decode cX18_stored 87 = .ok (.aload_n 0, 1) := by decide +kernel
theorem dX18_stored_88 : decode cX18_stored 88 = .ok (.getfield 50, 3) := by decide +kernel
theorem dX18_stored_91 : decode cX18_stored 91 = .ok (.iload_n 3, 1) := by decide +kernel
theorem dX18_stored_92 : decode cX18_stored 92 = .ok (.iaload, 1) := by decide +kernel
theorem dX18_stored_93 : decode cX18_stored 93 = .ok (.if_icmp .ge 10, 3) := by decide +kernel
theorem dX18_stored_96 : decode cX18_stored 96 = .ok (.iload 4, 2) := by decide +kernel
theorem dX18_stored_98 : decode cX18_stored 98 = .ok (.iconst 1, 1) := by decide +kernel
theorem dX18_stored_99 : decode cX18_stored 99 = .ok (.iadd, 1) := by decide +kernel
theorem dX18_stored_100 : decode cX18_stored 100 = .ok (.goto 5, 3) := by decide +kernel
theorem dX18_stored_103 : decode cX18_stored 103 = .ok (.iload 4, 2) := by decide +kernel
theorem dX18_stored_105 : decode cX18_stored 105 = .ok (.istore 4, 2) := by decide +kernel
theorem dX18_stored_107 : decode cX18_stored 107 = .ok (.iinc 5 1, 3) := by decide +kernel
theorem dX18_stored_110 : decode cX18_stored 110 = .ok (.goto (-49), 3) := by decide +kernel
theorem dX18_stored_113 : decode cX18_stored 113 = .ok (.aload_n 0, 1) := by decide +kernel
theorem dX18_stored_114 : decode cX18_stored 114 = .ok (.getfield 50, 3) := by decide +kernel
theorem dX18_stored_117 : decode cX18_stored 117 = .ok (.iload_n 3, 1) := by decide +kernel
theorem dX18_stored_118 : decode cX18_stored 118 = .ok (.iaload, 1) := by decide +kernel
theorem dX18_stored_119 : decode cX18_stored 119 = .ok (.ifCond .le 38, 3) := by decide +kernel
theorem dX18_stored_122 : decode cX18_stored 122 = .ok (.iload 4, 2) := by decide +kernel
theorem dX18_stored_124 : decode cX18_stored 124 = .ok (.iload_n 1, 1) := by decide +kernel
theorem dX18_stored_125 : decode cX18_stored 125 = .ok (.if_icmp .ne 32, 3) := by decide +kernel
theorem dX18_stored_128 : decode cX18_stored 128 = .ok (.iload_n 2, 1) := by decide +kernel
theorem dX18_stored_129 : decode cX18_stored 129 = .ok (.ifCond .ne 7, 3) := by decide +kernel
theorem dX18_stored_132 : decode cX18_stored 132 = .ok (.iload_n 3, 1) := by decide +kernel
theorem dX18_stored_133 : decode cX18_stored 133 = .ok (.goto 23, 3) := by decide +kernel
theorem dX18_stored_136 : decode cX18_stored 136 = .ok (.iload_n 2, 1) := by decide +kernel
theorem dX18_stored_137 : decode cX18_stored 137 = .ok (.iconst 1, 1) := by decide +kernel
theorem dX18_stored_138 : decode cX18_stored 138 = .ok (.if_icmp .ne 12, 3) := by decide +kernel
theorem dX18_stored_141 : decode cX18_stored 141 = .ok (.aload_n 0, 1) := by decide +kernel
theorem dX18_stored_142 : decode cX18_stored 142 = .ok (.getfield 53, 3) := by decide +kernel
theorem dX18_stored_145 : decode cX18_stored 145 = .ok (.iload_n 3, 1) := by decide +kernel
theorem dX18_stored_146 : decode cX18_stored 146 = .ok (.iaload, 1) := by decide +kernel
theorem dX18_stored_147 : decode cX18_stored 147 = .ok (.goto 9, 3) := by decide +kernel
theorem dX18_stored_150 : decode cX18_stored 150 = .ok (.aload_n 0, 1) := by decide +kernel
theorem dX18_stored_151 : decode cX18_stored 151 = .ok (.getfield 7, 3) := by decide +kernel
theorem dX18_stored_154 : decode cX18_stored 154 = .ok (.iload_n 3, 1) := by decide +kernel
theorem dX18_stored_155 : decode cX18_stored 155 = .ok (.iaload, 1) := by decide +kernel
theorem dX18_stored_156 : decode cX18_stored 156 = .ok (.ireturn, 1) := by decide +kernel
theorem dX18_stored_157 : decode cX18_stored 157 = .ok (.iinc 3 1, 3) := by decide +kernel
theorem dX18_stored_160 : decode cX18_stored 160 = .ok (.goto (-113), 3) := by decide +kernel
theorem dX18_stored_163 : decode cX18_stored 163 = .ok (.iconst (-1), 1) := by decide +kernel
theorem dX18_stored_164 : decode cX18_stored 164 = .ok (.ireturn, 1) := by decide +kernel
theorem cwX18_stored : mw_cwV yX18_stored cX18_stored 6 ((some .int)) 2 := ⟨⟨wd_18, wd_4019, by decide +kernel⟩, wd_4017, wd_4018⟩
set_option maxHeartbeats 4000000 in
set_option maxRecDepth 100000 in
theorem tX18_stored (l : Launch) (G : mwG) (ad : Nat → Nat) (fu : Nat) (a1 : Int32) (a2 : Int32) (M : mwM) (L : mwL) {r0 : Int32} {M0 : mwM} {L0 : mwL} (hD : DX18_stored fu a1 a2 M L = some (r0, M0, L0)) : Met l yX18_stored (Cond.code yX18_stored cX18_stored 6 ((some .int)) :: GT) ({ frames := 1, cells := 0, slots := 0, locals := 22 }) (mw_Pre G ad NF TF FF M L [.ref (ad 902), .int a1, .int a2]) (mw_Qi G ad NF TF FF (mw_eqI r0 M0 L0)) 0 0 (mw_fr G) := by
  refine mw_enter (by decide) (Nat.le_of_ble_eq_true rfl) ?_
  intro p e s m below meth c ls C hr hlocks hnm hw hl
  have hl : lv_has ls 6 [(0, .ref (ad 902)), (1, .int a1), (2, .int a2)] := hl
  have hb31 : ∀ (M : mwM) (L : mwL) (H : Heap) (locs : List Loc) (ls : Array Slot), fX18_stored_b31 fu a1 a2 M L = some (r0, M0, L0) → mw_W G ad NF TF FF M L H locs → lv_has ls 6 [] → W p l e ({ frames := 1, cells := 0, slots := 0, locals := 22 }) s m [.ref (ad 902), .int a1, .int a2].toArray below meth c H locs 0 0 (MQ below (mw_Qi G ad NF TF FF (mw_eqI r0 M0 L0)) [.ref (ad 902), .int a1, .int a2].toArray s 0 0 (mw_fr G)) (F0 m 31 ls []) := by
    intro M L H locs ls hD hw hl
    unfold fX18_stored_b31 at hD
    refine lv_iconst (v := (-1)) C.1.1 C.1.2.1 dX18_stored_31 (by decide) ?_
    exact mr_iret C hr hlocks hw rfl (Option.some.inj hD) dX18_stored_32
  have hb42 : ∀ (M : mwM) (L : mwL) (H : Heap) (locs : List Loc) (ls : Array Slot), fX18_stored_b42 fu a1 a2 M L = some (r0, M0, L0) → mw_W G ad NF TF FF M L H locs → lv_has ls 6 [] → W p l e ({ frames := 1, cells := 0, slots := 0, locals := 22 }) s m [.ref (ad 902), .int a1, .int a2].toArray below meth c H locs 0 0 (MQ below (mw_Qi G ad NF TF FF (mw_eqI r0 M0 L0)) [.ref (ad 902), .int a1, .int a2].toArray s 0 0 (mw_fr G)) (F0 m 42 ls []) := by
    intro M L H locs ls hD hw hl
    unfold fX18_stored_b42 at hD
    refine lv_bipush (v := (-2)) C.1.1 C.1.2.1 dX18_stored_42 (by decide) ?_
    exact mr_iret C hr hlocks hw rfl (Option.some.inj hD) dX18_stored_44
  have hb156 : ∀ (s0 : Int32) (M : mwM) (L : mwL) (H : Heap) (locs : List Loc) (ls : Array Slot), fX18_stored_b156 fu a1 a2 s0 M L = some (r0, M0, L0) → mw_W G ad NF TF FF M L H locs → lv_has ls 6 [] → W p l e ({ frames := 1, cells := 0, slots := 0, locals := 22 }) s m [.ref (ad 902), .int a1, .int a2].toArray below meth c H locs 0 0 (MQ below (mw_Qi G ad NF TF FF (mw_eqI r0 M0 L0)) [.ref (ad 902), .int a1, .int a2].toArray s 0 0 (mw_fr G)) (F0 m 156 ls [.int s0]) := by
    intro s0 M L H locs ls hD hw hl
    unfold fX18_stored_b156 at hD
    exact mr_iret C hr hlocks hw rfl (Option.some.inj hD) dX18_stored_156
  have hh47 : ∀ (f : Nat) (v3 : Int32) (M : mwM) (L : mwL) (H : Heap) (locs : List Loc) (ls : Array Slot), fX18_stored_h47 fu a1 a2 f (v3, M, L) = some (r0, M0, L0) → mw_W G ad NF TF FF M L H locs → lv_has ls 6 [(0, .ref (ad 902)), (1, .int a1), (2, .int a2), (3, .int v3)] → W p l e ({ frames := 1, cells := 0, slots := 0, locals := 22 }) s m [.ref (ad 902), .int a1, .int a2].toArray below meth c H locs 0 0 (MQ below (mw_Qi G ad NF TF FF (mw_eqI r0 M0 L0)) [.ref (ad 902), .int a1, .int a2].toArray s 0 0 (mw_fr G)) (F0 m 47 ls []) := by
    intro f
    induction f with
    | zero => intro v3 M L H locs ls hD; cases hD
    | succ f47 ih47 =>
      intro v3 M L H locs ls hD hw hl
      replace hD : fX18_stored_i47 fu a1 a2 (fX18_stored_h47 fu a1 a2 f47) v3 M L = some (r0, M0, L0) := hD
      have hb157 : ∀ (v3 : Int32) (M : mwM) (L : mwL) (H : Heap) (locs : List Loc) (ls : Array Slot), fX18_stored_b157 fu a1 a2 (fX18_stored_h47 fu a1 a2 f47) v3 M L = some (r0, M0, L0) → mw_W G ad NF TF FF M L H locs → lv_has ls 6 [(0, .ref (ad 902)), (1, .int a1), (2, .int a2), (3, .int v3)] → W p l e ({ frames := 1, cells := 0, slots := 0, locals := 22 }) s m [.ref (ad 902), .int a1, .int a2].toArray below meth c H locs 0 0 (MQ below (mw_Qi G ad NF TF FF (mw_eqI r0 M0 L0)) [.ref (ad 902), .int a1, .int a2].toArray s 0 0 (mw_fr G)) (F0 m 157 ls []) := by
        intro v3 M L H locs ls hD hw hl
        unfold fX18_stored_b157 at hD
        obtain ⟨x23, ex23, hD⟩ := g_let hD
        refine lv_iinc (v := x23) (lv' := [(3, .int x23), (0, .ref (ad 902)), (1, .int a1), (2, .int a2)]) C.1.1 C.1.2.1 dX18_stored_157 hl (k := 3) rfl (by rw [ex23]; rfl) (by decide) rfl (fun ls hl => ?_)
        refine lv_goto (tgt := 47) C.1.1 C.1.2.1 dX18_stored_160 (by decide) ?_
        exact ih47 x23 M L _ _ ls hD hw (lv_sub hl [1, 2, 3, 0] rfl)
      have hh61 : ∀ (f : Nat) (v3 : Int32) (v4 : Int32) (v5 : Int32) (M : mwM) (L : mwL) (H : Heap) (locs : List Loc) (ls : Array Slot), fX18_stored_h61 fu a1 a2 (fX18_stored_h47 fu a1 a2 f47) f (v3, v4, v5, M, L) = some (r0, M0, L0) → mw_W G ad NF TF FF M L H locs → lv_has ls 6 [(0, .ref (ad 902)), (1, .int a1), (2, .int a2), (3, .int v3), (4, .int v4), (5, .int v5)] → W p l e ({ frames := 1, cells := 0, slots := 0, locals := 22 }) s m [.ref (ad 902), .int a1, .int a2].toArray below meth c H locs 0 0 (MQ below (mw_Qi G ad NF TF FF (mw_eqI r0 M0 L0)) [.ref (ad 902), .int a1, .int a2].toArray s 0 0 (mw_fr G)) (F0 m 61 ls []) := by
        intro f
        induction f with
        | zero => intro v3 v4 v5 M L H locs ls hD; cases hD
        | succ f61 ih61 =>
          intro v3 v4 v5 M L H locs ls hD hw hl
          replace hD : fX18_stored_i61 fu a1 a2 (fX18_stored_h47 fu a1 a2 f47) (fX18_stored_h61 fu a1 a2 (fX18_stored_h47 fu a1 a2 f47) f61) v3 v4 v5 M L = some (r0, M0, L0) := hD
          have hb105 : ∀ (v3 : Int32) (v5 : Int32) (s0 : Int32) (M : mwM) (L : mwL) (H : Heap) (locs : List Loc) (ls : Array Slot), fX18_stored_b105 fu a1 a2 (fX18_stored_h47 fu a1 a2 f47) (fX18_stored_h61 fu a1 a2 (fX18_stored_h47 fu a1 a2 f47) f61) v3 v5 s0 M L = some (r0, M0, L0) → mw_W G ad NF TF FF M L H locs → lv_has ls 6 [(0, .ref (ad 902)), (1, .int a1), (2, .int a2), (3, .int v3), (5, .int v5)] → W p l e ({ frames := 1, cells := 0, slots := 0, locals := 22 }) s m [.ref (ad 902), .int a1, .int a2].toArray below meth c H locs 0 0 (MQ below (mw_Qi G ad NF TF FF (mw_eqI r0 M0 L0)) [.ref (ad 902), .int a1, .int a2].toArray s 0 0 (mw_fr G)) (F0 m 105 ls [.int s0]) := by
            intro v3 v5 s0 M L H locs ls hD hw hl
            unfold fX18_stored_b105 at hD
            refine lv_istore (lv' := [(4, .int s0), (0, .ref (ad 902)), (1, .int a1), (2, .int a2), (3, .int v3), (5, .int v5)]) C.1.1 C.1.2.1 dX18_stored_105 hl (by decide) rfl (fun ls hl => ?_)
            obtain ⟨x22, ex22, hD⟩ := g_let hD
            refine lv_iinc (v := x22) (lv' := [(5, .int x22), (4, .int s0), (0, .ref (ad 902)), (1, .int a1), (2, .int a2), (3, .int v3)]) C.1.1 C.1.2.1 dX18_stored_107 hl (k := 5) rfl (by rw [ex22]; rfl) (by decide) rfl (fun ls hl => ?_)
            refine lv_goto (tgt := 61) C.1.1 C.1.2.1 dX18_stored_110 (by decide) ?_
            exact ih61 v3 s0 x22 M L _ _ ls hD hw (lv_sub hl [2, 3, 4, 5, 1, 0] rfl)
          have hb103 : ∀ (v3 : Int32) (v4 : Int32) (v5 : Int32) (M : mwM) (L : mwL) (H : Heap) (locs : List Loc) (ls : Array Slot), fX18_stored_b103 fu a1 a2 (fX18_stored_h47 fu a1 a2 f47) (fX18_stored_h61 fu a1 a2 (fX18_stored_h47 fu a1 a2 f47) f61) v3 v4 v5 M L = some (r0, M0, L0) → mw_W G ad NF TF FF M L H locs → lv_has ls 6 [(0, .ref (ad 902)), (1, .int a1), (2, .int a2), (3, .int v3), (4, .int v4), (5, .int v5)] → W p l e ({ frames := 1, cells := 0, slots := 0, locals := 22 }) s m [.ref (ad 902), .int a1, .int a2].toArray below meth c H locs 0 0 (MQ below (mw_Qi G ad NF TF FF (mw_eqI r0 M0 L0)) [.ref (ad 902), .int a1, .int a2].toArray s 0 0 (mw_fr G)) (F0 m 103 ls []) := by
            intro v3 v4 v5 M L H locs ls hD hw hl
            unfold fX18_stored_b103 at hD
            refine lv_iload C.1.1 C.1.2.1 dX18_stored_103 (lv_at hl 4 rfl) ?_
            exact hb105 v3 v5 v4 M L _ _ ls hD hw (lv_sub hl [0, 1, 2, 3, 5] rfl)
          unfold fX18_stored_i61 at hD
          refine lv_iload C.1.1 C.1.2.1 dX18_stored_61 (lv_at hl 5 rfl) ?_
          refine lv_aload_n C.1.1 C.1.2.1 dX18_stored_63 rfl (lv_at hl 0 rfl) ?_
          refine mr_getI C hw kc_18 2 (by decide) tf_902 wd_2469 dX18_stored_64 (by decide) rfl ?_
          refine lv_icmp_gt (tgt := 113) C.1.1 C.1.2.1 dX18_stored_67 (by decide) (fun c9 => ?_) (fun c9 => ?_)
          · replace hD := g_pos c9 hD
            refine lv_aload_n C.1.1 C.1.2.1 dX18_stored_113 rfl (lv_at hl 0 rfl) ?_
            refine mr_getR C hw kc_18 16 (by decide) tf_902 ff_902_16 wd_2483 dX18_stored_114 (by decide) rfl ?_
            refine lv_iload_n C.1.1 C.1.2.1 dX18_stored_117 rfl (lv_at hl 3 rfl) ?_
            obtain ⟨q10, hD⟩ := g_ck hD
            refine mr_iald C hw (by decide) tf_916 q10 dX18_stored_118 ?_
            refine lv_if_le (tgt := 157) C.1.1 C.1.2.1 dX18_stored_119 (by decide) (fun c11 => ?_) (fun c11 => ?_)
            · replace hD := g_pos c11 hD
              exact hb157 v3 M L _ _ ls hD hw (lv_sub hl [0, 1, 2, 3] rfl)
            · replace hD := g_neg c11 hD
              refine lv_iload C.1.1 C.1.2.1 dX18_stored_122 (lv_at hl 4 rfl) ?_
              refine lv_iload_n C.1.1 C.1.2.1 dX18_stored_124 rfl (lv_at hl 1 rfl) ?_
              refine lv_icmp_ne (tgt := 157) C.1.1 C.1.2.1 dX18_stored_125 (by decide) (fun c12 => ?_) (fun c12 => ?_)
              · replace hD := g_neg c12 hD
                exact hb157 v3 M L _ _ ls hD hw (lv_sub hl [0, 1, 2, 3] rfl)
              · replace hD := g_pos c12 hD
                refine lv_iload_n C.1.1 C.1.2.1 dX18_stored_128 rfl (lv_at hl 2 rfl) ?_
                refine lv_if_ne (tgt := 136) C.1.1 C.1.2.1 dX18_stored_129 (by decide) (fun c13 => ?_) (fun c13 => ?_)
                · replace hD := g_neg c13 hD
                  refine lv_iload_n C.1.1 C.1.2.1 dX18_stored_136 rfl (lv_at hl 2 rfl) ?_
                  refine lv_iconst (v := 1) C.1.1 C.1.2.1 dX18_stored_137 (by decide) ?_
                  refine lv_icmp_ne (tgt := 150) C.1.1 C.1.2.1 dX18_stored_138 (by decide) (fun c14 => ?_) (fun c14 => ?_)
                  · replace hD := g_neg c14 hD
                    refine lv_aload_n C.1.1 C.1.2.1 dX18_stored_150 rfl (lv_at hl 0 rfl) ?_
                    refine mr_getR C hw kc_18 3 (by decide) tf_902 ff_902_3 wd_2470 dX18_stored_151 (by decide) rfl ?_
                    refine lv_iload_n C.1.1 C.1.2.1 dX18_stored_154 rfl (lv_at hl 3 rfl) ?_
                    obtain ⟨q15, hD⟩ := g_ck hD
                    refine mr_iald C hw (by decide) tf_903 q15 dX18_stored_155 ?_
                    exact hb156 (M 903 v3.toNatClampNeg) M L _ _ ls hD hw (lv_sub hl [] rfl)
                  · replace hD := g_pos c14 hD
                    refine lv_aload_n C.1.1 C.1.2.1 dX18_stored_141 rfl (lv_at hl 0 rfl) ?_
                    refine mr_getR C hw kc_18 17 (by decide) tf_902 ff_902_17 wd_2484 dX18_stored_142 (by decide) rfl ?_
                    refine lv_iload_n C.1.1 C.1.2.1 dX18_stored_145 rfl (lv_at hl 3 rfl) ?_
                    obtain ⟨q16, hD⟩ := g_ck hD
                    refine mr_iald C hw (by decide) tf_917 q16 dX18_stored_146 ?_
                    refine lv_goto (tgt := 156) C.1.1 C.1.2.1 dX18_stored_147 (by decide) ?_
                    exact hb156 (M 917 v3.toNatClampNeg) M L _ _ ls hD hw (lv_sub hl [] rfl)
                · replace hD := g_pos c13 hD
                  refine lv_iload_n C.1.1 C.1.2.1 dX18_stored_132 rfl (lv_at hl 3 rfl) ?_
                  refine lv_goto (tgt := 156) C.1.1 C.1.2.1 dX18_stored_133 (by decide) ?_
                  exact hb156 v3 M L _ _ ls hD hw (lv_sub hl [] rfl)
          · replace hD := g_neg c9 hD
            refine lv_aload_n C.1.1 C.1.2.1 dX18_stored_70 rfl (lv_at hl 0 rfl) ?_
            refine mr_getR C hw kc_18 16 (by decide) tf_902 ff_902_16 wd_2483 dX18_stored_71 (by decide) rfl ?_
            refine lv_iload C.1.1 C.1.2.1 dX18_stored_74 (lv_at hl 5 rfl) ?_
            obtain ⟨q17, hD⟩ := g_ck hD
            refine mr_iald C hw (by decide) tf_916 q17 dX18_stored_76 ?_
            refine lv_if_le (tgt := 103) C.1.1 C.1.2.1 dX18_stored_77 (by decide) (fun c18 => ?_) (fun c18 => ?_)
            · replace hD := g_pos c18 hD
              exact hb103 v3 v4 v5 M L _ _ ls hD hw (lv_sub hl [0, 1, 2, 3, 4, 5] rfl)
            · replace hD := g_neg c18 hD
              refine lv_aload_n C.1.1 C.1.2.1 dX18_stored_80 rfl (lv_at hl 0 rfl) ?_
              refine mr_getR C hw kc_18 16 (by decide) tf_902 ff_902_16 wd_2483 dX18_stored_81 (by decide) rfl ?_
              refine lv_iload C.1.1 C.1.2.1 dX18_stored_84 (lv_at hl 5 rfl) ?_
              obtain ⟨q19, hD⟩ := g_ck hD
              refine mr_iald C hw (by decide) tf_916 q19 dX18_stored_86 ?_
              refine lv_aload_n C.1.1 C.1.2.1 dX18_stored_87 rfl (lv_at hl 0 rfl) ?_
              refine mr_getR C hw kc_18 16 (by decide) tf_902 ff_902_16 wd_2483 dX18_stored_88 (by decide) rfl ?_
              refine lv_iload_n C.1.1 C.1.2.1 dX18_stored_91 rfl (lv_at hl 3 rfl) ?_
              obtain ⟨q20, hD⟩ := g_ck hD
              refine mr_iald C hw (by decide) tf_916 q20 dX18_stored_92 ?_
              refine lv_icmp_ge (tgt := 103) C.1.1 C.1.2.1 dX18_stored_93 (by decide) (fun c21 => ?_) (fun c21 => ?_)
              · replace hD := g_pos c21 hD
                exact hb103 v3 v4 v5 M L _ _ ls hD hw (lv_sub hl [0, 1, 2, 3, 4, 5] rfl)
              · replace hD := g_neg c21 hD
                refine lv_iload C.1.1 C.1.2.1 dX18_stored_96 (lv_at hl 4 rfl) ?_
                refine lv_iconst (v := 1) C.1.1 C.1.2.1 dX18_stored_98 (by decide) ?_
                refine lv_iadd C.1.1 C.1.2.1 dX18_stored_99 ?_
                refine lv_goto (tgt := 105) C.1.1 C.1.2.1 dX18_stored_100 (by decide) ?_
                exact hb105 v3 v5 (v4 + 1) M L _ _ ls hD hw (lv_sub hl [0, 1, 2, 3, 5] rfl)
      unfold fX18_stored_i47 at hD
      refine lv_iload_n C.1.1 C.1.2.1 dX18_stored_47 rfl (lv_at hl 3 rfl) ?_
      refine lv_aload_n C.1.1 C.1.2.1 dX18_stored_48 rfl (lv_at hl 0 rfl) ?_
      refine mr_getI C hw kc_18 2 (by decide) tf_902 wd_2469 dX18_stored_49 (by decide) rfl ?_
      refine lv_icmp_gt (tgt := 163) C.1.1 C.1.2.1 dX18_stored_52 (by decide) (fun c8 => ?_) (fun c8 => ?_)
      · replace hD := g_pos c8 hD
        refine lv_iconst (v := (-1)) C.1.1 C.1.2.1 dX18_stored_163 (by decide) ?_
        exact mr_iret C hr hlocks hw rfl (Option.some.inj hD) dX18_stored_164
      · replace hD := g_neg c8 hD
        refine lv_iconst (v := 0) C.1.1 C.1.2.1 dX18_stored_55 (by decide) ?_
        refine lv_istore (lv' := [(4, .int 0), (0, .ref (ad 902)), (1, .int a1), (2, .int a2), (3, .int v3)]) C.1.1 C.1.2.1 dX18_stored_56 hl (by decide) rfl (fun ls hl => ?_)
        refine lv_iconst (v := 1) C.1.1 C.1.2.1 dX18_stored_58 (by decide) ?_
        refine lv_istore (lv' := [(5, .int 1), (4, .int 0), (0, .ref (ad 902)), (1, .int a1), (2, .int a2), (3, .int v3)]) C.1.1 C.1.2.1 dX18_stored_59 hl (by decide) rfl (fun ls hl => ?_)
        exact hh61 fu v3 0 1 M L _ _ ls hD hw (lv_sub hl [2, 3, 4, 5, 1, 0] rfl)
  have hb19 : ∀ (M : mwM) (L : mwL) (H : Heap) (locs : List Loc) (ls : Array Slot), fX18_stored_b19 fu a1 a2 M L = some (r0, M0, L0) → mw_W G ad NF TF FF M L H locs → lv_has ls 6 [(0, .ref (ad 902)), (1, .int a1), (2, .int a2)] → W p l e ({ frames := 1, cells := 0, slots := 0, locals := 22 }) s m [.ref (ad 902), .int a1, .int a2].toArray below meth c H locs 0 0 (MQ below (mw_Qi G ad NF TF FF (mw_eqI r0 M0 L0)) [.ref (ad 902), .int a1, .int a2].toArray s 0 0 (mw_fr G)) (F0 m 19 ls []) := by
    intro M L H locs ls hD hw hl
    unfold fX18_stored_b19 at hD
    refine lv_iload_n C.1.1 C.1.2.1 dX18_stored_19 rfl (lv_at hl 1 rfl) ?_
    refine lv_if_lt (tgt := 31) C.1.1 C.1.2.1 dX18_stored_20 (by decide) (fun c1 => ?_) (fun c1 => ?_)
    · replace hD := g_pos c1 hD
      exact hb31 M L _ _ ls hD hw (lv_sub hl [] rfl)
    · replace hD := g_neg c1 hD
      refine lv_iload_n C.1.1 C.1.2.1 dX18_stored_23 rfl (lv_at hl 1 rfl) ?_
      refine lv_aload_n C.1.1 C.1.2.1 dX18_stored_24 rfl (lv_at hl 0 rfl) ?_
      obtain ⟨r4, M2, L3, h1, hD⟩ := g_b3 hD
      refine md_cvI (As := []) (rest := [.int a1]) C hw (tX18_entries l G ad fu M L h1) kc_18 (by decide) tf_902 wd_3912 cwX18_entries ⟨Nat.le_of_ble_eq_true rfl, Nat.le_of_ble_eq_true rfl⟩ rfl hl.1 (Nat.le_of_ble_eq_true rfl) dX18_stored_25 rfl rfl ⟨Nat.zero_le _, Nat.zero_le _⟩ rfl (fun H locs hw => ?_)
      refine lv_icmp_lt (tgt := 33) C.1.1 C.1.2.1 dX18_stored_28 (by decide) (fun c5 => ?_) (fun c5 => ?_)
      · replace hD := g_pos c5 hD
        refine lv_iload_n C.1.1 C.1.2.1 dX18_stored_33 rfl (lv_at hl 2 rfl) ?_
        refine lv_if_lt (tgt := 42) C.1.1 C.1.2.1 dX18_stored_34 (by decide) (fun c6 => ?_) (fun c6 => ?_)
        · replace hD := g_pos c6 hD
          exact hb42 M2 L3 _ _ ls hD hw (lv_sub hl [] rfl)
        · replace hD := g_neg c6 hD
          refine lv_iload_n C.1.1 C.1.2.1 dX18_stored_37 rfl (lv_at hl 2 rfl) ?_
          refine lv_iconst (v := 2) C.1.1 C.1.2.1 dX18_stored_38 (by decide) ?_
          refine lv_icmp_le (tgt := 45) C.1.1 C.1.2.1 dX18_stored_39 (by decide) (fun c7 => ?_) (fun c7 => ?_)
          · replace hD := g_pos c7 hD
            refine lv_iconst (v := 1) C.1.1 C.1.2.1 dX18_stored_45 (by decide) ?_
            refine lv_istore_n (lv' := [(3, .int 1), (0, .ref (ad 902)), (1, .int a1), (2, .int a2)]) C.1.1 C.1.2.1 dX18_stored_46 rfl hl (by decide) rfl (fun ls hl => ?_)
            exact hh47 fu 1 M2 L3 _ _ ls hD hw (lv_sub hl [1, 2, 3, 0] rfl)
          · replace hD := g_neg c7 hD
            exact hb42 M2 L3 _ _ ls hD hw (lv_sub hl [] rfl)
      · replace hD := g_neg c5 hD
        exact hb31 M2 L3 _ _ ls hD hw (lv_sub hl [] rfl)
  unfold DX18_stored at hD
  refine lv_aload_n C.1.1 C.1.2.1 dX18_stored_0 rfl (lv_at hl 0 rfl) ?_
  refine lv_iconst (v := 0) C.1.1 C.1.2.1 dX18_stored_1 (by decide) ?_
  obtain ⟨M24, eM24, hD⟩ := g_let hD
  refine mr_putI C hw kc_18 0 (by decide) tf_902 wd_2467 dX18_stored_2 (by decide) rfl rfl rfl rfl (fun H locs hw => ?_)
  replace hw : mw_W G ad NF TF FF M24 L H locs := by rw [eM24]; exact hw
  refine lv_iload_n C.1.1 C.1.2.1 dX18_stored_5 rfl (lv_at hl 1 rfl) ?_
  refine lv_iconst (v := (-1)) C.1.1 C.1.2.1 dX18_stored_6 (by decide) ?_
  refine lv_icmp_ne (tgt := 19) C.1.1 C.1.2.1 dX18_stored_7 (by decide) (fun c25 => ?_) (fun c25 => ?_)
  · replace hD := g_neg c25 hD
    exact hb19 M24 L _ _ ls hD hw (lv_sub hl [0, 1, 2] rfl)
  · replace hD := g_pos c25 hD
    refine lv_iload_n C.1.1 C.1.2.1 dX18_stored_10 rfl (lv_at hl 2 rfl) ?_
    refine lv_if_ne (tgt := 19) C.1.1 C.1.2.1 dX18_stored_11 (by decide) (fun c26 => ?_) (fun c26 => ?_)
    · replace hD := g_neg c26 hD
      exact hb19 M24 L _ _ ls hD hw (lv_sub hl [0, 1, 2] rfl)
    · replace hD := g_pos c26 hD
      refine lv_aload_n C.1.1 C.1.2.1 dX18_stored_14 rfl (lv_at hl 0 rfl) ?_
      obtain ⟨r29, M27, L28, h1, hD⟩ := g_b3 hD
      refine md_cvI (As := []) (rest := []) C hw (tX18_entries l G ad fu M24 L h1) kc_18 (by decide) tf_902 wd_3912 cwX18_entries ⟨Nat.le_of_ble_eq_true rfl, Nat.le_of_ble_eq_true rfl⟩ rfl hl.1 (Nat.le_of_ble_eq_true rfl) dX18_stored_15 rfl rfl ⟨Nat.zero_le _, Nat.zero_le _⟩ rfl (fun H locs hw => ?_)
      exact mr_iret C hr hlocks hw rfl (Option.some.inj hD) dX18_stored_18

theorem dX18_age_0 : decode cX18_age 0 = .ok (.aload_n 0, 1) := by decide +kernel
theorem dX18_age_1 : decode cX18_age 1 = .ok (.iload_n 1, 1) := by decide +kernel
theorem dX18_age_2 : decode cX18_age 2 = .ok (.invokevirtual 128, 3) := by decide +kernel
theorem dX18_age_5 : decode cX18_age 5 = .ok (.ifCond .eq 7, 3) := by decide +kernel
theorem dX18_age_8 : decode cX18_age 8 = .ok (.iconst (-1), 1) := by decide +kernel
theorem dX18_age_9 : decode cX18_age 9 = .ok (.goto 9, 3) := by decide +kernel
theorem dX18_age_12 : decode cX18_age 12 = .ok (.aload_n 0, 1) := by decide +kernel
theorem dX18_age_13 : decode cX18_age 13 = .ok (.getfield 32, 3) := by decide +kernel
theorem dX18_age_16 : decode cX18_age 16 = .ok (.iload_n 1, 1) := by decide +kernel
theorem dX18_age_17 : decode cX18_age 17 = .ok (.iaload, 1) := by decide +kernel
theorem dX18_age_18 : decode cX18_age 18 = .ok (.ireturn, 1) := by decide +kernel
theorem cwX18_age : mw_cwV yX18_age cX18_age 2 ((some .int)) 1 := ⟨⟨wd_18, wd_4301, by decide +kernel⟩, wd_4299, wd_4300⟩
set_option maxHeartbeats 4000000 in
set_option maxRecDepth 100000 in
theorem tX18_age (l : Launch) (G : mwG) (ad : Nat → Nat) (fu : Nat) (a1 : Int32) (M : mwM) (L : mwL) {r0 : Int32} {M0 : mwM} {L0 : mwL} (hD : DX18_age fu a1 M L = some (r0, M0, L0)) : Met l yX18_age (Cond.code yX18_age cX18_age 2 ((some .int)) :: GT) ({ frames := 1, cells := 0, slots := 0, locals := 21 }) (mw_Pre G ad NF TF FF M L [.ref (ad 902), .int a1]) (mw_Qi G ad NF TF FF (mw_eqI r0 M0 L0)) 0 0 (mw_fr G) := by
  refine mw_enter (by decide) (Nat.le_of_ble_eq_true rfl) ?_
  intro p e s m below meth c ls C hr hlocks hnm hw hl
  have hl : lv_has ls 2 [(0, .ref (ad 902)), (1, .int a1)] := hl
  have hb18 : ∀ (s0 : Int32) (M : mwM) (L : mwL) (H : Heap) (locs : List Loc) (ls : Array Slot), fX18_age_b18 fu a1 s0 M L = some (r0, M0, L0) → mw_W G ad NF TF FF M L H locs → lv_has ls 2 [] → W p l e ({ frames := 1, cells := 0, slots := 0, locals := 21 }) s m [.ref (ad 902), .int a1].toArray below meth c H locs 0 0 (MQ below (mw_Qi G ad NF TF FF (mw_eqI r0 M0 L0)) [.ref (ad 902), .int a1].toArray s 0 0 (mw_fr G)) (F0 m 18 ls [.int s0]) := by
    intro s0 M L H locs ls hD hw hl
    unfold fX18_age_b18 at hD
    exact mr_iret C hr hlocks hw rfl (Option.some.inj hD) dX18_age_18
  unfold DX18_age at hD
  refine lv_aload_n C.1.1 C.1.2.1 dX18_age_0 rfl (lv_at hl 0 rfl) ?_
  refine lv_iload_n C.1.1 C.1.2.1 dX18_age_1 rfl (lv_at hl 1 rfl) ?_
  obtain ⟨r3, M1, L2, h1, hD⟩ := g_b3 hD
  refine md_cvI (As := [.int a1]) (rest := []) C hw (tX18_none l G ad fu a1 M L h1) kc_18 (by decide) tf_902 wd_3884 cwX18_none ⟨Nat.le_of_ble_eq_true rfl, Nat.le_of_ble_eq_true rfl⟩ rfl hl.1 (Nat.le_of_ble_eq_true rfl) dX18_age_2 rfl rfl ⟨Nat.zero_le _, Nat.zero_le _⟩ rfl (fun H locs hw => ?_)
  refine lv_if_eq (tgt := 12) C.1.1 C.1.2.1 dX18_age_5 (by decide) (fun c4 => ?_) (fun c4 => ?_)
  · replace hD := g_pos c4 hD
    refine lv_aload_n C.1.1 C.1.2.1 dX18_age_12 rfl (lv_at hl 0 rfl) ?_
    refine mr_getR C hw kc_18 10 (by decide) tf_902 ff_902_10 wd_2477 dX18_age_13 (by decide) rfl ?_
    refine lv_iload_n C.1.1 C.1.2.1 dX18_age_16 rfl (lv_at hl 1 rfl) ?_
    obtain ⟨q5, hD⟩ := g_ck hD
    refine mr_iald C hw (by decide) tf_910 q5 dX18_age_17 ?_
    exact hb18 (M1 910 a1.toNatClampNeg) M1 L2 _ _ ls hD hw (lv_sub hl [] rfl)
  · replace hD := g_neg c4 hD
    refine lv_iconst (v := (-1)) C.1.1 C.1.2.1 dX18_age_8 (by decide) ?_
    refine lv_goto (tgt := 18) C.1.1 C.1.2.1 dX18_age_9 (by decide) ?_
    exact hb18 ((-1)) M1 L2 _ _ ls hD hw (lv_sub hl [] rfl)
