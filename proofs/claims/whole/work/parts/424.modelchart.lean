theorem dX13_holds_0 : decode cX13_holds 0 = .ok (.aload_n 0, 1) := by decide +kernel
theorem dX13_holds_1 : decode cX13_holds 1 = .ok (.getfield 48, 3) := by decide +kernel
theorem dX13_holds_4 : decode cX13_holds 4 = .ok (.iload_n 1, 1) := by decide +kernel
theorem dX13_holds_5 : decode cX13_holds 5 = .ok (.iaload, 1) := by decide +kernel
theorem dX13_holds_6 : decode cX13_holds 6 = .ok (.istore_n 2, 1) := by decide +kernel
theorem dX13_holds_7 : decode cX13_holds 7 = .ok (.iload_n 2, 1) := by decide +kernel
theorem dX13_holds_8 : decode cX13_holds 8 = .ok (.ifCond .ne 5, 3) := by decide +kernel
theorem dX13_holds_11 : decode cX13_holds 11 = .ok (.iconst 1, 1) := by decide +kernel
theorem dX13_holds_12 : decode cX13_holds 12 = .ok (.ireturn, 1) := by decide +kernel
theorem dX13_holds_13 : decode cX13_holds 13 = .ok (.iload_n 2, 1) := by decide +kernel
theorem dX13_holds_14 : decode cX13_holds 14 = .ok (.bipush 8, 2) := by decide +kernel
theorem dX13_holds_16 : decode cX13_holds 16 = .ok (.ishr, 1) := by decide +kernel
theorem dX13_holds_17 : decode cX13_holds 17 = .ok (.bipush 31, 2) := by decide +kernel
theorem dX13_holds_19 : decode cX13_holds 19 = .ok (.iand, 1) := by decide +kernel
theorem dX13_holds_20 : decode cX13_holds 20 = .ok (.istore_n 3, 1) := by decide +kernel
theorem dX13_holds_21 : decode cX13_holds 21 = .ok (.iload_n 2, 1) := by decide +kernel
theorem dX13_holds_22 : decode cX13_holds 22 = .ok (.sipush 8191, 3) := by decide +kernel
theorem dX13_holds_25 : decode cX13_holds 25 = .ok (.if_icmp .le 8, 3) := by decide +kernel
theorem dX13_holds_28 : decode cX13_holds 28 = .ok (.iload_n 3, 1) := by decide +kernel
theorem dX13_holds_29 : decode cX13_holds 29 = .ok (.i2l, 1) := by decide +kernel
theorem dX13_holds_30 : decode cX13_holds 30 = .ok (.goto 9, 3) := by decide +kernel
theorem dX13_holds_33 : decode cX13_holds 33 = .ok (.aload_n 0, 1) := by decide +kernel
theorem dX13_holds_34 : decode cX13_holds 34 = .ok (.getfield 72, 3) := by decide +kernel
theorem dX13_holds_37 : decode cX13_holds 37 = .ok (.iload_n 3, 1) := by decide +kernel
theorem dX13_holds_38 : decode cX13_holds 38 = .ok (.laload, 1) := by decide +kernel
theorem dX13_holds_39 : decode cX13_holds 39 = .ok (.lstore 4, 2) := by decide +kernel
theorem dX13_holds_41 : decode cX13_holds 41 = .ok (.iload_n 2, 1) := by decide +kernel
theorem dX13_holds_42 : decode cX13_holds 42 = .ok (.bipush 7, 2) := by decide +kernel
theorem dX13_holds_44 : decode cX13_holds 44 = .ok (.iand, 1) := by decide +kernel
theorem dX13_holds_45 : decode cX13_holds 45 = .ok (.iconst 4, 1) := by decide +kernel
theorem dX13_holds_46 : decode cX13_holds 46 = .ok (.if_icmp .le 14, 3) := by decide +kernel
theorem dX13_holds_49 : decode cX13_holds 49 = .ok (.lload 4, 2) := by decide +kernel
theorem dX13_holds_51 : decode cX13_holds 51 = .ok (.lconst 0, 1) := by decide +kernel
theorem dX13_holds_52 : decode cX13_holds 52 = .ok (.lcmp, 1) := by decide +kernel
theorem dX13_holds_53 : decode cX13_holds 53 = .ok (.ifCond .ne 7, 3) := by decide +kernel
theorem dX13_holds_56 : decode cX13_holds 56 = .ok (.iconst 1, 1) := by decide +kernel
theorem dX13_holds_57 : decode cX13_holds 57 = .ok (.goto 4, 3) := by decide +kernel
theorem dX13_holds_60 : decode cX13_holds 60 = .ok (.iconst 0, 1) := by decide +kernel
theorem dX13_holds_61 : decode cX13_holds 61 = .ok (.istore 6, 2) := by decide +kernel
theorem dX13_holds_63 : decode cX13_holds 63 = .ok (.iload 6, 2) := by decide +kernel
theorem dX13_holds_65 : decode cX13_holds 65 = .ok (.ifCond .eq 20, 3) := by decide +kernel
theorem dX13_holds_68 : decode cX13_holds 68 = .ok (.aload_n 0, 1) := by decide +kernel
theorem dX13_holds_69 : decode cX13_holds 69 = .ok (.dup, 1) := by decide +kernel
theorem dX13_holds_70 : decode cX13_holds 70 = .ok (.getfield 126, 3) := by decide +kernel
theorem dX13_holds_73 : decode cX13_holds 73 = .ok (.iconst 1, 1) := by decide +kernel
theorem dX13_holds_74 : decode cX13_holds 74 = .ok (.iadd, 1) := by decide +kernel
theorem dX13_holds_75 : decode cX13_holds 75 = .ok (.putfield 126, 3) := by decide +kernel
theorem dX13_holds_78 : decode cX13_holds 78 = .ok (.aload_n 0, 1) := by decide +kernel
theorem dX13_holds_79 : decode cX13_holds 79 = .ok (.iconst 5, 1) := by decide +kernel
theorem dX13_holds_80 : decode cX13_holds 80 = .ok (.iload_n 1, 1) := by decide +kernel
theorem dX13_holds_81 : decode cX13_holds 81 = .ok (.lconst 0, 1) := by decide +kernel
theorem dX13_holds_82 : decode cX13_holds 82 = .ok (.invokevirtual 144, 3) := by decide +kernel
theorem dX13_holds_85 : decode cX13_holds 85 = .ok (.iload 6, 2) := by decide +kernel
theorem dX13_holds_87 : decode cX13_holds 87 = .ok (.ifCond .ne 32, 3) := by decide +kernel
theorem dX13_holds_90 : decode cX13_holds 90 = .ok (.iload_n 2, 1) := by decide +kernel
theorem dX13_holds_91 : decode cX13_holds 91 = .ok (.bipush 7, 2) := by decide +kernel
theorem dX13_holds_93 : decode cX13_holds 93 = .ok (.iand, 1) := by decide +kernel
theorem dX13_holds_94 : decode cX13_holds 94 = .ok (.aload_n 0, 1) := by decide +kernel
theorem dX13_holds_95 : decode cX13_holds 95 = .ok (.getfield 72, 3) := by decide +kernel
theorem dX13_holds_98 : decode cX13_holds 98 = .ok (.iload_n 2, 1) := by decide +kernel
theorem dX13_holds_99 : decode cX13_holds 99 = .ok (.iconst 3, 1) := by decide +kernel
theorem dX13_holds_100 : decode cX13_holds 100 = .ok (.ishr, 1) := by decide +kernel
theorem dX13_holds_101 : decode cX13_holds 101 = .ok (.bipush 31, 2) := by decide +kernel
theorem dX13_holds_103 : decode cX13_holds 103 = .ok (.iand, 1) := by decide +kernel
theorem dX13_holds_104 : decode cX13_holds 104 = .ok (.laload, 1) := by decide +kernel
theorem dX13_holds_105 : decode cX13_holds 105 = .ok (.lload 4, 2) := by decide +kernel
theorem dX13_holds_107 : decode cX13_holds 107 = .ok (.invokestatic 150, 3) := by decide +kernel
theorem dX13_holds_110 : decode cX13_holds 110 = .ok (.lconst 1, 1) := by decide +kernel
theorem dX13_holds_111 : decode cX13_holds 111 = .ok (.lcmp, 1) := by decide +kernel
theorem dX13_holds_112 : decode cX13_holds 112 = .ok (.ifCond .ne 7, 3) := by decide +kernel
theorem dX13_holds_115 : decode cX13_holds 115 = .ok (.iconst 1, 1) := by decide +kernel
theorem dX13_holds_116 : decode cX13_holds 116 = .ok (.goto 4, 3) := by decide +kernel
theorem dX13_holds_119 : decode cX13_holds 119 = .ok (.iconst 0, 1) := by decide +kernel
theorem dX13_holds_120 : decode cX13_holds 120 = .ok (.istore 7, 2) := by decide +kernel
theorem dX13_holds_122 : decode cX13_holds 122 = .ok (.iload 7, 2) := by decide +kernel
theorem dX13_holds_124 : decode cX13_holds 124 = .ok (.ifCond .eq 13, 3) := by decide +kernel
theorem dX13_holds_127 : decode cX13_holds 127 = .ok (.aload_n 0, 1) := by decide +kernel
theorem dX13_holds_128 : decode cX13_holds 128 = .ok (.getfield 54, 3) := by decide +kernel
theorem dX13_holds_131 : decode cX13_holds 131 = .ok (.iload_n 1, 1) := by decide +kernel
theorem dX13_holds_132 : decode cX13_holds 132 = .ok (.iconst 1, 1) := by decide +kernel
theorem dX13_holds_133 : decode cX13_holds 133 = .ok (.bastore, 1) := by decide +kernel
theorem dX13_holds_134 : decode cX13_holds 134 = .ok (.goto 10, 3) := by decide +kernel
theorem dX13_holds_137 : decode cX13_holds 137 = .ok (.aload_n 0, 1) := by decide +kernel
theorem dX13_holds_138 : decode cX13_holds 138 = .ok (.getfield 57, 3) := by decide +kernel
theorem dX13_holds_141 : decode cX13_holds 141 = .ok (.iload_n 1, 1) := by decide +kernel
theorem dX13_holds_142 : decode cX13_holds 142 = .ok (.iconst 1, 1) := by decide +kernel
theorem dX13_holds_143 : decode cX13_holds 143 = .ok (.bastore, 1) := by decide +kernel
theorem dX13_holds_144 : decode cX13_holds 144 = .ok (.iload 7, 2) := by decide +kernel
theorem dX13_holds_146 : decode cX13_holds 146 = .ok (.ireturn, 1) := by decide +kernel
theorem cwX13_holds : mw_cwV yX13_holds cX13_holds 8 ((some .boolean)) 1 := ⟨⟨wd_20, wd_4118, by decide +kernel⟩, wd_4117, sl_326⟩
set_option maxHeartbeats 4000000 in
set_option maxRecDepth 100000 in
theorem tX13_holds (l : Launch) (G : mwG) (ad : Nat → Nat) (fu : Nat) (k : Nat) (a1 : Int32) (M : mwM) (L : mwL) {r0 : Int32} {M0 : mwM} {L0 : mwL} (hD : DX13_holds fu k a1 M L = some (r0, M0, L0)) (hk0 : isMc k) : Met l yX13_holds (Cond.code yX13_holds cX13_holds 8 ((some .boolean)) :: GT) ({ frames := 1, cells := 0, slots := 0, locals := 24 }) (mw_Pre G ad NF TF FF M L [.ref (ad k), .int a1]) (mw_Qi G ad NF TF FF (mw_eqI r0 M0 L0)) 0 0 (mw_fr G) := by
  refine mw_enter (by decide) (Nat.le_of_ble_eq_true rfl) ?_
  intro p e s m below meth c ls C hr hlocks hnm hw hl
  have hl : lv_has ls 8 [(0, .ref (ad k)), (1, .int a1)] := hl
  have hb144 : ∀ (v7 : Int32) (M : mwM) (L : mwL) (H : Heap) (locs : List Loc) (ls : Array Slot), fX13_holds_b144 fu k a1 v7 M L = some (r0, M0, L0) → mw_W G ad NF TF FF M L H locs → lv_has ls 8 [(7, .int v7)] → W p l e ({ frames := 1, cells := 0, slots := 0, locals := 24 }) s m [.ref (ad k), .int a1].toArray below meth c H locs 0 0 (MQ below (mw_Qi G ad NF TF FF (mw_eqI r0 M0 L0)) [.ref (ad k), .int a1].toArray s 0 0 (mw_fr G)) (F0 m 144 ls []) := by
    intro v7 M L H locs ls hD hw hl
    unfold fX13_holds_b144 at hD
    refine lv_iload C.1.1 C.1.2.1 dX13_holds_144 (lv_at hl 0 rfl) ?_
    obtain ⟨z18, hD⟩ := g_zz hD
    exact mr_iret C hr hlocks hw (nz_zz z18) (Option.some.inj hD) dX13_holds_146
  have hb120 : ∀ (s0 : Int32) (M : mwM) (L : mwL) (H : Heap) (locs : List Loc) (ls : Array Slot), fX13_holds_b120 fu k a1 s0 M L = some (r0, M0, L0) → mw_W G ad NF TF FF M L H locs → lv_has ls 8 [(0, .ref (ad k)), (1, .int a1)] → W p l e ({ frames := 1, cells := 0, slots := 0, locals := 24 }) s m [.ref (ad k), .int a1].toArray below meth c H locs 0 0 (MQ below (mw_Qi G ad NF TF FF (mw_eqI r0 M0 L0)) [.ref (ad k), .int a1].toArray s 0 0 (mw_fr G)) (F0 m 120 ls [.int s0]) := by
    intro s0 M L H locs ls hD hw hl
    unfold fX13_holds_b120 at hD
    refine lv_istore (lv' := [(7, .int s0), (0, .ref (ad k)), (1, .int a1)]) C.1.1 C.1.2.1 dX13_holds_120 hl (by decide) rfl (fun ls hl => ?_)
    refine lv_iload C.1.1 C.1.2.1 dX13_holds_122 (lv_at hl 0 rfl) ?_
    refine lv_if_eq (tgt := 137) C.1.1 C.1.2.1 dX13_holds_124 (by decide) (fun c13 => ?_) (fun c13 => ?_)
    · replace hD := g_pos c13 hD
      refine lv_aload_n C.1.1 C.1.2.1 dX13_holds_137 rfl (lv_at hl 1 rfl) ?_
      refine mr_getR C hw kc_13 19 (Mc_N0 hk0) (Mc_T0 hk0) (Mc_F0_19 hk0) wd_2661 dX13_holds_138 (by decide) rfl ?_
      refine lv_iload_n C.1.1 C.1.2.1 dX13_holds_141 rfl (lv_at hl 2 rfl) ?_
      refine lv_iconst (v := 1) C.1.1 C.1.2.1 dX13_holds_142 (by decide) ?_
      obtain ⟨q14, hD⟩ := g_ck hD
      obtain ⟨M15, eM15, hD⟩ := g_let hD
      refine mr_zast C hw (Mc_N16 hk0) (Mc_T16 hk0) q14 dX13_holds_143 (fun H locs hw => ?_)
      replace hw : mw_W G ad NF TF FF M15 L H locs := by rw [eM15]; exact hw
      exact hb144 s0 M15 L _ _ ls hD hw (lv_sub hl [0] rfl)
    · replace hD := g_neg c13 hD
      refine lv_aload_n C.1.1 C.1.2.1 dX13_holds_127 rfl (lv_at hl 1 rfl) ?_
      refine mr_getR C hw kc_13 18 (Mc_N0 hk0) (Mc_T0 hk0) (Mc_F0_18 hk0) wd_2660 dX13_holds_128 (by decide) rfl ?_
      refine lv_iload_n C.1.1 C.1.2.1 dX13_holds_131 rfl (lv_at hl 2 rfl) ?_
      refine lv_iconst (v := 1) C.1.1 C.1.2.1 dX13_holds_132 (by decide) ?_
      obtain ⟨q16, hD⟩ := g_ck hD
      obtain ⟨M17, eM17, hD⟩ := g_let hD
      refine mr_zast C hw (Mc_N15 hk0) (Mc_T15 hk0) q16 dX13_holds_133 (fun H locs hw => ?_)
      replace hw : mw_W G ad NF TF FF M17 L H locs := by rw [eM17]; exact hw
      refine lv_goto (tgt := 144) C.1.1 C.1.2.1 dX13_holds_134 (by decide) ?_
      exact hb144 s0 M17 L _ _ ls hD hw (lv_sub hl [0] rfl)
  have hb119 : ∀ (M : mwM) (L : mwL) (H : Heap) (locs : List Loc) (ls : Array Slot), fX13_holds_b119 fu k a1 M L = some (r0, M0, L0) → mw_W G ad NF TF FF M L H locs → lv_has ls 8 [(0, .ref (ad k)), (1, .int a1)] → W p l e ({ frames := 1, cells := 0, slots := 0, locals := 24 }) s m [.ref (ad k), .int a1].toArray below meth c H locs 0 0 (MQ below (mw_Qi G ad NF TF FF (mw_eqI r0 M0 L0)) [.ref (ad k), .int a1].toArray s 0 0 (mw_fr G)) (F0 m 119 ls []) := by
    intro M L H locs ls hD hw hl
    unfold fX13_holds_b119 at hD
    refine lv_iconst (v := 0) C.1.1 C.1.2.1 dX13_holds_119 (by decide) ?_
    exact hb120 0 M L _ _ ls hD hw (lv_sub hl [0, 1] rfl)
  have hb85 : ∀ (v2 : Int32) (v4 : Int64) (v6 : Int32) (M : mwM) (L : mwL) (H : Heap) (locs : List Loc) (ls : Array Slot), fX13_holds_b85 fu k a1 v2 v4 v6 M L = some (r0, M0, L0) → mw_W G ad NF TF FF M L H locs → lv_has ls 8 [(0, .ref (ad k)), (1, .int a1), (2, .int v2), (4, .long v4), (6, .int v6)] → W p l e ({ frames := 1, cells := 0, slots := 0, locals := 24 }) s m [.ref (ad k), .int a1].toArray below meth c H locs 0 0 (MQ below (mw_Qi G ad NF TF FF (mw_eqI r0 M0 L0)) [.ref (ad k), .int a1].toArray s 0 0 (mw_fr G)) (F0 m 85 ls []) := by
    intro v2 v4 v6 M L H locs ls hD hw hl
    unfold fX13_holds_b85 at hD
    refine lv_iload C.1.1 C.1.2.1 dX13_holds_85 (lv_at hl 4 rfl) ?_
    refine lv_if_ne (tgt := 119) C.1.1 C.1.2.1 dX13_holds_87 (by decide) (fun c7 => ?_) (fun c7 => ?_)
    · replace hD := g_neg c7 hD
      exact hb119 M L _ _ ls hD hw (lv_sub hl [0, 1] rfl)
    · replace hD := g_pos c7 hD
      refine lv_iload_n C.1.1 C.1.2.1 dX13_holds_90 rfl (lv_at hl 2 rfl) ?_
      refine lv_bipush (v := 7) C.1.1 C.1.2.1 dX13_holds_91 (by decide) ?_
      refine lv_iand C.1.1 C.1.2.1 dX13_holds_93 ?_
      refine lv_aload_n C.1.1 C.1.2.1 dX13_holds_94 rfl (lv_at hl 0 rfl) ?_
      refine mr_getR C hw kc_13 25 (Mc_N0 hk0) (Mc_T0 hk0) (Mc_F0_25 hk0) wd_2667 dX13_holds_95 (by decide) rfl ?_
      refine lv_iload_n C.1.1 C.1.2.1 dX13_holds_98 rfl (lv_at hl 2 rfl) ?_
      refine lv_iconst (v := 3) C.1.1 C.1.2.1 dX13_holds_99 (by decide) ?_
      refine lv_ishr C.1.1 C.1.2.1 dX13_holds_100 ?_
      refine lv_bipush (v := 31) C.1.1 C.1.2.1 dX13_holds_101 (by decide) ?_
      refine lv_iand C.1.1 C.1.2.1 dX13_holds_103 ?_
      obtain ⟨q8, hD⟩ := g_ck hD
      refine mr_lald C hw (Mc_N21 hk0) (Mc_T21 hk0) q8 dX13_holds_104 ?_
      refine lv_lload C.1.1 C.1.2.1 dX13_holds_105 (lv_at hl 3 rfl) ?_
      obtain ⟨r11, M9, L10, h1, hD⟩ := g_b3 hD
      refine md_csL (As := [.int (v2 &&& 7), .long (L (k + 21) ((v2 >>> (3 &&& 31)) &&& 31).toNatClampNeg), .long v4]) (rest := []) C hw (tX13_ask l G ad fu (v2 &&& 7) (L (k + 21) ((v2 >>> (3 &&& 31)) &&& 31).toNatClampNeg) v4 M L h1) wd_4119 cwX13_ask ⟨Nat.le_of_ble_eq_true rfl, Nat.le_of_ble_eq_true rfl⟩ rfl hl.1 (Nat.le_of_ble_eq_true rfl) dX13_holds_107 rfl rfl ⟨Nat.zero_le _, Nat.zero_le _⟩ rfl (fun H locs hw => ?_)
      refine lv_lconst (v := 1) C.1.1 C.1.2.1 dX13_holds_110 (by decide) ?_
      refine W.lcmp C.1.1 C.1.2.1 dX13_holds_111 ?_
      refine lv_if_ne (tgt := 119) C.1.1 C.1.2.1 dX13_holds_112 (by decide) (fun c12 => ?_) (fun c12 => ?_)
      · replace hD := g_neg c12 hD
        exact hb119 M9 L10 _ _ ls hD hw (lv_sub hl [0, 1] rfl)
      · replace hD := g_pos c12 hD
        refine lv_iconst (v := 1) C.1.1 C.1.2.1 dX13_holds_115 (by decide) ?_
        refine lv_goto (tgt := 120) C.1.1 C.1.2.1 dX13_holds_116 (by decide) ?_
        exact hb120 1 M9 L10 _ _ ls hD hw (lv_sub hl [0, 1] rfl)
  have hb61 : ∀ (v2 : Int32) (v4 : Int64) (s0 : Int32) (M : mwM) (L : mwL) (H : Heap) (locs : List Loc) (ls : Array Slot), fX13_holds_b61 fu k a1 v2 v4 s0 M L = some (r0, M0, L0) → mw_W G ad NF TF FF M L H locs → lv_has ls 8 [(0, .ref (ad k)), (1, .int a1), (2, .int v2), (4, .long v4)] → W p l e ({ frames := 1, cells := 0, slots := 0, locals := 24 }) s m [.ref (ad k), .int a1].toArray below meth c H locs 0 0 (MQ below (mw_Qi G ad NF TF FF (mw_eqI r0 M0 L0)) [.ref (ad k), .int a1].toArray s 0 0 (mw_fr G)) (F0 m 61 ls [.int s0]) := by
    intro v2 v4 s0 M L H locs ls hD hw hl
    unfold fX13_holds_b61 at hD
    refine lv_istore (lv' := [(6, .int s0), (0, .ref (ad k)), (1, .int a1), (2, .int v2), (4, .long v4)]) C.1.1 C.1.2.1 dX13_holds_61 hl (by decide) rfl (fun ls hl => ?_)
    refine lv_iload C.1.1 C.1.2.1 dX13_holds_63 (lv_at hl 0 rfl) ?_
    refine lv_if_eq (tgt := 85) C.1.1 C.1.2.1 dX13_holds_65 (by decide) (fun c3 => ?_) (fun c3 => ?_)
    · replace hD := g_pos c3 hD
      exact hb85 v2 v4 s0 M L _ _ ls hD hw (lv_sub hl [1, 2, 3, 4, 0] rfl)
    · replace hD := g_neg c3 hD
      refine lv_aload_n C.1.1 C.1.2.1 dX13_holds_68 rfl (lv_at hl 1 rfl) ?_
      refine lv_dup C.1.1 C.1.2.1 dX13_holds_69 rfl ?_
      refine mr_getI C hw kc_13 30 (Mc_N0 hk0) (Mc_T0 hk0) wd_2672 dX13_holds_70 (by decide) rfl ?_
      refine lv_iconst (v := 1) C.1.1 C.1.2.1 dX13_holds_73 (by decide) ?_
      refine lv_iadd C.1.1 C.1.2.1 dX13_holds_74 ?_
      obtain ⟨M4, eM4, hD⟩ := g_let hD
      refine mr_putI C hw kc_13 30 (Mc_N0 hk0) (Mc_T0 hk0) wd_2672 dX13_holds_75 (by decide) rfl rfl rfl rfl (fun H locs hw => ?_)
      replace hw : mw_W G ad NF TF FF M4 L H locs := by rw [eM4]; exact hw
      refine lv_aload_n C.1.1 C.1.2.1 dX13_holds_78 rfl (lv_at hl 1 rfl) ?_
      refine lv_iconst (v := 5) C.1.1 C.1.2.1 dX13_holds_79 (by decide) ?_
      refine lv_iload_n C.1.1 C.1.2.1 dX13_holds_80 rfl (lv_at hl 2 rfl) ?_
      refine lv_lconst (v := 0) C.1.1 C.1.2.1 dX13_holds_81 (by decide) ?_
      obtain ⟨M5, L6, h1, hD⟩ := g_b2 hD
      refine md_cvV (As := [.int 5, .int a1, .long 0]) (rest := []) C hw (tX13_note l G ad fu k 5 a1 0 M4 L h1 hk0) kc_13 (Mc_N0 hk0) (Mc_T0 hk0) wd_4091 cwX13_note ⟨Nat.le_of_ble_eq_true rfl, Nat.le_of_ble_eq_true rfl⟩ rfl hl.1 (Nat.le_of_ble_eq_true rfl) dX13_holds_82 rfl rfl ⟨Nat.zero_le _, Nat.zero_le _⟩ rfl (fun H locs hw => ?_)
      exact hb85 v2 v4 s0 M5 L6 _ _ ls hD hw (lv_sub hl [1, 2, 3, 4, 0] rfl)
  have hb60 : ∀ (v2 : Int32) (v4 : Int64) (M : mwM) (L : mwL) (H : Heap) (locs : List Loc) (ls : Array Slot), fX13_holds_b60 fu k a1 v2 v4 M L = some (r0, M0, L0) → mw_W G ad NF TF FF M L H locs → lv_has ls 8 [(0, .ref (ad k)), (1, .int a1), (2, .int v2), (4, .long v4)] → W p l e ({ frames := 1, cells := 0, slots := 0, locals := 24 }) s m [.ref (ad k), .int a1].toArray below meth c H locs 0 0 (MQ below (mw_Qi G ad NF TF FF (mw_eqI r0 M0 L0)) [.ref (ad k), .int a1].toArray s 0 0 (mw_fr G)) (F0 m 60 ls []) := by
    intro v2 v4 M L H locs ls hD hw hl
    unfold fX13_holds_b60 at hD
    refine lv_iconst (v := 0) C.1.1 C.1.2.1 dX13_holds_60 (by decide) ?_
    exact hb61 v2 v4 0 M L _ _ ls hD hw (lv_sub hl [0, 1, 2, 3] rfl)
  have hb39 : ∀ (v2 : Int32) (s0 : Int64) (M : mwM) (L : mwL) (H : Heap) (locs : List Loc) (ls : Array Slot), fX13_holds_b39 fu k a1 v2 s0 M L = some (r0, M0, L0) → mw_W G ad NF TF FF M L H locs → lv_has ls 8 [(0, .ref (ad k)), (1, .int a1), (2, .int v2)] → W p l e ({ frames := 1, cells := 0, slots := 0, locals := 24 }) s m [.ref (ad k), .int a1].toArray below meth c H locs 0 0 (MQ below (mw_Qi G ad NF TF FF (mw_eqI r0 M0 L0)) [.ref (ad k), .int a1].toArray s 0 0 (mw_fr G)) (F0 m 39 ls [.long s0]) := by
    intro v2 s0 M L H locs ls hD hw hl
    unfold fX13_holds_b39 at hD
    refine lv_lstore (lv' := [(4, .long s0), (0, .ref (ad k)), (1, .int a1), (2, .int v2)]) C.1.1 C.1.2.1 dX13_holds_39 hl (by decide) rfl (fun ls hl => ?_)
    refine lv_iload_n C.1.1 C.1.2.1 dX13_holds_41 rfl (lv_at hl 3 rfl) ?_
    refine lv_bipush (v := 7) C.1.1 C.1.2.1 dX13_holds_42 (by decide) ?_
    refine lv_iand C.1.1 C.1.2.1 dX13_holds_44 ?_
    refine lv_iconst (v := 4) C.1.1 C.1.2.1 dX13_holds_45 (by decide) ?_
    refine lv_icmp_le (tgt := 60) C.1.1 C.1.2.1 dX13_holds_46 (by decide) (fun c1 => ?_) (fun c1 => ?_)
    · replace hD := g_pos c1 hD
      exact hb60 v2 s0 M L _ _ ls hD hw (lv_sub hl [1, 2, 3, 0] rfl)
    · replace hD := g_neg c1 hD
      refine lv_lload C.1.1 C.1.2.1 dX13_holds_49 (lv_at hl 0 rfl) ?_
      refine lv_lconst (v := 0) C.1.1 C.1.2.1 dX13_holds_51 (by decide) ?_
      refine W.lcmp C.1.1 C.1.2.1 dX13_holds_52 ?_
      refine lv_if_ne (tgt := 60) C.1.1 C.1.2.1 dX13_holds_53 (by decide) (fun c2 => ?_) (fun c2 => ?_)
      · replace hD := g_neg c2 hD
        exact hb60 v2 s0 M L _ _ ls hD hw (lv_sub hl [1, 2, 3, 0] rfl)
      · replace hD := g_pos c2 hD
        refine lv_iconst (v := 1) C.1.1 C.1.2.1 dX13_holds_56 (by decide) ?_
        refine lv_goto (tgt := 61) C.1.1 C.1.2.1 dX13_holds_57 (by decide) ?_
        exact hb61 v2 s0 1 M L _ _ ls hD hw (lv_sub hl [1, 2, 3, 0] rfl)
  unfold DX13_holds at hD
  refine lv_aload_n C.1.1 C.1.2.1 dX13_holds_0 rfl (lv_at hl 0 rfl) ?_
  refine mr_getR C hw kc_13 16 (Mc_N0 hk0) (Mc_T0 hk0) (Mc_F0_16 hk0) wd_2658 dX13_holds_1 (by decide) rfl ?_
  refine lv_iload_n C.1.1 C.1.2.1 dX13_holds_4 rfl (lv_at hl 1 rfl) ?_
  obtain ⟨q19, hD⟩ := g_ck hD
  refine mr_iald C hw (Mc_N13 hk0) (Mc_T13 hk0) q19 dX13_holds_5 ?_
  obtain ⟨x20, ex20, hD⟩ := g_let hD
  refine W.eq (g2 := F0 m 6 ls (.int x20 :: [])) (by rw [ex20]) ?_
  refine lv_istore_n (lv' := [(2, .int x20), (0, .ref (ad k)), (1, .int a1)]) C.1.1 C.1.2.1 dX13_holds_6 rfl hl (by decide) rfl (fun ls hl => ?_)
  refine lv_iload_n C.1.1 C.1.2.1 dX13_holds_7 rfl (lv_at hl 0 rfl) ?_
  refine lv_if_ne (tgt := 13) C.1.1 C.1.2.1 dX13_holds_8 (by decide) (fun c21 => ?_) (fun c21 => ?_)
  · replace hD := g_neg c21 hD
    refine lv_iload_n C.1.1 C.1.2.1 dX13_holds_13 rfl (lv_at hl 0 rfl) ?_
    refine lv_bipush (v := 8) C.1.1 C.1.2.1 dX13_holds_14 (by decide) ?_
    refine lv_ishr C.1.1 C.1.2.1 dX13_holds_16 ?_
    refine lv_bipush (v := 31) C.1.1 C.1.2.1 dX13_holds_17 (by decide) ?_
    refine lv_iand C.1.1 C.1.2.1 dX13_holds_19 ?_
    obtain ⟨x22, ex22, hD⟩ := g_let hD
    refine W.eq (g2 := F0 m 20 ls (.int x22 :: [])) (by rw [ex22]) ?_
    refine lv_istore_n (lv' := [(3, .int x22), (2, .int x20), (0, .ref (ad k)), (1, .int a1)]) C.1.1 C.1.2.1 dX13_holds_20 rfl hl (by decide) rfl (fun ls hl => ?_)
    refine lv_iload_n C.1.1 C.1.2.1 dX13_holds_21 rfl (lv_at hl 1 rfl) ?_
    refine lv_sipush (v := 8191) C.1.1 C.1.2.1 dX13_holds_22 (by decide) ?_
    refine lv_icmp_le (tgt := 33) C.1.1 C.1.2.1 dX13_holds_25 (by decide) (fun c23 => ?_) (fun c23 => ?_)
    · replace hD := g_pos c23 hD
      refine lv_aload_n C.1.1 C.1.2.1 dX13_holds_33 rfl (lv_at hl 2 rfl) ?_
      refine mr_getR C hw kc_13 25 (Mc_N0 hk0) (Mc_T0 hk0) (Mc_F0_25 hk0) wd_2667 dX13_holds_34 (by decide) rfl ?_
      refine lv_iload_n C.1.1 C.1.2.1 dX13_holds_37 rfl (lv_at hl 0 rfl) ?_
      obtain ⟨q24, hD⟩ := g_ck hD
      refine mr_lald C hw (Mc_N21 hk0) (Mc_T21 hk0) q24 dX13_holds_38 ?_
      exact hb39 x20 (L (k + 21) x22.toNatClampNeg) M L _ _ ls hD hw (lv_sub hl [2, 3, 1] rfl)
    · replace hD := g_neg c23 hD
      refine lv_iload_n C.1.1 C.1.2.1 dX13_holds_28 rfl (lv_at hl 0 rfl) ?_
      refine lv_i2l C.1.1 C.1.2.1 dX13_holds_29 rfl ?_
      refine lv_goto (tgt := 39) C.1.1 C.1.2.1 dX13_holds_30 (by decide) ?_
      exact hb39 x20 x22.toInt64 M L _ _ ls hD hw (lv_sub hl [2, 3, 1] rfl)
  · replace hD := g_pos c21 hD
    refine lv_iconst (v := 1) C.1.1 C.1.2.1 dX13_holds_11 (by decide) ?_
    exact mr_iret C hr hlocks hw (by decide +kernel) (Option.some.inj hD) dX13_holds_12

theorem dX13_saysSource_0 : decode cX13_saysSource 0 = .ok (.aload_n 0, 1) := by decide +kernel
theorem dX13_saysSource_1 : decode cX13_saysSource 1 = .ok (.getfield 7, 3) := by decide +kernel
theorem dX13_saysSource_4 : decode cX13_saysSource 4 = .ok (.aload_n 0, 1) := by decide +kernel
theorem dX13_saysSource_5 : decode cX13_saysSource 5 = .ok (.getfield 39, 3) := by decide +kernel
theorem dX13_saysSource_8 : decode cX13_saysSource 8 = .ok (.iload_n 1, 1) := by decide +kernel
theorem dX13_saysSource_9 : decode cX13_saysSource 9 = .ok (.iaload, 1) := by decide +kernel
theorem dX13_saysSource_10 : decode cX13_saysSource 10 = .ok (.iaload, 1) := by decide +kernel
theorem dX13_saysSource_11 : decode cX13_saysSource 11 = .ok (.iconst 5, 1) := by decide +kernel
theorem dX13_saysSource_12 : decode cX13_saysSource 12 = .ok (.if_icmp .ne 26, 3) := by decide +kernel
theorem dX13_saysSource_15 : decode cX13_saysSource 15 = .ok (.aload_n 0, 1) := by decide +kernel
theorem dX13_saysSource_16 : decode cX13_saysSource 16 = .ok (.getfield 42, 3) := by decide +kernel
theorem dX13_saysSource_19 : decode cX13_saysSource 19 = .ok (.iload_n 2, 1) := by decide +kernel
theorem dX13_saysSource_20 : decode cX13_saysSource 20 = .ok (.iaload, 1) := by decide +kernel
theorem dX13_saysSource_21 : decode cX13_saysSource 21 = .ok (.aload_n 0, 1) := by decide +kernel
theorem dX13_saysSource_22 : decode cX13_saysSource 22 = .ok (.getfield 39, 3) := by decide +kernel
theorem dX13_saysSource_25 : decode cX13_saysSource 25 = .ok (.iload_n 1, 1) := by decide +kernel
theorem dX13_saysSource_26 : decode cX13_saysSource 26 = .ok (.iaload, 1) := by decide +kernel
theorem dX13_saysSource_27 : decode cX13_saysSource 27 = .ok (.if_icmp .ne 7, 3) := by decide +kernel
theorem dX13_saysSource_30 : decode cX13_saysSource 30 = .ok (.iconst 1, 1) := by decide +kernel
theorem dX13_saysSource_31 : decode cX13_saysSource 31 = .ok (.goto 17, 3) := by decide +kernel
theorem dX13_saysSource_34 : decode cX13_saysSource 34 = .ok (.iconst 0, 1) := by decide +kernel
theorem dX13_saysSource_35 : decode cX13_saysSource 35 = .ok (.goto 13, 3) := by decide +kernel
theorem dX13_saysSource_38 : decode cX13_saysSource 38 = .ok (.iload_n 2, 1) := by decide +kernel
theorem dX13_saysSource_39 : decode cX13_saysSource 39 = .ok (.iload_n 1, 1) := by decide +kernel
theorem dX13_saysSource_40 : decode cX13_saysSource 40 = .ok (.if_icmp .ne 7, 3) := by decide +kernel
theorem dX13_saysSource_43 : decode cX13_saysSource 43 = .ok (.iconst 1, 1) := by decide +kernel
theorem dX13_saysSource_44 : decode cX13_saysSource 44 = .ok (.goto 4, 3) := by decide +kernel
theorem dX13_saysSource_47 : decode cX13_saysSource 47 = .ok (.iconst 0, 1) := by decide +kernel
theorem dX13_saysSource_48 : decode cX13_saysSource 48 = .ok (.ireturn, 1) := by decide +kernel
theorem cwX13_saysSource : mw_cwV yX13_saysSource cX13_saysSource 3 ((some .boolean)) 2 := ⟨⟨wd_20, wd_4114, by decide +kernel⟩, wd_4113, sl_325⟩
set_option maxHeartbeats 4000000 in
set_option maxRecDepth 100000 in
theorem tX13_saysSource (l : Launch) (G : mwG) (ad : Nat → Nat) (fu : Nat) (k : Nat) (a1 : Int32) (a2 : Int32) (M : mwM) (L : mwL) {r0 : Int32} {M0 : mwM} {L0 : mwL} (hD : DX13_saysSource fu k a1 a2 M L = some (r0, M0, L0)) (hk0 : isMc k) : Met l yX13_saysSource (Cond.code yX13_saysSource cX13_saysSource 3 ((some .boolean)) :: GT) ({ frames := 0, cells := 0, slots := 0, locals := 0 }) (mw_Pre G ad NF TF FF M L [.ref (ad k), .int a1, .int a2]) (mw_Qi G ad NF TF FF (mw_eqI r0 M0 L0)) 0 0 (mw_fr G) := by
  refine mw_enter (by decide) (Nat.le_of_ble_eq_true rfl) ?_
  intro p e s m below meth c ls C hr hlocks hnm hw hl
  have hl : lv_has ls 3 [(0, .ref (ad k)), (1, .int a1), (2, .int a2)] := hl
  have hb48 : ∀ (s0 : Int32) (M : mwM) (L : mwL) (H : Heap) (locs : List Loc) (ls : Array Slot), fX13_saysSource_b48 fu k a1 a2 s0 M L = some (r0, M0, L0) → mw_W G ad NF TF FF M L H locs → lv_has ls 3 [] → W p l e ({ frames := 0, cells := 0, slots := 0, locals := 0 }) s m [.ref (ad k), .int a1, .int a2].toArray below meth c H locs 0 0 (MQ below (mw_Qi G ad NF TF FF (mw_eqI r0 M0 L0)) [.ref (ad k), .int a1, .int a2].toArray s 0 0 (mw_fr G)) (F0 m 48 ls [.int s0]) := by
    intro s0 M L H locs ls hD hw hl
    unfold fX13_saysSource_b48 at hD
    obtain ⟨z1, hD⟩ := g_zz hD
    exact mr_iret C hr hlocks hw (nz_zz z1) (Option.some.inj hD) dX13_saysSource_48
  unfold DX13_saysSource at hD
  refine lv_aload_n C.1.1 C.1.2.1 dX13_saysSource_0 rfl (lv_at hl 0 rfl) ?_
  refine mr_getR C hw kc_13 3 (Mc_N0 hk0) (Mc_T0 hk0) (Mc_F0_3 hk0) wd_2645 dX13_saysSource_1 (by decide) rfl ?_
  refine lv_aload_n C.1.1 C.1.2.1 dX13_saysSource_4 rfl (lv_at hl 0 rfl) ?_
  refine mr_getR C hw kc_13 13 (Mc_N0 hk0) (Mc_T0 hk0) (Mc_F0_13 hk0) wd_2655 dX13_saysSource_5 (by decide) rfl ?_
  refine lv_iload_n C.1.1 C.1.2.1 dX13_saysSource_8 rfl (lv_at hl 1 rfl) ?_
  obtain ⟨q2, hD⟩ := g_ck hD
  refine mr_iald C hw (Mc_N10 hk0) (Mc_T10 hk0) q2 dX13_saysSource_9 ?_
  obtain ⟨q3, hD⟩ := g_ck hD
  refine mr_iald C hw (Mc_N1 hk0) (Mc_T1 hk0) q3 dX13_saysSource_10 ?_
  refine lv_iconst (v := 5) C.1.1 C.1.2.1 dX13_saysSource_11 (by decide) ?_
  refine lv_icmp_ne (tgt := 38) C.1.1 C.1.2.1 dX13_saysSource_12 (by decide) (fun c4 => ?_) (fun c4 => ?_)
  · replace hD := g_neg c4 hD
    refine lv_iload_n C.1.1 C.1.2.1 dX13_saysSource_38 rfl (lv_at hl 2 rfl) ?_
    refine lv_iload_n C.1.1 C.1.2.1 dX13_saysSource_39 rfl (lv_at hl 1 rfl) ?_
    refine lv_icmp_ne (tgt := 47) C.1.1 C.1.2.1 dX13_saysSource_40 (by decide) (fun c5 => ?_) (fun c5 => ?_)
    · replace hD := g_neg c5 hD
      refine lv_iconst (v := 0) C.1.1 C.1.2.1 dX13_saysSource_47 (by decide) ?_
      exact hb48 0 M L _ _ ls hD hw (lv_sub hl [] rfl)
    · replace hD := g_pos c5 hD
      refine lv_iconst (v := 1) C.1.1 C.1.2.1 dX13_saysSource_43 (by decide) ?_
      refine lv_goto (tgt := 48) C.1.1 C.1.2.1 dX13_saysSource_44 (by decide) ?_
      exact hb48 1 M L _ _ ls hD hw (lv_sub hl [] rfl)
  · replace hD := g_pos c4 hD
    refine lv_aload_n C.1.1 C.1.2.1 dX13_saysSource_15 rfl (lv_at hl 0 rfl) ?_
    refine mr_getR C hw kc_13 14 (Mc_N0 hk0) (Mc_T0 hk0) (Mc_F0_14 hk0) wd_2656 dX13_saysSource_16 (by decide) rfl ?_
    refine lv_iload_n C.1.1 C.1.2.1 dX13_saysSource_19 rfl (lv_at hl 2 rfl) ?_
    obtain ⟨q6, hD⟩ := g_ck hD
    refine mr_iald C hw (Mc_N11 hk0) (Mc_T11 hk0) q6 dX13_saysSource_20 ?_
    refine lv_aload_n C.1.1 C.1.2.1 dX13_saysSource_21 rfl (lv_at hl 0 rfl) ?_
    refine mr_getR C hw kc_13 13 (Mc_N0 hk0) (Mc_T0 hk0) (Mc_F0_13 hk0) wd_2655 dX13_saysSource_22 (by decide) rfl ?_
    refine lv_iload_n C.1.1 C.1.2.1 dX13_saysSource_25 rfl (lv_at hl 1 rfl) ?_
    obtain ⟨q7, hD⟩ := g_ck hD
    refine mr_iald C hw (Mc_N10 hk0) (Mc_T10 hk0) q7 dX13_saysSource_26 ?_
    refine lv_icmp_ne (tgt := 34) C.1.1 C.1.2.1 dX13_saysSource_27 (by decide) (fun c8 => ?_) (fun c8 => ?_)
    · replace hD := g_neg c8 hD
      refine lv_iconst (v := 0) C.1.1 C.1.2.1 dX13_saysSource_34 (by decide) ?_
      refine lv_goto (tgt := 48) C.1.1 C.1.2.1 dX13_saysSource_35 (by decide) ?_
      exact hb48 0 M L _ _ ls hD hw (lv_sub hl [] rfl)
    · replace hD := g_pos c8 hD
      refine lv_iconst (v := 1) C.1.1 C.1.2.1 dX13_saysSource_30 (by decide) ?_
      refine lv_goto (tgt := 48) C.1.1 C.1.2.1 dX13_saysSource_31 (by decide) ?_
      exact hb48 1 M L _ _ ls hD hw (lv_sub hl [] rfl)

theorem dX13_saysTarget_0 : decode cX13_saysTarget 0 = .ok (.aload_n 0, 1) := by decide +kernel
theorem dX13_saysTarget_1 : decode cX13_saysTarget 1 = .ok (.getfield 7, 3) := by decide +kernel
theorem dX13_saysTarget_4 : decode cX13_saysTarget 4 = .ok (.aload_n 0, 1) := by decide +kernel
theorem dX13_saysTarget_5 : decode cX13_saysTarget 5 = .ok (.getfield 42, 3) := by decide +kernel
theorem dX13_saysTarget_8 : decode cX13_saysTarget 8 = .ok (.iload_n 1, 1) := by decide +kernel
theorem dX13_saysTarget_9 : decode cX13_saysTarget 9 = .ok (.iaload, 1) := by decide +kernel
theorem dX13_saysTarget_10 : decode cX13_saysTarget 10 = .ok (.iaload, 1) := by decide +kernel
theorem dX13_saysTarget_11 : decode cX13_saysTarget 11 = .ok (.iconst 4, 1) := by decide +kernel
theorem dX13_saysTarget_12 : decode cX13_saysTarget 12 = .ok (.if_icmp .eq 14, 3) := by decide +kernel
theorem dX13_saysTarget_15 : decode cX13_saysTarget 15 = .ok (.iload_n 2, 1) := by decide +kernel
theorem dX13_saysTarget_16 : decode cX13_saysTarget 16 = .ok (.iload_n 1, 1) := by decide +kernel
theorem dX13_saysTarget_17 : decode cX13_saysTarget 17 = .ok (.if_icmp .ne 7, 3) := by decide +kernel
theorem dX13_saysTarget_20 : decode cX13_saysTarget 20 = .ok (.iconst 1, 1) := by decide +kernel
theorem dX13_saysTarget_21 : decode cX13_saysTarget 21 = .ok (.goto 4, 3) := by decide +kernel
theorem dX13_saysTarget_24 : decode cX13_saysTarget 24 = .ok (.iconst 0, 1) := by decide +kernel
theorem dX13_saysTarget_25 : decode cX13_saysTarget 25 = .ok (.ireturn, 1) := by decide +kernel
theorem dX13_saysTarget_26 : decode cX13_saysTarget 26 = .ok (.aload_n 0, 1) := by decide +kernel
theorem dX13_saysTarget_27 : decode cX13_saysTarget 27 = .ok (.getfield 39, 3) := by decide +kernel
theorem dX13_saysTarget_30 : decode cX13_saysTarget 30 = .ok (.iload_n 2, 1) := by decide +kernel
theorem dX13_saysTarget_31 : decode cX13_saysTarget 31 = .ok (.iaload, 1) := by decide +kernel
theorem dX13_saysTarget_32 : decode cX13_saysTarget 32 = .ok (.aload_n 0, 1) := by decide +kernel
theorem dX13_saysTarget_33 : decode cX13_saysTarget 33 = .ok (.getfield 42, 3) := by decide +kernel
theorem dX13_saysTarget_36 : decode cX13_saysTarget 36 = .ok (.iload_n 1, 1) := by decide +kernel
theorem dX13_saysTarget_37 : decode cX13_saysTarget 37 = .ok (.iaload, 1) := by decide +kernel
theorem dX13_saysTarget_38 : decode cX13_saysTarget 38 = .ok (.if_icmp .ne 22, 3) := by decide +kernel
theorem dX13_saysTarget_41 : decode cX13_saysTarget 41 = .ok (.aload_n 0, 1) := by decide +kernel
theorem dX13_saysTarget_42 : decode cX13_saysTarget 42 = .ok (.getfield 7, 3) := by decide +kernel
theorem dX13_saysTarget_45 : decode cX13_saysTarget 45 = .ok (.aload_n 0, 1) := by decide +kernel
theorem dX13_saysTarget_46 : decode cX13_saysTarget 46 = .ok (.getfield 42, 3) := by decide +kernel
theorem dX13_saysTarget_49 : decode cX13_saysTarget 49 = .ok (.iload_n 2, 1) := by decide +kernel
theorem dX13_saysTarget_50 : decode cX13_saysTarget 50 = .ok (.iaload, 1) := by decide +kernel
theorem dX13_saysTarget_51 : decode cX13_saysTarget 51 = .ok (.iaload, 1) := by decide +kernel
theorem dX13_saysTarget_52 : decode cX13_saysTarget 52 = .ok (.iconst 4, 1) := by decide +kernel
theorem dX13_saysTarget_53 : decode cX13_saysTarget 53 = .ok (.if_icmp .ge 7, 3) := by decide +kernel
theorem dX13_saysTarget_56 : decode cX13_saysTarget 56 = .ok (.iconst 1, 1) := by decide +kernel
theorem dX13_saysTarget_57 : decode cX13_saysTarget 57 = .ok (.goto 4, 3) := by decide +kernel
theorem dX13_saysTarget_60 : decode cX13_saysTarget 60 = .ok (.iconst 0, 1) := by decide +kernel
theorem dX13_saysTarget_61 : decode cX13_saysTarget 61 = .ok (.ireturn, 1) := by decide +kernel
theorem cwX13_saysTarget : mw_cwV yX13_saysTarget cX13_saysTarget 3 ((some .boolean)) 2 := ⟨⟨wd_20, wd_4078, by decide +kernel⟩, wd_4077, sl_316⟩
set_option maxHeartbeats 4000000 in
set_option maxRecDepth 100000 in
theorem tX13_saysTarget (l : Launch) (G : mwG) (ad : Nat → Nat) (fu : Nat) (k : Nat) (a1 : Int32) (a2 : Int32) (M : mwM) (L : mwL) {r0 : Int32} {M0 : mwM} {L0 : mwL} (hD : DX13_saysTarget fu k a1 a2 M L = some (r0, M0, L0)) (hk0 : isMc k) : Met l yX13_saysTarget (Cond.code yX13_saysTarget cX13_saysTarget 3 ((some .boolean)) :: GT) ({ frames := 0, cells := 0, slots := 0, locals := 0 }) (mw_Pre G ad NF TF FF M L [.ref (ad k), .int a1, .int a2]) (mw_Qi G ad NF TF FF (mw_eqI r0 M0 L0)) 0 0 (mw_fr G) := by
  refine mw_enter (by decide) (Nat.le_of_ble_eq_true rfl) ?_
  intro p e s m below meth c ls C hr hlocks hnm hw hl
  have hl : lv_has ls 3 [(0, .ref (ad k)), (1, .int a1), (2, .int a2)] := hl
  have hb25 : ∀ (s0 : Int32) (M : mwM) (L : mwL) (H : Heap) (locs : List Loc) (ls : Array Slot), fX13_saysTarget_b25 fu k a1 a2 s0 M L = some (r0, M0, L0) → mw_W G ad NF TF FF M L H locs → lv_has ls 3 [] → W p l e ({ frames := 0, cells := 0, slots := 0, locals := 0 }) s m [.ref (ad k), .int a1, .int a2].toArray below meth c H locs 0 0 (MQ below (mw_Qi G ad NF TF FF (mw_eqI r0 M0 L0)) [.ref (ad k), .int a1, .int a2].toArray s 0 0 (mw_fr G)) (F0 m 25 ls [.int s0]) := by
    intro s0 M L H locs ls hD hw hl
    unfold fX13_saysTarget_b25 at hD
    obtain ⟨z1, hD⟩ := g_zz hD
    exact mr_iret C hr hlocks hw (nz_zz z1) (Option.some.inj hD) dX13_saysTarget_25
  have hb61 : ∀ (s0 : Int32) (M : mwM) (L : mwL) (H : Heap) (locs : List Loc) (ls : Array Slot), fX13_saysTarget_b61 fu k a1 a2 s0 M L = some (r0, M0, L0) → mw_W G ad NF TF FF M L H locs → lv_has ls 3 [] → W p l e ({ frames := 0, cells := 0, slots := 0, locals := 0 }) s m [.ref (ad k), .int a1, .int a2].toArray below meth c H locs 0 0 (MQ below (mw_Qi G ad NF TF FF (mw_eqI r0 M0 L0)) [.ref (ad k), .int a1, .int a2].toArray s 0 0 (mw_fr G)) (F0 m 61 ls [.int s0]) := by
    intro s0 M L H locs ls hD hw hl
    unfold fX13_saysTarget_b61 at hD
    obtain ⟨z2, hD⟩ := g_zz hD
    exact mr_iret C hr hlocks hw (nz_zz z2) (Option.some.inj hD) dX13_saysTarget_61
  have hb60 : ∀ (M : mwM) (L : mwL) (H : Heap) (locs : List Loc) (ls : Array Slot), fX13_saysTarget_b60 fu k a1 a2 M L = some (r0, M0, L0) → mw_W G ad NF TF FF M L H locs → lv_has ls 3 [] → W p l e ({ frames := 0, cells := 0, slots := 0, locals := 0 }) s m [.ref (ad k), .int a1, .int a2].toArray below meth c H locs 0 0 (MQ below (mw_Qi G ad NF TF FF (mw_eqI r0 M0 L0)) [.ref (ad k), .int a1, .int a2].toArray s 0 0 (mw_fr G)) (F0 m 60 ls []) := by
    intro M L H locs ls hD hw hl
    unfold fX13_saysTarget_b60 at hD
    refine lv_iconst (v := 0) C.1.1 C.1.2.1 dX13_saysTarget_60 (by decide) ?_
    exact hb61 0 M L _ _ ls hD hw (lv_sub hl [] rfl)
  unfold DX13_saysTarget at hD
  refine lv_aload_n C.1.1 C.1.2.1 dX13_saysTarget_0 rfl (lv_at hl 0 rfl) ?_
  refine mr_getR C hw kc_13 3 (Mc_N0 hk0) (Mc_T0 hk0) (Mc_F0_3 hk0) wd_2645 dX13_saysTarget_1 (by decide) rfl ?_
  refine lv_aload_n C.1.1 C.1.2.1 dX13_saysTarget_4 rfl (lv_at hl 0 rfl) ?_
  refine mr_getR C hw kc_13 14 (Mc_N0 hk0) (Mc_T0 hk0) (Mc_F0_14 hk0) wd_2656 dX13_saysTarget_5 (by decide) rfl ?_
  refine lv_iload_n C.1.1 C.1.2.1 dX13_saysTarget_8 rfl (lv_at hl 1 rfl) ?_
  obtain ⟨q3, hD⟩ := g_ck hD
  refine mr_iald C hw (Mc_N11 hk0) (Mc_T11 hk0) q3 dX13_saysTarget_9 ?_
  obtain ⟨q4, hD⟩ := g_ck hD
  refine mr_iald C hw (Mc_N1 hk0) (Mc_T1 hk0) q4 dX13_saysTarget_10 ?_
  refine lv_iconst (v := 4) C.1.1 C.1.2.1 dX13_saysTarget_11 (by decide) ?_
  refine lv_icmp_eq (tgt := 26) C.1.1 C.1.2.1 dX13_saysTarget_12 (by decide) (fun c5 => ?_) (fun c5 => ?_)
  · replace hD := g_pos c5 hD
    refine lv_aload_n C.1.1 C.1.2.1 dX13_saysTarget_26 rfl (lv_at hl 0 rfl) ?_
    refine mr_getR C hw kc_13 13 (Mc_N0 hk0) (Mc_T0 hk0) (Mc_F0_13 hk0) wd_2655 dX13_saysTarget_27 (by decide) rfl ?_
    refine lv_iload_n C.1.1 C.1.2.1 dX13_saysTarget_30 rfl (lv_at hl 2 rfl) ?_
    obtain ⟨q6, hD⟩ := g_ck hD
    refine mr_iald C hw (Mc_N10 hk0) (Mc_T10 hk0) q6 dX13_saysTarget_31 ?_
    refine lv_aload_n C.1.1 C.1.2.1 dX13_saysTarget_32 rfl (lv_at hl 0 rfl) ?_
    refine mr_getR C hw kc_13 14 (Mc_N0 hk0) (Mc_T0 hk0) (Mc_F0_14 hk0) wd_2656 dX13_saysTarget_33 (by decide) rfl ?_
    refine lv_iload_n C.1.1 C.1.2.1 dX13_saysTarget_36 rfl (lv_at hl 1 rfl) ?_
    obtain ⟨q7, hD⟩ := g_ck hD
    refine mr_iald C hw (Mc_N11 hk0) (Mc_T11 hk0) q7 dX13_saysTarget_37 ?_
    refine lv_icmp_ne (tgt := 60) C.1.1 C.1.2.1 dX13_saysTarget_38 (by decide) (fun c8 => ?_) (fun c8 => ?_)
    · replace hD := g_neg c8 hD
      exact hb60 M L _ _ ls hD hw (lv_sub hl [] rfl)
    · replace hD := g_pos c8 hD
      refine lv_aload_n C.1.1 C.1.2.1 dX13_saysTarget_41 rfl (lv_at hl 0 rfl) ?_
      refine mr_getR C hw kc_13 3 (Mc_N0 hk0) (Mc_T0 hk0) (Mc_F0_3 hk0) wd_2645 dX13_saysTarget_42 (by decide) rfl ?_
      refine lv_aload_n C.1.1 C.1.2.1 dX13_saysTarget_45 rfl (lv_at hl 0 rfl) ?_
      refine mr_getR C hw kc_13 14 (Mc_N0 hk0) (Mc_T0 hk0) (Mc_F0_14 hk0) wd_2656 dX13_saysTarget_46 (by decide) rfl ?_
      refine lv_iload_n C.1.1 C.1.2.1 dX13_saysTarget_49 rfl (lv_at hl 2 rfl) ?_
      obtain ⟨q9, hD⟩ := g_ck hD
      refine mr_iald C hw (Mc_N11 hk0) (Mc_T11 hk0) q9 dX13_saysTarget_50 ?_
      obtain ⟨q10, hD⟩ := g_ck hD
      refine mr_iald C hw (Mc_N1 hk0) (Mc_T1 hk0) q10 dX13_saysTarget_51 ?_
      refine lv_iconst (v := 4) C.1.1 C.1.2.1 dX13_saysTarget_52 (by decide) ?_
      refine lv_icmp_ge (tgt := 60) C.1.1 C.1.2.1 dX13_saysTarget_53 (by decide) (fun c11 => ?_) (fun c11 => ?_)
      · replace hD := g_pos c11 hD
        exact hb60 M L _ _ ls hD hw (lv_sub hl [] rfl)
      · replace hD := g_neg c11 hD
        refine lv_iconst (v := 1) C.1.1 C.1.2.1 dX13_saysTarget_56 (by decide) ?_
        refine lv_goto (tgt := 61) C.1.1 C.1.2.1 dX13_saysTarget_57 (by decide) ?_
        exact hb61 1 M L _ _ ls hD hw (lv_sub hl [] rfl)
  · replace hD := g_neg c5 hD
    refine lv_iload_n C.1.1 C.1.2.1 dX13_saysTarget_15 rfl (lv_at hl 2 rfl) ?_
    refine lv_iload_n C.1.1 C.1.2.1 dX13_saysTarget_16 rfl (lv_at hl 1 rfl) ?_
    refine lv_icmp_ne (tgt := 24) C.1.1 C.1.2.1 dX13_saysTarget_17 (by decide) (fun c12 => ?_) (fun c12 => ?_)
    · replace hD := g_neg c12 hD
      refine lv_iconst (v := 0) C.1.1 C.1.2.1 dX13_saysTarget_24 (by decide) ?_
      exact hb25 0 M L _ _ ls hD hw (lv_sub hl [] rfl)
    · replace hD := g_pos c12 hD
      refine lv_iconst (v := 1) C.1.1 C.1.2.1 dX13_saysTarget_20 (by decide) ?_
      refine lv_goto (tgt := 25) C.1.1 C.1.2.1 dX13_saysTarget_21 (by decide) ?_
      exact hb25 1 M L _ _ ls hD hw (lv_sub hl [] rfl)

theorem dX13_waitsFor_0 : decode cX13_waitsFor 0 = .ok (.iconst 0, 1) := by decide +kernel
theorem dX13_waitsFor_1 : decode cX13_waitsFor 1 = .ok (.istore_n 2, 1) := by decide +kernel
theorem dX13_waitsFor_2 : decode cX13_waitsFor 2 = .ok (.iconst 1, 1) := by decide +kernel
theorem dX13_waitsFor_3 : decode cX13_waitsFor 3 = .ok (.istore_n 3, 1) := by decide +kernel
theorem dX13_waitsFor_4 : decode cX13_waitsFor 4 = .ok (.iconst 1, 1) := by decide +kernel
theorem dX13_waitsFor_5 : decode cX13_waitsFor 5 = .ok (.istore 4, 2) := by decide +kernel
theorem dX13_waitsFor_7 : decode cX13_waitsFor 7 = .ok (.iload 4, 2) := by decide +kernel
theorem dX13_waitsFor_9 : decode cX13_waitsFor 9 = .ok (.aload_n 0, 1) := by decide +kernel
theorem dX13_waitsFor_10 : decode cX13_waitsFor 10 = .ok (.getfield 106, 3) := by decide +kernel
theorem dX13_waitsFor_13 : decode cX13_waitsFor 13 = .ok (.if_icmp .gt 64, 3) := by decide +kernel
theorem dX13_waitsFor_16 : decode cX13_waitsFor 16 = .ok (.iload_n 2, 1) := by decide +kernel
theorem dX13_waitsFor_17 : decode cX13_waitsFor 17 = .ok (.ifCond .ne 13, 3) := by decide +kernel
theorem dX13_waitsFor_20 : decode cX13_waitsFor 20 = .ok (.aload_n 0, 1) := by decide +kernel
theorem dX13_waitsFor_21 : decode cX13_waitsFor 21 = .ok (.iload_n 1, 1) := by decide +kernel
theorem dX13_waitsFor_22 : decode cX13_waitsFor 22 = .ok (.iload 4, 2) := by decide +kernel
theorem dX13_waitsFor_24 : decode cX13_waitsFor 24 = .ok (.invokevirtual 154, 3) := by decide +kernel
theorem dX13_waitsFor_27 : decode cX13_waitsFor 27 = .ok (.ifCond .eq 7, 3) := by decide +kernel
theorem dX13_waitsFor_30 : decode cX13_waitsFor 30 = .ok (.iconst 1, 1) := by decide +kernel
theorem dX13_waitsFor_31 : decode cX13_waitsFor 31 = .ok (.goto 4, 3) := by decide +kernel
theorem dX13_waitsFor_34 : decode cX13_waitsFor 34 = .ok (.iconst 0, 1) := by decide +kernel
theorem dX13_waitsFor_35 : decode cX13_waitsFor 35 = .ok (.istore_n 2, 1) := by decide +kernel
theorem dX13_waitsFor_36 : decode cX13_waitsFor 36 = .ok (.iload_n 3, 1) := by decide +kernel
theorem dX13_waitsFor_37 : decode cX13_waitsFor 37 = .ok (.ifCond .eq 32, 3) := by decide +kernel
theorem dX13_waitsFor_40 : decode cX13_waitsFor 40 = .ok (.aload_n 0, 1) := by decide +kernel
theorem dX13_waitsFor_41 : decode cX13_waitsFor 41 = .ok (.iload_n 1, 1) := by decide +kernel
theorem dX13_waitsFor_42 : decode cX13_waitsFor 42 = .ok (.iload 4, 2) := by decide +kernel
theorem dX13_waitsFor_44 : decode cX13_waitsFor 44 = .ok (.invokevirtual 154, 3) := by decide +kernel
theorem dX13_waitsFor_47 : decode cX13_waitsFor 47 = .ok (.ifCond .eq 18, 3) := by decide +kernel
theorem dX13_waitsFor_50 : decode cX13_waitsFor 50 = .ok (.aload_n 0, 1) := by decide +kernel
theorem dX13_waitsFor_51 : decode cX13_waitsFor 51 = .ok (.getfield 36, 3) := by decide +kernel
theorem dX13_waitsFor_54 : decode cX13_waitsFor 54 = .ok (.aload_n 0, 1) := by decide +kernel
theorem dX13_waitsFor_55 : decode cX13_waitsFor 55 = .ok (.getfield 39, 3) := by decide +kernel
theorem dX13_waitsFor_58 : decode cX13_waitsFor 58 = .ok (.iload 4, 2) := by decide +kernel
theorem dX13_waitsFor_60 : decode cX13_waitsFor 60 = .ok (.iaload, 1) := by decide +kernel
theorem dX13_waitsFor_61 : decode cX13_waitsFor 61 = .ok (.baload, 1) := by decide +kernel
theorem dX13_waitsFor_62 : decode cX13_waitsFor 62 = .ok (.ifCond .eq 7, 3) := by decide +kernel
theorem dX13_waitsFor_65 : decode cX13_waitsFor 65 = .ok (.iconst 1, 1) := by decide +kernel
theorem dX13_waitsFor_66 : decode cX13_waitsFor 66 = .ok (.goto 4, 3) := by decide +kernel
theorem dX13_waitsFor_69 : decode cX13_waitsFor 69 = .ok (.iconst 0, 1) := by decide +kernel
theorem dX13_waitsFor_70 : decode cX13_waitsFor 70 = .ok (.istore_n 3, 1) := by decide +kernel
theorem dX13_waitsFor_71 : decode cX13_waitsFor 71 = .ok (.iinc 4 1, 3) := by decide +kernel
theorem dX13_waitsFor_74 : decode cX13_waitsFor 74 = .ok (.goto (-67), 3) := by decide +kernel
theorem dX13_waitsFor_77 : decode cX13_waitsFor 77 = .ok (.iload_n 2, 1) := by decide +kernel
theorem dX13_waitsFor_78 : decode cX13_waitsFor 78 = .ok (.ifCond .eq 11, 3) := by decide +kernel
theorem dX13_waitsFor_81 : decode cX13_waitsFor 81 = .ok (.iload_n 3, 1) := by decide +kernel
theorem dX13_waitsFor_82 : decode cX13_waitsFor 82 = .ok (.ifCond .eq 7, 3) := by decide +kernel
theorem dX13_waitsFor_85 : decode cX13_waitsFor 85 = .ok (.iconst 1, 1) := by decide +kernel
theorem dX13_waitsFor_86 : decode cX13_waitsFor 86 = .ok (.goto 4, 3) := by decide +kernel
theorem dX13_waitsFor_89 : decode cX13_waitsFor 89 = .ok (.iconst 0, 1) := by decide +kernel
theorem dX13_waitsFor_90 : decode cX13_waitsFor 90 = .ok (.ireturn, 1) := by decide +kernel
theorem cwX13_waitsFor : mw_cwV yX13_waitsFor cX13_waitsFor 5 ((some .boolean)) 1 := ⟨⟨wd_20, wd_4110, by decide +kernel⟩, wd_4109, sl_324⟩
set_option maxHeartbeats 4000000 in
set_option maxRecDepth 100000 in
theorem tX13_waitsFor (l : Launch) (G : mwG) (ad : Nat → Nat) (fu : Nat) (k : Nat) (a1 : Int32) (M : mwM) (L : mwL) {r0 : Int32} {M0 : mwM} {L0 : mwL} (hD : DX13_waitsFor fu k a1 M L = some (r0, M0, L0)) (hk0 : isMc k) : Met l yX13_waitsFor (Cond.code yX13_waitsFor cX13_waitsFor 5 ((some .boolean)) :: GT) ({ frames := 1, cells := 0, slots := 0, locals := 22 }) (mw_Pre G ad NF TF FF M L [.ref (ad k), .int a1]) (mw_Qi G ad NF TF FF (mw_eqI r0 M0 L0)) 0 0 (mw_fr G) := by
  refine mw_enter (by decide) (Nat.le_of_ble_eq_true rfl) ?_
  intro p e s m below meth c ls C hr hlocks hnm hw hl
  have hl : lv_has ls 5 [(0, .ref (ad k)), (1, .int a1)] := hl
  have hb90 : ∀ (s0 : Int32) (M : mwM) (L : mwL) (H : Heap) (locs : List Loc) (ls : Array Slot), fX13_waitsFor_b90 fu k a1 s0 M L = some (r0, M0, L0) → mw_W G ad NF TF FF M L H locs → lv_has ls 5 [] → W p l e ({ frames := 1, cells := 0, slots := 0, locals := 22 }) s m [.ref (ad k), .int a1].toArray below meth c H locs 0 0 (MQ below (mw_Qi G ad NF TF FF (mw_eqI r0 M0 L0)) [.ref (ad k), .int a1].toArray s 0 0 (mw_fr G)) (F0 m 90 ls [.int s0]) := by
    intro s0 M L H locs ls hD hw hl
    unfold fX13_waitsFor_b90 at hD
    obtain ⟨z19, hD⟩ := g_zz hD
    exact mr_iret C hr hlocks hw (nz_zz z19) (Option.some.inj hD) dX13_waitsFor_90
  have hb89 : ∀ (M : mwM) (L : mwL) (H : Heap) (locs : List Loc) (ls : Array Slot), fX13_waitsFor_b89 fu k a1 M L = some (r0, M0, L0) → mw_W G ad NF TF FF M L H locs → lv_has ls 5 [] → W p l e ({ frames := 1, cells := 0, slots := 0, locals := 22 }) s m [.ref (ad k), .int a1].toArray below meth c H locs 0 0 (MQ below (mw_Qi G ad NF TF FF (mw_eqI r0 M0 L0)) [.ref (ad k), .int a1].toArray s 0 0 (mw_fr G)) (F0 m 89 ls []) := by
    intro M L H locs ls hD hw hl
    unfold fX13_waitsFor_b89 at hD
    refine lv_iconst (v := 0) C.1.1 C.1.2.1 dX13_waitsFor_89 (by decide) ?_
    exact hb90 0 M L _ _ ls hD hw (lv_sub hl [] rfl)
  have hh7 : ∀ (f : Nat) (v2 : Int32) (v3 : Int32) (v4 : Int32) (M : mwM) (L : mwL) (H : Heap) (locs : List Loc) (ls : Array Slot), fX13_waitsFor_h7 fu k a1 f (v2, v3, v4, M, L) = some (r0, M0, L0) → mw_W G ad NF TF FF M L H locs → lv_has ls 5 [(0, .ref (ad k)), (1, .int a1), (2, .int v2), (3, .int v3), (4, .int v4)] → W p l e ({ frames := 1, cells := 0, slots := 0, locals := 22 }) s m [.ref (ad k), .int a1].toArray below meth c H locs 0 0 (MQ below (mw_Qi G ad NF TF FF (mw_eqI r0 M0 L0)) [.ref (ad k), .int a1].toArray s 0 0 (mw_fr G)) (F0 m 7 ls []) := by
    intro f
    induction f with
    | zero => intro v2 v3 v4 M L H locs ls hD; cases hD
    | succ f7 ih7 =>
      intro v2 v3 v4 M L H locs ls hD hw hl
      replace hD : fX13_waitsFor_i7 fu k a1 (fX13_waitsFor_h7 fu k a1 f7) v2 v3 v4 M L = some (r0, M0, L0) := hD
      have hb70 : ∀ (v2 : Int32) (v4 : Int32) (s0 : Int32) (M : mwM) (L : mwL) (H : Heap) (locs : List Loc) (ls : Array Slot), fX13_waitsFor_b70 fu k a1 (fX13_waitsFor_h7 fu k a1 f7) v2 v4 s0 M L = some (r0, M0, L0) → mw_W G ad NF TF FF M L H locs → lv_has ls 5 [(0, .ref (ad k)), (1, .int a1), (2, .int v2), (4, .int v4)] → W p l e ({ frames := 1, cells := 0, slots := 0, locals := 22 }) s m [.ref (ad k), .int a1].toArray below meth c H locs 0 0 (MQ below (mw_Qi G ad NF TF FF (mw_eqI r0 M0 L0)) [.ref (ad k), .int a1].toArray s 0 0 (mw_fr G)) (F0 m 70 ls [.int s0]) := by
        intro v2 v4 s0 M L H locs ls hD hw hl
        unfold fX13_waitsFor_b70 at hD
        refine lv_istore_n (lv' := [(3, .int s0), (0, .ref (ad k)), (1, .int a1), (2, .int v2), (4, .int v4)]) C.1.1 C.1.2.1 dX13_waitsFor_70 rfl hl (by decide) rfl (fun ls hl => ?_)
        obtain ⟨x18, ex18, hD⟩ := g_let hD
        refine lv_iinc (v := x18) (lv' := [(4, .int x18), (3, .int s0), (0, .ref (ad k)), (1, .int a1), (2, .int v2)]) C.1.1 C.1.2.1 dX13_waitsFor_71 hl (k := 4) rfl (by rw [ex18]; rfl) (by decide) rfl (fun ls hl => ?_)
        refine lv_goto (tgt := 7) C.1.1 C.1.2.1 dX13_waitsFor_74 (by decide) ?_
        exact ih7 v2 s0 x18 M L _ _ ls hD hw (lv_sub hl [2, 3, 4, 1, 0] rfl)
      have hb69 : ∀ (v2 : Int32) (v4 : Int32) (M : mwM) (L : mwL) (H : Heap) (locs : List Loc) (ls : Array Slot), fX13_waitsFor_b69 fu k a1 (fX13_waitsFor_h7 fu k a1 f7) v2 v4 M L = some (r0, M0, L0) → mw_W G ad NF TF FF M L H locs → lv_has ls 5 [(0, .ref (ad k)), (1, .int a1), (2, .int v2), (4, .int v4)] → W p l e ({ frames := 1, cells := 0, slots := 0, locals := 22 }) s m [.ref (ad k), .int a1].toArray below meth c H locs 0 0 (MQ below (mw_Qi G ad NF TF FF (mw_eqI r0 M0 L0)) [.ref (ad k), .int a1].toArray s 0 0 (mw_fr G)) (F0 m 69 ls []) := by
        intro v2 v4 M L H locs ls hD hw hl
        unfold fX13_waitsFor_b69 at hD
        refine lv_iconst (v := 0) C.1.1 C.1.2.1 dX13_waitsFor_69 (by decide) ?_
        exact hb70 v2 v4 0 M L _ _ ls hD hw (lv_sub hl [0, 1, 2, 3] rfl)
      have hb65 : ∀ (v2 : Int32) (v4 : Int32) (M : mwM) (L : mwL) (H : Heap) (locs : List Loc) (ls : Array Slot), fX13_waitsFor_b65 fu k a1 (fX13_waitsFor_h7 fu k a1 f7) v2 v4 M L = some (r0, M0, L0) → mw_W G ad NF TF FF M L H locs → lv_has ls 5 [(0, .ref (ad k)), (1, .int a1), (2, .int v2), (4, .int v4)] → W p l e ({ frames := 1, cells := 0, slots := 0, locals := 22 }) s m [.ref (ad k), .int a1].toArray below meth c H locs 0 0 (MQ below (mw_Qi G ad NF TF FF (mw_eqI r0 M0 L0)) [.ref (ad k), .int a1].toArray s 0 0 (mw_fr G)) (F0 m 65 ls []) := by
        intro v2 v4 M L H locs ls hD hw hl
        unfold fX13_waitsFor_b65 at hD
        refine lv_iconst (v := 1) C.1.1 C.1.2.1 dX13_waitsFor_65 (by decide) ?_
        refine lv_goto (tgt := 70) C.1.1 C.1.2.1 dX13_waitsFor_66 (by decide) ?_
        exact hb70 v2 v4 1 M L _ _ ls hD hw (lv_sub hl [0, 1, 2, 3] rfl)
      have hb35 : ∀ (v3 : Int32) (v4 : Int32) (s0 : Int32) (M : mwM) (L : mwL) (H : Heap) (locs : List Loc) (ls : Array Slot), fX13_waitsFor_b35 fu k a1 (fX13_waitsFor_h7 fu k a1 f7) v3 v4 s0 M L = some (r0, M0, L0) → mw_W G ad NF TF FF M L H locs → lv_has ls 5 [(0, .ref (ad k)), (1, .int a1), (3, .int v3), (4, .int v4)] → W p l e ({ frames := 1, cells := 0, slots := 0, locals := 22 }) s m [.ref (ad k), .int a1].toArray below meth c H locs 0 0 (MQ below (mw_Qi G ad NF TF FF (mw_eqI r0 M0 L0)) [.ref (ad k), .int a1].toArray s 0 0 (mw_fr G)) (F0 m 35 ls [.int s0]) := by
        intro v3 v4 s0 M L H locs ls hD hw hl
        unfold fX13_waitsFor_b35 at hD
        refine lv_istore_n (lv' := [(2, .int s0), (0, .ref (ad k)), (1, .int a1), (3, .int v3), (4, .int v4)]) C.1.1 C.1.2.1 dX13_waitsFor_35 rfl hl (by decide) rfl (fun ls hl => ?_)
        refine lv_iload_n C.1.1 C.1.2.1 dX13_waitsFor_36 rfl (lv_at hl 3 rfl) ?_
        refine lv_if_eq (tgt := 69) C.1.1 C.1.2.1 dX13_waitsFor_37 (by decide) (fun c10 => ?_) (fun c10 => ?_)
        · replace hD := g_pos c10 hD
          exact hb69 s0 v4 M L _ _ ls hD hw (lv_sub hl [1, 2, 0, 4] rfl)
        · replace hD := g_neg c10 hD
          refine lv_aload_n C.1.1 C.1.2.1 dX13_waitsFor_40 rfl (lv_at hl 1 rfl) ?_
          refine lv_iload_n C.1.1 C.1.2.1 dX13_waitsFor_41 rfl (lv_at hl 2 rfl) ?_
          refine lv_iload C.1.1 C.1.2.1 dX13_waitsFor_42 (lv_at hl 4 rfl) ?_
          obtain ⟨r13, M11, L12, h1, hD⟩ := g_b3 hD
          refine md_cvI (As := [.int a1, .int v4]) (rest := []) C hw (tX13_saysSource l G ad fu k a1 v4 M L h1 hk0) kc_13 (Mc_N0 hk0) (Mc_T0 hk0) wd_4111 cwX13_saysSource ⟨Nat.le_of_ble_eq_true rfl, Nat.le_of_ble_eq_true rfl⟩ rfl hl.1 (Nat.le_of_ble_eq_true rfl) dX13_waitsFor_44 rfl rfl ⟨Nat.zero_le _, Nat.zero_le _⟩ rfl (fun H locs hw => ?_)
          refine lv_if_eq (tgt := 65) C.1.1 C.1.2.1 dX13_waitsFor_47 (by decide) (fun c14 => ?_) (fun c14 => ?_)
          · replace hD := g_pos c14 hD
            exact hb65 s0 v4 M11 L12 _ _ ls hD hw (lv_sub hl [1, 2, 0, 4] rfl)
          · replace hD := g_neg c14 hD
            refine lv_aload_n C.1.1 C.1.2.1 dX13_waitsFor_50 rfl (lv_at hl 1 rfl) ?_
            refine mr_getR C hw kc_13 11 (Mc_N0 hk0) (Mc_T0 hk0) (Mc_F0_11 hk0) wd_2653 dX13_waitsFor_51 (by decide) rfl ?_
            refine lv_aload_n C.1.1 C.1.2.1 dX13_waitsFor_54 rfl (lv_at hl 1 rfl) ?_
            refine mr_getR C hw kc_13 13 (Mc_N0 hk0) (Mc_T0 hk0) (Mc_F0_13 hk0) wd_2655 dX13_waitsFor_55 (by decide) rfl ?_
            refine lv_iload C.1.1 C.1.2.1 dX13_waitsFor_58 (lv_at hl 4 rfl) ?_
            obtain ⟨q15, hD⟩ := g_ck hD
            refine mr_iald C hw (Mc_N10 hk0) (Mc_T10 hk0) q15 dX13_waitsFor_60 ?_
            obtain ⟨q16, hD⟩ := g_ck hD
            refine mr_zald C hw (Mc_N9 hk0) (Mc_T9 hk0) q16 dX13_waitsFor_61 ?_
            refine lv_if_eq (tgt := 69) C.1.1 C.1.2.1 dX13_waitsFor_62 (by decide) (fun c17 => ?_) (fun c17 => ?_)
            · replace hD := g_pos c17 hD
              exact hb69 s0 v4 M11 L12 _ _ ls hD hw (lv_sub hl [1, 2, 0, 4] rfl)
            · replace hD := g_neg c17 hD
              exact hb65 s0 v4 M11 L12 _ _ ls hD hw (lv_sub hl [1, 2, 0, 4] rfl)
      have hb30 : ∀ (v3 : Int32) (v4 : Int32) (M : mwM) (L : mwL) (H : Heap) (locs : List Loc) (ls : Array Slot), fX13_waitsFor_b30 fu k a1 (fX13_waitsFor_h7 fu k a1 f7) v3 v4 M L = some (r0, M0, L0) → mw_W G ad NF TF FF M L H locs → lv_has ls 5 [(0, .ref (ad k)), (1, .int a1), (3, .int v3), (4, .int v4)] → W p l e ({ frames := 1, cells := 0, slots := 0, locals := 22 }) s m [.ref (ad k), .int a1].toArray below meth c H locs 0 0 (MQ below (mw_Qi G ad NF TF FF (mw_eqI r0 M0 L0)) [.ref (ad k), .int a1].toArray s 0 0 (mw_fr G)) (F0 m 30 ls []) := by
        intro v3 v4 M L H locs ls hD hw hl
        unfold fX13_waitsFor_b30 at hD
        refine lv_iconst (v := 1) C.1.1 C.1.2.1 dX13_waitsFor_30 (by decide) ?_
        refine lv_goto (tgt := 35) C.1.1 C.1.2.1 dX13_waitsFor_31 (by decide) ?_
        exact hb35 v3 v4 1 M L _ _ ls hD hw (lv_sub hl [0, 1, 2, 3] rfl)
      unfold fX13_waitsFor_i7 at hD
      refine lv_iload C.1.1 C.1.2.1 dX13_waitsFor_7 (lv_at hl 4 rfl) ?_
      refine lv_aload_n C.1.1 C.1.2.1 dX13_waitsFor_9 rfl (lv_at hl 0 rfl) ?_
      refine mr_getI C hw kc_13 12 (Mc_N0 hk0) (Mc_T0 hk0) wd_2654 dX13_waitsFor_10 (by decide) rfl ?_
      refine lv_icmp_gt (tgt := 77) C.1.1 C.1.2.1 dX13_waitsFor_13 (by decide) (fun c1 => ?_) (fun c1 => ?_)
      · replace hD := g_pos c1 hD
        refine lv_iload_n C.1.1 C.1.2.1 dX13_waitsFor_77 rfl (lv_at hl 2 rfl) ?_
        refine lv_if_eq (tgt := 89) C.1.1 C.1.2.1 dX13_waitsFor_78 (by decide) (fun c2 => ?_) (fun c2 => ?_)
        · replace hD := g_pos c2 hD
          exact hb89 M L _ _ ls hD hw (lv_sub hl [] rfl)
        · replace hD := g_neg c2 hD
          refine lv_iload_n C.1.1 C.1.2.1 dX13_waitsFor_81 rfl (lv_at hl 3 rfl) ?_
          refine lv_if_eq (tgt := 89) C.1.1 C.1.2.1 dX13_waitsFor_82 (by decide) (fun c3 => ?_) (fun c3 => ?_)
          · replace hD := g_pos c3 hD
            exact hb89 M L _ _ ls hD hw (lv_sub hl [] rfl)
          · replace hD := g_neg c3 hD
            refine lv_iconst (v := 1) C.1.1 C.1.2.1 dX13_waitsFor_85 (by decide) ?_
            refine lv_goto (tgt := 90) C.1.1 C.1.2.1 dX13_waitsFor_86 (by decide) ?_
            exact hb90 1 M L _ _ ls hD hw (lv_sub hl [] rfl)
      · replace hD := g_neg c1 hD
        refine lv_iload_n C.1.1 C.1.2.1 dX13_waitsFor_16 rfl (lv_at hl 2 rfl) ?_
        refine lv_if_ne (tgt := 30) C.1.1 C.1.2.1 dX13_waitsFor_17 (by decide) (fun c4 => ?_) (fun c4 => ?_)
        · replace hD := g_neg c4 hD
          exact hb30 v3 v4 M L _ _ ls hD hw (lv_sub hl [0, 1, 3, 4] rfl)
        · replace hD := g_pos c4 hD
          refine lv_aload_n C.1.1 C.1.2.1 dX13_waitsFor_20 rfl (lv_at hl 0 rfl) ?_
          refine lv_iload_n C.1.1 C.1.2.1 dX13_waitsFor_21 rfl (lv_at hl 1 rfl) ?_
          refine lv_iload C.1.1 C.1.2.1 dX13_waitsFor_22 (lv_at hl 4 rfl) ?_
          obtain ⟨r8, M5, L6, h1, hD⟩ := g_b3 hD
          refine md_cvI (As := [.int a1, .int v4]) (rest := []) C hw (tX13_saysSource l G ad fu k a1 v4 M L h1 hk0) kc_13 (Mc_N0 hk0) (Mc_T0 hk0) wd_4111 cwX13_saysSource ⟨Nat.le_of_ble_eq_true rfl, Nat.le_of_ble_eq_true rfl⟩ rfl hl.1 (Nat.le_of_ble_eq_true rfl) dX13_waitsFor_24 rfl rfl ⟨Nat.zero_le _, Nat.zero_le _⟩ rfl (fun H locs hw => ?_)
          refine lv_if_eq (tgt := 34) C.1.1 C.1.2.1 dX13_waitsFor_27 (by decide) (fun c9 => ?_) (fun c9 => ?_)
          · replace hD := g_pos c9 hD
            refine lv_iconst (v := 0) C.1.1 C.1.2.1 dX13_waitsFor_34 (by decide) ?_
            exact hb35 v3 v4 0 M5 L6 _ _ ls hD hw (lv_sub hl [0, 1, 3, 4] rfl)
          · replace hD := g_neg c9 hD
            exact hb30 v3 v4 M5 L6 _ _ ls hD hw (lv_sub hl [0, 1, 3, 4] rfl)
  unfold DX13_waitsFor at hD
  refine lv_iconst (v := 0) C.1.1 C.1.2.1 dX13_waitsFor_0 (by decide) ?_
  refine lv_istore_n (lv' := [(2, .int 0), (0, .ref (ad k)), (1, .int a1)]) C.1.1 C.1.2.1 dX13_waitsFor_1 rfl hl (by decide) rfl (fun ls hl => ?_)
  refine lv_iconst (v := 1) C.1.1 C.1.2.1 dX13_waitsFor_2 (by decide) ?_
  refine lv_istore_n (lv' := [(3, .int 1), (2, .int 0), (0, .ref (ad k)), (1, .int a1)]) C.1.1 C.1.2.1 dX13_waitsFor_3 rfl hl (by decide) rfl (fun ls hl => ?_)
  refine lv_iconst (v := 1) C.1.1 C.1.2.1 dX13_waitsFor_4 (by decide) ?_
  refine lv_istore (lv' := [(4, .int 1), (3, .int 1), (2, .int 0), (0, .ref (ad k)), (1, .int a1)]) C.1.1 C.1.2.1 dX13_waitsFor_5 hl (by decide) rfl (fun ls hl => ?_)
  exact hh7 fu 0 1 1 M L _ _ ls hD hw (lv_sub hl [3, 4, 2, 1, 0] rfl)

theorem dX13_domain_0 : decode cX13_domain 0 = .ok (.iconst 0, 1) := by decide +kernel
theorem dX13_domain_1 : decode cX13_domain 1 = .ok (.istore_n 2, 1) := by decide +kernel
theorem dX13_domain_2 : decode cX13_domain 2 = .ok (.iconst 1, 1) := by decide +kernel
theorem dX13_domain_3 : decode cX13_domain 3 = .ok (.istore_n 3, 1) := by decide +kernel
theorem dX13_domain_4 : decode cX13_domain 4 = .ok (.iload_n 3, 1) := by decide +kernel
theorem dX13_domain_5 : decode cX13_domain 5 = .ok (.aload_n 0, 1) := by decide +kernel
theorem dX13_domain_6 : decode cX13_domain 6 = .ok (.getfield 103, 3) := by decide +kernel
theorem dX13_domain_9 : decode cX13_domain 9 = .ok (.if_icmp .gt 127, 3) := by decide +kernel
theorem dX13_domain_12 : decode cX13_domain 12 = .ok (.aload_n 0, 1) := by decide +kernel
theorem dX13_domain_13 : decode cX13_domain 13 = .ok (.getfield 7, 3) := by decide +kernel
theorem dX13_domain_16 : decode cX13_domain 16 = .ok (.iload_n 3, 1) := by decide +kernel
theorem dX13_domain_17 : decode cX13_domain 17 = .ok (.iaload, 1) := by decide +kernel
theorem dX13_domain_18 : decode cX13_domain 18 = .ok (.ifCond .ne 22, 3) := by decide +kernel
theorem dX13_domain_21 : decode cX13_domain 21 = .ok (.aload_n 0, 1) := by decide +kernel
theorem dX13_domain_22 : decode cX13_domain 22 = .ok (.getfield 16, 3) := by decide +kernel
theorem dX13_domain_25 : decode cX13_domain 25 = .ok (.iload_n 3, 1) := by decide +kernel
theorem dX13_domain_26 : decode cX13_domain 26 = .ok (.iaload, 1) := by decide +kernel
theorem dX13_domain_27 : decode cX13_domain 27 = .ok (.aload_n 0, 1) := by decide +kernel
theorem dX13_domain_28 : decode cX13_domain 28 = .ok (.getfield 16, 3) := by decide +kernel
theorem dX13_domain_31 : decode cX13_domain 31 = .ok (.iload_n 2, 1) := by decide +kernel
theorem dX13_domain_32 : decode cX13_domain 32 = .ok (.iaload, 1) := by decide +kernel
theorem dX13_domain_33 : decode cX13_domain 33 = .ok (.if_icmp .le 7, 3) := by decide +kernel
theorem dX13_domain_36 : decode cX13_domain 36 = .ok (.iconst 1, 1) := by decide +kernel
theorem dX13_domain_37 : decode cX13_domain 37 = .ok (.goto 4, 3) := by decide +kernel
theorem dX13_domain_40 : decode cX13_domain 40 = .ok (.iconst 0, 1) := by decide +kernel
theorem dX13_domain_41 : decode cX13_domain 41 = .ok (.istore 4, 2) := by decide +kernel
theorem dX13_domain_43 : decode cX13_domain 43 = .ok (.iconst 1, 1) := by decide +kernel
theorem dX13_domain_44 : decode cX13_domain 44 = .ok (.istore 5, 2) := by decide +kernel
theorem dX13_domain_46 : decode cX13_domain 46 = .ok (.iload 5, 2) := by decide +kernel
theorem dX13_domain_48 : decode cX13_domain 48 = .ok (.aload_n 0, 1) := by decide +kernel
theorem dX13_domain_49 : decode cX13_domain 49 = .ok (.getfield 106, 3) := by decide +kernel
theorem dX13_domain_52 : decode cX13_domain 52 = .ok (.if_icmp .gt 67, 3) := by decide +kernel
theorem dX13_domain_55 : decode cX13_domain 55 = .ok (.iload 4, 2) := by decide +kernel
theorem dX13_domain_57 : decode cX13_domain 57 = .ok (.ifCond .eq 62, 3) := by decide +kernel
theorem dX13_domain_60 : decode cX13_domain 60 = .ok (.aload_n 0, 1) := by decide +kernel
theorem dX13_domain_61 : decode cX13_domain 61 = .ok (.iload_n 1, 1) := by decide +kernel
theorem dX13_domain_62 : decode cX13_domain 62 = .ok (.iload 5, 2) := by decide +kernel
theorem dX13_domain_64 : decode cX13_domain 64 = .ok (.invokevirtual 154, 3) := by decide +kernel
theorem dX13_domain_67 : decode cX13_domain 67 = .ok (.ifCond .eq 17, 3) := by decide +kernel
theorem dX13_domain_70 : decode cX13_domain 70 = .ok (.aload_n 0, 1) := by decide +kernel
theorem dX13_domain_71 : decode cX13_domain 71 = .ok (.aload_n 0, 1) := by decide +kernel
theorem dX13_domain_72 : decode cX13_domain 72 = .ok (.getfield 39, 3) := by decide +kernel
theorem dX13_domain_75 : decode cX13_domain 75 = .ok (.iload 5, 2) := by decide +kernel
theorem dX13_domain_77 : decode cX13_domain 77 = .ok (.iaload, 1) := by decide +kernel
theorem dX13_domain_78 : decode cX13_domain 78 = .ok (.iload_n 3, 1) := by decide +kernel
theorem dX13_domain_79 : decode cX13_domain 79 = .ok (.invokevirtual 158, 3) := by decide +kernel
theorem dX13_domain_82 : decode cX13_domain 82 = .ok (.istore 4, 2) := by decide +kernel
theorem dX13_domain_84 : decode cX13_domain 84 = .ok (.iload 4, 2) := by decide +kernel
theorem dX13_domain_86 : decode cX13_domain 86 = .ok (.ifCond .eq 27, 3) := by decide +kernel
theorem dX13_domain_89 : decode cX13_domain 89 = .ok (.aload_n 0, 1) := by decide +kernel
theorem dX13_domain_90 : decode cX13_domain 90 = .ok (.iload_n 1, 1) := by decide +kernel
theorem dX13_domain_91 : decode cX13_domain 91 = .ok (.iload 5, 2) := by decide +kernel
theorem dX13_domain_93 : decode cX13_domain 93 = .ok (.invokevirtual 161, 3) := by decide +kernel
theorem dX13_domain_96 : decode cX13_domain 96 = .ok (.ifCond .eq 17, 3) := by decide +kernel
theorem dX13_domain_99 : decode cX13_domain 99 = .ok (.aload_n 0, 1) := by decide +kernel
theorem dX13_domain_100 : decode cX13_domain 100 = .ok (.aload_n 0, 1) := by decide +kernel
theorem dX13_domain_101 : decode cX13_domain 101 = .ok (.getfield 42, 3) := by decide +kernel
theorem dX13_domain_104 : decode cX13_domain 104 = .ok (.iload 5, 2) := by decide +kernel
theorem dX13_domain_106 : decode cX13_domain 106 = .ok (.iaload, 1) := by decide +kernel
theorem dX13_domain_107 : decode cX13_domain 107 = .ok (.iload_n 3, 1) := by decide +kernel
theorem dX13_domain_108 : decode cX13_domain 108 = .ok (.invokevirtual 158, 3) := by decide +kernel
theorem dX13_domain_111 : decode cX13_domain 111 = .ok (.istore 4, 2) := by decide +kernel
theorem dX13_domain_113 : decode cX13_domain 113 = .ok (.iinc 5 1, 3) := by decide +kernel
theorem dX13_domain_116 : decode cX13_domain 116 = .ok (.goto (-70), 3) := by decide +kernel
theorem dX13_domain_119 : decode cX13_domain 119 = .ok (.iload 4, 2) := by decide +kernel
theorem dX13_domain_121 : decode cX13_domain 121 = .ok (.ifCond .eq 7, 3) := by decide +kernel
theorem dX13_domain_124 : decode cX13_domain 124 = .ok (.iload_n 3, 1) := by decide +kernel
theorem dX13_domain_125 : decode cX13_domain 125 = .ok (.goto 4, 3) := by decide +kernel
theorem dX13_domain_128 : decode cX13_domain 128 = .ok (.iload_n 2, 1) := by decide +kernel
theorem dX13_domain_129 : decode cX13_domain 129 = .ok (.istore_n 2, 1) := by decide +kernel
theorem dX13_domain_130 : decode cX13_domain 130 = .ok (.iinc 3 1, 3) := by decide +kernel
theorem dX13_domain_133 : decode cX13_domain 133 = .ok (.goto (-129), 3) := by decide +kernel
theorem dX13_domain_136 : decode cX13_domain 136 = .ok (.iload_n 2, 1) := by decide +kernel
theorem dX13_domain_137 : decode cX13_domain 137 = .ok (.ireturn, 1) := by decide +kernel
theorem cwX13_domain : mw_cwV yX13_domain cX13_domain 6 ((some .int)) 1 := ⟨⟨wd_20, wd_4125, by decide +kernel⟩, wd_4124, sl_327⟩
set_option maxHeartbeats 4000000 in
set_option maxRecDepth 100000 in
theorem tX13_domain (l : Launch) (G : mwG) (ad : Nat → Nat) (fu : Nat) (k : Nat) (a1 : Int32) (M : mwM) (L : mwL) {r0 : Int32} {M0 : mwM} {L0 : mwL} (hD : DX13_domain fu k a1 M L = some (r0, M0, L0)) (hk0 : isMc k) : Met l yX13_domain (Cond.code yX13_domain cX13_domain 6 ((some .int)) :: GT) ({ frames := 1, cells := 0, slots := 0, locals := 23 }) (mw_Pre G ad NF TF FF M L [.ref (ad k), .int a1]) (mw_Qi G ad NF TF FF (mw_eqI r0 M0 L0)) 0 0 (mw_fr G) := by
  refine mw_enter (by decide) (Nat.le_of_ble_eq_true rfl) ?_
  intro p e s m below meth c ls C hr hlocks hnm hw hl
  have hl : lv_has ls 6 [(0, .ref (ad k)), (1, .int a1)] := hl
  have hh4 : ∀ (f : Nat) (v2 : Int32) (v3 : Int32) (M : mwM) (L : mwL) (H : Heap) (locs : List Loc) (ls : Array Slot), fX13_domain_h4 fu k a1 f (v2, v3, M, L) = some (r0, M0, L0) → mw_W G ad NF TF FF M L H locs → lv_has ls 6 [(0, .ref (ad k)), (1, .int a1), (2, .int v2), (3, .int v3)] → W p l e ({ frames := 1, cells := 0, slots := 0, locals := 23 }) s m [.ref (ad k), .int a1].toArray below meth c H locs 0 0 (MQ below (mw_Qi G ad NF TF FF (mw_eqI r0 M0 L0)) [.ref (ad k), .int a1].toArray s 0 0 (mw_fr G)) (F0 m 4 ls []) := by
    intro f
    induction f with
    | zero => intro v2 v3 M L H locs ls hD; cases hD
    | succ f4 ih4 =>
      intro v2 v3 M L H locs ls hD hw hl
      replace hD : fX13_domain_i4 fu k a1 (fX13_domain_h4 fu k a1 f4) v2 v3 M L = some (r0, M0, L0) := hD
      have hb129 : ∀ (v3 : Int32) (s0 : Int32) (M : mwM) (L : mwL) (H : Heap) (locs : List Loc) (ls : Array Slot), fX13_domain_b129 fu k a1 (fX13_domain_h4 fu k a1 f4) v3 s0 M L = some (r0, M0, L0) → mw_W G ad NF TF FF M L H locs → lv_has ls 6 [(0, .ref (ad k)), (1, .int a1), (3, .int v3)] → W p l e ({ frames := 1, cells := 0, slots := 0, locals := 23 }) s m [.ref (ad k), .int a1].toArray below meth c H locs 0 0 (MQ below (mw_Qi G ad NF TF FF (mw_eqI r0 M0 L0)) [.ref (ad k), .int a1].toArray s 0 0 (mw_fr G)) (F0 m 129 ls [.int s0]) := by
        intro v3 s0 M L H locs ls hD hw hl
        unfold fX13_domain_b129 at hD
        refine lv_istore_n (lv' := [(2, .int s0), (0, .ref (ad k)), (1, .int a1), (3, .int v3)]) C.1.1 C.1.2.1 dX13_domain_129 rfl hl (by decide) rfl (fun ls hl => ?_)
        obtain ⟨x28, ex28, hD⟩ := g_let hD
        refine lv_iinc (v := x28) (lv' := [(3, .int x28), (2, .int s0), (0, .ref (ad k)), (1, .int a1)]) C.1.1 C.1.2.1 dX13_domain_130 hl (k := 3) rfl (by rw [ex28]; rfl) (by decide) rfl (fun ls hl => ?_)
        refine lv_goto (tgt := 4) C.1.1 C.1.2.1 dX13_domain_133 (by decide) ?_
        exact ih4 s0 x28 M L _ _ ls hD hw (lv_sub hl [2, 3, 1, 0] rfl)
      have hb119 : ∀ (v2 : Int32) (v3 : Int32) (v4 : Int32) (M : mwM) (L : mwL) (H : Heap) (locs : List Loc) (ls : Array Slot), fX13_domain_b119 fu k a1 (fX13_domain_h4 fu k a1 f4) v2 v3 v4 M L = some (r0, M0, L0) → mw_W G ad NF TF FF M L H locs → lv_has ls 6 [(0, .ref (ad k)), (1, .int a1), (2, .int v2), (3, .int v3), (4, .int v4)] → W p l e ({ frames := 1, cells := 0, slots := 0, locals := 23 }) s m [.ref (ad k), .int a1].toArray below meth c H locs 0 0 (MQ below (mw_Qi G ad NF TF FF (mw_eqI r0 M0 L0)) [.ref (ad k), .int a1].toArray s 0 0 (mw_fr G)) (F0 m 119 ls []) := by
        intro v2 v3 v4 M L H locs ls hD hw hl
        unfold fX13_domain_b119 at hD
        refine lv_iload C.1.1 C.1.2.1 dX13_domain_119 (lv_at hl 4 rfl) ?_
        refine lv_if_eq (tgt := 128) C.1.1 C.1.2.1 dX13_domain_121 (by decide) (fun c27 => ?_) (fun c27 => ?_)
        · replace hD := g_pos c27 hD
          refine lv_iload_n C.1.1 C.1.2.1 dX13_domain_128 rfl (lv_at hl 2 rfl) ?_
          exact hb129 v3 v2 M L _ _ ls hD hw (lv_sub hl [0, 1, 3] rfl)
        · replace hD := g_neg c27 hD
          refine lv_iload_n C.1.1 C.1.2.1 dX13_domain_124 rfl (lv_at hl 3 rfl) ?_
          refine lv_goto (tgt := 129) C.1.1 C.1.2.1 dX13_domain_125 (by decide) ?_
          exact hb129 v3 v3 M L _ _ ls hD hw (lv_sub hl [0, 1, 3] rfl)
      have hh46 : ∀ (f : Nat) (v2 : Int32) (v3 : Int32) (v4 : Int32) (v5 : Int32) (M : mwM) (L : mwL) (H : Heap) (locs : List Loc) (ls : Array Slot), fX13_domain_h46 fu k a1 (fX13_domain_h4 fu k a1 f4) f (v2, v3, v4, v5, M, L) = some (r0, M0, L0) → mw_W G ad NF TF FF M L H locs → lv_has ls 6 [(0, .ref (ad k)), (1, .int a1), (2, .int v2), (3, .int v3), (4, .int v4), (5, .int v5)] → W p l e ({ frames := 1, cells := 0, slots := 0, locals := 23 }) s m [.ref (ad k), .int a1].toArray below meth c H locs 0 0 (MQ below (mw_Qi G ad NF TF FF (mw_eqI r0 M0 L0)) [.ref (ad k), .int a1].toArray s 0 0 (mw_fr G)) (F0 m 46 ls []) := by
        intro f
        induction f with
        | zero => intro v2 v3 v4 v5 M L H locs ls hD; cases hD
        | succ f46 ih46 =>
          intro v2 v3 v4 v5 M L H locs ls hD hw hl
          replace hD : fX13_domain_i46 fu k a1 (fX13_domain_h4 fu k a1 f4) (fX13_domain_h46 fu k a1 (fX13_domain_h4 fu k a1 f4) f46) v2 v3 v4 v5 M L = some (r0, M0, L0) := hD
          have hb113 : ∀ (v2 : Int32) (v3 : Int32) (v4 : Int32) (v5 : Int32) (M : mwM) (L : mwL) (H : Heap) (locs : List Loc) (ls : Array Slot), fX13_domain_b113 fu k a1 (fX13_domain_h4 fu k a1 f4) (fX13_domain_h46 fu k a1 (fX13_domain_h4 fu k a1 f4) f46) v2 v3 v4 v5 M L = some (r0, M0, L0) → mw_W G ad NF TF FF M L H locs → lv_has ls 6 [(0, .ref (ad k)), (1, .int a1), (2, .int v2), (3, .int v3), (4, .int v4), (5, .int v5)] → W p l e ({ frames := 1, cells := 0, slots := 0, locals := 23 }) s m [.ref (ad k), .int a1].toArray below meth c H locs 0 0 (MQ below (mw_Qi G ad NF TF FF (mw_eqI r0 M0 L0)) [.ref (ad k), .int a1].toArray s 0 0 (mw_fr G)) (F0 m 113 ls []) := by
            intro v2 v3 v4 v5 M L H locs ls hD hw hl
            unfold fX13_domain_b113 at hD
            obtain ⟨x26, ex26, hD⟩ := g_let hD
            refine lv_iinc (v := x26) (lv' := [(5, .int x26), (0, .ref (ad k)), (1, .int a1), (2, .int v2), (3, .int v3), (4, .int v4)]) C.1.1 C.1.2.1 dX13_domain_113 hl (k := 5) rfl (by rw [ex26]; rfl) (by decide) rfl (fun ls hl => ?_)
            refine lv_goto (tgt := 46) C.1.1 C.1.2.1 dX13_domain_116 (by decide) ?_
            exact ih46 v2 v3 v4 x26 M L _ _ ls hD hw (lv_sub hl [1, 2, 3, 4, 5, 0] rfl)
          have hb84 : ∀ (v2 : Int32) (v3 : Int32) (v4 : Int32) (v5 : Int32) (M : mwM) (L : mwL) (H : Heap) (locs : List Loc) (ls : Array Slot), fX13_domain_b84 fu k a1 (fX13_domain_h4 fu k a1 f4) (fX13_domain_h46 fu k a1 (fX13_domain_h4 fu k a1 f4) f46) v2 v3 v4 v5 M L = some (r0, M0, L0) → mw_W G ad NF TF FF M L H locs → lv_has ls 6 [(0, .ref (ad k)), (1, .int a1), (2, .int v2), (3, .int v3), (4, .int v4), (5, .int v5)] → W p l e ({ frames := 1, cells := 0, slots := 0, locals := 23 }) s m [.ref (ad k), .int a1].toArray below meth c H locs 0 0 (MQ below (mw_Qi G ad NF TF FF (mw_eqI r0 M0 L0)) [.ref (ad k), .int a1].toArray s 0 0 (mw_fr G)) (F0 m 84 ls []) := by
            intro v2 v3 v4 v5 M L H locs ls hD hw hl
            unfold fX13_domain_b84 at hD
            refine lv_iload C.1.1 C.1.2.1 dX13_domain_84 (lv_at hl 4 rfl) ?_
            refine lv_if_eq (tgt := 113) C.1.1 C.1.2.1 dX13_domain_86 (by decide) (fun c17 => ?_) (fun c17 => ?_)
            · replace hD := g_pos c17 hD
              exact hb113 v2 v3 v4 v5 M L _ _ ls hD hw (lv_sub hl [0, 1, 2, 3, 4, 5] rfl)
            · replace hD := g_neg c17 hD
              refine lv_aload_n C.1.1 C.1.2.1 dX13_domain_89 rfl (lv_at hl 0 rfl) ?_
              refine lv_iload_n C.1.1 C.1.2.1 dX13_domain_90 rfl (lv_at hl 1 rfl) ?_
              refine lv_iload C.1.1 C.1.2.1 dX13_domain_91 (lv_at hl 5 rfl) ?_
              obtain ⟨r20, M18, L19, h1, hD⟩ := g_b3 hD
              refine md_cvI (As := [.int a1, .int v5]) (rest := []) C hw (tX13_saysTarget l G ad fu k a1 v5 M L h1 hk0) kc_13 (Mc_N0 hk0) (Mc_T0 hk0) wd_4075 cwX13_saysTarget ⟨Nat.le_of_ble_eq_true rfl, Nat.le_of_ble_eq_true rfl⟩ rfl hl.1 (Nat.le_of_ble_eq_true rfl) dX13_domain_93 rfl rfl ⟨Nat.zero_le _, Nat.zero_le _⟩ rfl (fun H locs hw => ?_)
              refine lv_if_eq (tgt := 113) C.1.1 C.1.2.1 dX13_domain_96 (by decide) (fun c21 => ?_) (fun c21 => ?_)
              · replace hD := g_pos c21 hD
                exact hb113 v2 v3 v4 v5 M18 L19 _ _ ls hD hw (lv_sub hl [0, 1, 2, 3, 4, 5] rfl)
              · replace hD := g_neg c21 hD
                refine lv_aload_n C.1.1 C.1.2.1 dX13_domain_99 rfl (lv_at hl 0 rfl) ?_
                refine lv_aload_n C.1.1 C.1.2.1 dX13_domain_100 rfl (lv_at hl 0 rfl) ?_
                refine mr_getR C hw kc_13 14 (Mc_N0 hk0) (Mc_T0 hk0) (Mc_F0_14 hk0) wd_2656 dX13_domain_101 (by decide) rfl ?_
                refine lv_iload C.1.1 C.1.2.1 dX13_domain_104 (lv_at hl 5 rfl) ?_
                obtain ⟨q22, hD⟩ := g_ck hD
                refine mr_iald C hw (Mc_N11 hk0) (Mc_T11 hk0) q22 dX13_domain_106 ?_
                refine lv_iload_n C.1.1 C.1.2.1 dX13_domain_107 rfl (lv_at hl 3 rfl) ?_
                obtain ⟨r25, M23, L24, h1, hD⟩ := g_b3 hD
                refine md_cvI (As := [.int (M18 (k + 11) v5.toNatClampNeg), .int v3]) (rest := []) C hw (tX13_inside l G ad fu k (M18 (k + 11) v5.toNatClampNeg) v3 M18 L19 h1 hk0) kc_13 (Mc_N0 hk0) (Mc_T0 hk0) wd_4126 cwX13_inside ⟨Nat.le_of_ble_eq_true rfl, Nat.le_of_ble_eq_true rfl⟩ rfl hl.1 (Nat.le_of_ble_eq_true rfl) dX13_domain_108 rfl rfl ⟨Nat.zero_le _, Nat.zero_le _⟩ rfl (fun H locs hw => ?_)
                refine lv_istore (lv' := [(4, .int r25), (0, .ref (ad k)), (1, .int a1), (2, .int v2), (3, .int v3), (5, .int v5)]) C.1.1 C.1.2.1 dX13_domain_111 hl (by decide) rfl (fun ls hl => ?_)
                exact hb113 v2 v3 r25 v5 M23 L24 _ _ ls hD hw (lv_sub hl [1, 2, 3, 4, 0, 5] rfl)
          unfold fX13_domain_i46 at hD
          refine lv_iload C.1.1 C.1.2.1 dX13_domain_46 (lv_at hl 5 rfl) ?_
          refine lv_aload_n C.1.1 C.1.2.1 dX13_domain_48 rfl (lv_at hl 0 rfl) ?_
          refine mr_getI C hw kc_13 12 (Mc_N0 hk0) (Mc_T0 hk0) wd_2654 dX13_domain_49 (by decide) rfl ?_
          refine lv_icmp_gt (tgt := 119) C.1.1 C.1.2.1 dX13_domain_52 (by decide) (fun c7 => ?_) (fun c7 => ?_)
          · replace hD := g_pos c7 hD
            exact hb119 v2 v3 v4 M L _ _ ls hD hw (lv_sub hl [0, 1, 2, 3, 4] rfl)
          · replace hD := g_neg c7 hD
            refine lv_iload C.1.1 C.1.2.1 dX13_domain_55 (lv_at hl 4 rfl) ?_
            refine lv_if_eq (tgt := 119) C.1.1 C.1.2.1 dX13_domain_57 (by decide) (fun c8 => ?_) (fun c8 => ?_)
            · replace hD := g_pos c8 hD
              exact hb119 v2 v3 v4 M L _ _ ls hD hw (lv_sub hl [0, 1, 2, 3, 4] rfl)
            · replace hD := g_neg c8 hD
              refine lv_aload_n C.1.1 C.1.2.1 dX13_domain_60 rfl (lv_at hl 0 rfl) ?_
              refine lv_iload_n C.1.1 C.1.2.1 dX13_domain_61 rfl (lv_at hl 1 rfl) ?_
              refine lv_iload C.1.1 C.1.2.1 dX13_domain_62 (lv_at hl 5 rfl) ?_
              obtain ⟨r11, M9, L10, h1, hD⟩ := g_b3 hD
              refine md_cvI (As := [.int a1, .int v5]) (rest := []) C hw (tX13_saysSource l G ad fu k a1 v5 M L h1 hk0) kc_13 (Mc_N0 hk0) (Mc_T0 hk0) wd_4111 cwX13_saysSource ⟨Nat.le_of_ble_eq_true rfl, Nat.le_of_ble_eq_true rfl⟩ rfl hl.1 (Nat.le_of_ble_eq_true rfl) dX13_domain_64 rfl rfl ⟨Nat.zero_le _, Nat.zero_le _⟩ rfl (fun H locs hw => ?_)
              refine lv_if_eq (tgt := 84) C.1.1 C.1.2.1 dX13_domain_67 (by decide) (fun c12 => ?_) (fun c12 => ?_)
              · replace hD := g_pos c12 hD
                exact hb84 v2 v3 v4 v5 M9 L10 _ _ ls hD hw (lv_sub hl [0, 1, 2, 3, 4, 5] rfl)
              · replace hD := g_neg c12 hD
                refine lv_aload_n C.1.1 C.1.2.1 dX13_domain_70 rfl (lv_at hl 0 rfl) ?_
                refine lv_aload_n C.1.1 C.1.2.1 dX13_domain_71 rfl (lv_at hl 0 rfl) ?_
                refine mr_getR C hw kc_13 13 (Mc_N0 hk0) (Mc_T0 hk0) (Mc_F0_13 hk0) wd_2655 dX13_domain_72 (by decide) rfl ?_
                refine lv_iload C.1.1 C.1.2.1 dX13_domain_75 (lv_at hl 5 rfl) ?_
                obtain ⟨q13, hD⟩ := g_ck hD
                refine mr_iald C hw (Mc_N10 hk0) (Mc_T10 hk0) q13 dX13_domain_77 ?_
                refine lv_iload_n C.1.1 C.1.2.1 dX13_domain_78 rfl (lv_at hl 3 rfl) ?_
                obtain ⟨r16, M14, L15, h1, hD⟩ := g_b3 hD
                refine md_cvI (As := [.int (M9 (k + 10) v5.toNatClampNeg), .int v3]) (rest := []) C hw (tX13_inside l G ad fu k (M9 (k + 10) v5.toNatClampNeg) v3 M9 L10 h1 hk0) kc_13 (Mc_N0 hk0) (Mc_T0 hk0) wd_4126 cwX13_inside ⟨Nat.le_of_ble_eq_true rfl, Nat.le_of_ble_eq_true rfl⟩ rfl hl.1 (Nat.le_of_ble_eq_true rfl) dX13_domain_79 rfl rfl ⟨Nat.zero_le _, Nat.zero_le _⟩ rfl (fun H locs hw => ?_)
                refine lv_istore (lv' := [(4, .int r16), (0, .ref (ad k)), (1, .int a1), (2, .int v2), (3, .int v3), (5, .int v5)]) C.1.1 C.1.2.1 dX13_domain_82 hl (by decide) rfl (fun ls hl => ?_)
                exact hb84 v2 v3 r16 v5 M14 L15 _ _ ls hD hw (lv_sub hl [1, 2, 3, 4, 0, 5] rfl)
      have hb41 : ∀ (v2 : Int32) (v3 : Int32) (s0 : Int32) (M : mwM) (L : mwL) (H : Heap) (locs : List Loc) (ls : Array Slot), fX13_domain_b41 fu k a1 (fX13_domain_h4 fu k a1 f4) v2 v3 s0 M L = some (r0, M0, L0) → mw_W G ad NF TF FF M L H locs → lv_has ls 6 [(0, .ref (ad k)), (1, .int a1), (2, .int v2), (3, .int v3)] → W p l e ({ frames := 1, cells := 0, slots := 0, locals := 23 }) s m [.ref (ad k), .int a1].toArray below meth c H locs 0 0 (MQ below (mw_Qi G ad NF TF FF (mw_eqI r0 M0 L0)) [.ref (ad k), .int a1].toArray s 0 0 (mw_fr G)) (F0 m 41 ls [.int s0]) := by
        intro v2 v3 s0 M L H locs ls hD hw hl
        unfold fX13_domain_b41 at hD
        refine lv_istore (lv' := [(4, .int s0), (0, .ref (ad k)), (1, .int a1), (2, .int v2), (3, .int v3)]) C.1.1 C.1.2.1 dX13_domain_41 hl (by decide) rfl (fun ls hl => ?_)
        refine lv_iconst (v := 1) C.1.1 C.1.2.1 dX13_domain_43 (by decide) ?_
        refine lv_istore (lv' := [(5, .int 1), (4, .int s0), (0, .ref (ad k)), (1, .int a1), (2, .int v2), (3, .int v3)]) C.1.1 C.1.2.1 dX13_domain_44 hl (by decide) rfl (fun ls hl => ?_)
        exact hh46 fu v2 v3 s0 1 M L _ _ ls hD hw (lv_sub hl [2, 3, 4, 5, 1, 0] rfl)
      have hb40 : ∀ (v2 : Int32) (v3 : Int32) (M : mwM) (L : mwL) (H : Heap) (locs : List Loc) (ls : Array Slot), fX13_domain_b40 fu k a1 (fX13_domain_h4 fu k a1 f4) v2 v3 M L = some (r0, M0, L0) → mw_W G ad NF TF FF M L H locs → lv_has ls 6 [(0, .ref (ad k)), (1, .int a1), (2, .int v2), (3, .int v3)] → W p l e ({ frames := 1, cells := 0, slots := 0, locals := 23 }) s m [.ref (ad k), .int a1].toArray below meth c H locs 0 0 (MQ below (mw_Qi G ad NF TF FF (mw_eqI r0 M0 L0)) [.ref (ad k), .int a1].toArray s 0 0 (mw_fr G)) (F0 m 40 ls []) := by
        intro v2 v3 M L H locs ls hD hw hl
        unfold fX13_domain_b40 at hD
        refine lv_iconst (v := 0) C.1.1 C.1.2.1 dX13_domain_40 (by decide) ?_
        exact hb41 v2 v3 0 M L _ _ ls hD hw (lv_sub hl [0, 1, 2, 3] rfl)
      unfold fX13_domain_i4 at hD
      refine lv_iload_n C.1.1 C.1.2.1 dX13_domain_4 rfl (lv_at hl 3 rfl) ?_
      refine lv_aload_n C.1.1 C.1.2.1 dX13_domain_5 rfl (lv_at hl 0 rfl) ?_
      refine mr_getI C hw kc_13 2 (Mc_N0 hk0) (Mc_T0 hk0) wd_2644 dX13_domain_6 (by decide) rfl ?_
      refine lv_icmp_gt (tgt := 136) C.1.1 C.1.2.1 dX13_domain_9 (by decide) (fun c1 => ?_) (fun c1 => ?_)
      · replace hD := g_pos c1 hD
        refine lv_iload_n C.1.1 C.1.2.1 dX13_domain_136 rfl (lv_at hl 2 rfl) ?_
        exact mr_iret C hr hlocks hw rfl (Option.some.inj hD) dX13_domain_137
      · replace hD := g_neg c1 hD
        refine lv_aload_n C.1.1 C.1.2.1 dX13_domain_12 rfl (lv_at hl 0 rfl) ?_
        refine mr_getR C hw kc_13 3 (Mc_N0 hk0) (Mc_T0 hk0) (Mc_F0_3 hk0) wd_2645 dX13_domain_13 (by decide) rfl ?_
        refine lv_iload_n C.1.1 C.1.2.1 dX13_domain_16 rfl (lv_at hl 3 rfl) ?_
        obtain ⟨q2, hD⟩ := g_ck hD
        refine mr_iald C hw (Mc_N1 hk0) (Mc_T1 hk0) q2 dX13_domain_17 ?_
        refine lv_if_ne (tgt := 40) C.1.1 C.1.2.1 dX13_domain_18 (by decide) (fun c3 => ?_) (fun c3 => ?_)
        · replace hD := g_neg c3 hD
          exact hb40 v2 v3 M L _ _ ls hD hw (lv_sub hl [0, 1, 2, 3] rfl)
        · replace hD := g_pos c3 hD
          refine lv_aload_n C.1.1 C.1.2.1 dX13_domain_21 rfl (lv_at hl 0 rfl) ?_
          refine mr_getR C hw kc_13 5 (Mc_N0 hk0) (Mc_T0 hk0) (Mc_F0_5 hk0) wd_2647 dX13_domain_22 (by decide) rfl ?_
          refine lv_iload_n C.1.1 C.1.2.1 dX13_domain_25 rfl (lv_at hl 3 rfl) ?_
          obtain ⟨q4, hD⟩ := g_ck hD
          refine mr_iald C hw (Mc_N3 hk0) (Mc_T3 hk0) q4 dX13_domain_26 ?_
          refine lv_aload_n C.1.1 C.1.2.1 dX13_domain_27 rfl (lv_at hl 0 rfl) ?_
          refine mr_getR C hw kc_13 5 (Mc_N0 hk0) (Mc_T0 hk0) (Mc_F0_5 hk0) wd_2647 dX13_domain_28 (by decide) rfl ?_
          refine lv_iload_n C.1.1 C.1.2.1 dX13_domain_31 rfl (lv_at hl 2 rfl) ?_
          obtain ⟨q5, hD⟩ := g_ck hD
          refine mr_iald C hw (Mc_N3 hk0) (Mc_T3 hk0) q5 dX13_domain_32 ?_
          refine lv_icmp_le (tgt := 40) C.1.1 C.1.2.1 dX13_domain_33 (by decide) (fun c6 => ?_) (fun c6 => ?_)
          · replace hD := g_pos c6 hD
            exact hb40 v2 v3 M L _ _ ls hD hw (lv_sub hl [0, 1, 2, 3] rfl)
          · replace hD := g_neg c6 hD
            refine lv_iconst (v := 1) C.1.1 C.1.2.1 dX13_domain_36 (by decide) ?_
            refine lv_goto (tgt := 41) C.1.1 C.1.2.1 dX13_domain_37 (by decide) ?_
            exact hb41 v2 v3 1 M L _ _ ls hD hw (lv_sub hl [0, 1, 2, 3] rfl)
  unfold DX13_domain at hD
  refine lv_iconst (v := 0) C.1.1 C.1.2.1 dX13_domain_0 (by decide) ?_
  refine lv_istore_n (lv' := [(2, .int 0), (0, .ref (ad k)), (1, .int a1)]) C.1.1 C.1.2.1 dX13_domain_1 rfl hl (by decide) rfl (fun ls hl => ?_)
  refine lv_iconst (v := 1) C.1.1 C.1.2.1 dX13_domain_2 (by decide) ?_
  refine lv_istore_n (lv' := [(3, .int 1), (2, .int 0), (0, .ref (ad k)), (1, .int a1)]) C.1.1 C.1.2.1 dX13_domain_3 rfl hl (by decide) rfl (fun ls hl => ?_)
  exact hh4 fu 0 1 M L _ _ ls hD hw (lv_sub hl [2, 3, 1, 0] rfl)

theorem dX13_findExits_0 : decode cX13_findExits 0 = .ok (.iconst 1, 1) := by decide +kernel
theorem dX13_findExits_1 : decode cX13_findExits 1 = .ok (.istore_n 2, 1) := by decide +kernel
theorem dX13_findExits_2 : decode cX13_findExits 2 = .ok (.iload_n 2, 1) := by decide +kernel
theorem dX13_findExits_3 : decode cX13_findExits 3 = .ok (.aload_n 0, 1) := by decide +kernel
theorem dX13_findExits_4 : decode cX13_findExits 4 = .ok (.getfield 103, 3) := by decide +kernel
theorem dX13_findExits_7 : decode cX13_findExits 7 = .ok (.if_icmp .gt 38, 3) := by decide +kernel
theorem dX13_findExits_10 : decode cX13_findExits 10 = .ok (.aload_n 0, 1) := by decide +kernel
theorem dX13_findExits_11 : decode cX13_findExits 11 = .ok (.getfield 87, 3) := by decide +kernel
theorem dX13_findExits_14 : decode cX13_findExits 14 = .ok (.iload_n 2, 1) := by decide +kernel
theorem dX13_findExits_15 : decode cX13_findExits 15 = .ok (.aload_n 0, 1) := by decide +kernel
theorem dX13_findExits_16 : decode cX13_findExits 16 = .ok (.getfield 36, 3) := by decide +kernel
theorem dX13_findExits_19 : decode cX13_findExits 19 = .ok (.iload_n 2, 1) := by decide +kernel
theorem dX13_findExits_20 : decode cX13_findExits 20 = .ok (.baload, 1) := by decide +kernel
theorem dX13_findExits_21 : decode cX13_findExits 21 = .ok (.ifCond .eq 16, 3) := by decide +kernel
theorem dX13_findExits_24 : decode cX13_findExits 24 = .ok (.aload_n 0, 1) := by decide +kernel
theorem dX13_findExits_25 : decode cX13_findExits 25 = .ok (.iload_n 2, 1) := by decide +kernel
theorem dX13_findExits_26 : decode cX13_findExits 26 = .ok (.iload_n 1, 1) := by decide +kernel
theorem dX13_findExits_27 : decode cX13_findExits 27 = .ok (.invokevirtual 158, 3) := by decide +kernel
theorem dX13_findExits_30 : decode cX13_findExits 30 = .ok (.ifCond .eq 7, 3) := by decide +kernel
theorem dX13_findExits_33 : decode cX13_findExits 33 = .ok (.iconst 1, 1) := by decide +kernel
theorem dX13_findExits_34 : decode cX13_findExits 34 = .ok (.goto 4, 3) := by decide +kernel
theorem dX13_findExits_37 : decode cX13_findExits 37 = .ok (.iconst 0, 1) := by decide +kernel
theorem dX13_findExits_38 : decode cX13_findExits 38 = .ok (.bastore, 1) := by decide +kernel
theorem dX13_findExits_39 : decode cX13_findExits 39 = .ok (.iinc 2 1, 3) := by decide +kernel
theorem dX13_findExits_42 : decode cX13_findExits 42 = .ok (.goto (-40), 3) := by decide +kernel
theorem dX13_findExits_45 : decode cX13_findExits 45 = .ok (.return_, 1) := by decide +kernel
theorem cwX13_findExits : mw_cwV yX13_findExits cX13_findExits 3 (none) 1 := ⟨⟨wd_20, wd_4133, by decide +kernel⟩, wd_4132, sl_329⟩
set_option maxHeartbeats 4000000 in
set_option maxRecDepth 100000 in
theorem tX13_findExits (l : Launch) (G : mwG) (ad : Nat → Nat) (fu : Nat) (k : Nat) (a1 : Int32) (M : mwM) (L : mwL) {M0 : mwM} {L0 : mwL} (hD : DX13_findExits fu k a1 M L = some (M0, L0)) (hk0 : isMc k) : Met l yX13_findExits (Cond.code yX13_findExits cX13_findExits 3 (none) :: GT) ({ frames := 1, cells := 0, slots := 0, locals := 23 }) (mw_Pre G ad NF TF FF M L [.ref (ad k), .int a1]) (mw_Qv G ad NF TF FF (mw_eqV M0 L0)) 0 0 (mw_fr G) := by
  refine mw_enter (by decide) (Nat.le_of_ble_eq_true rfl) ?_
  intro p e s m below meth c ls C hr hlocks hnm hw hl
  have hl : lv_has ls 3 [(0, .ref (ad k)), (1, .int a1)] := hl
  have hh2 : ∀ (f : Nat) (v2 : Int32) (M : mwM) (L : mwL) (H : Heap) (locs : List Loc) (ls : Array Slot), fX13_findExits_h2 fu k a1 f (v2, M, L) = some (M0, L0) → mw_W G ad NF TF FF M L H locs → lv_has ls 3 [(0, .ref (ad k)), (1, .int a1), (2, .int v2)] → W p l e ({ frames := 1, cells := 0, slots := 0, locals := 23 }) s m [.ref (ad k), .int a1].toArray below meth c H locs 0 0 (MQ below (mw_Qv G ad NF TF FF (mw_eqV M0 L0)) [.ref (ad k), .int a1].toArray s 0 0 (mw_fr G)) (F0 m 2 ls []) := by
    intro f
    induction f with
    | zero => intro v2 M L H locs ls hD; cases hD
    | succ f2 ih2 =>
      intro v2 M L H locs ls hD hw hl
      replace hD : fX13_findExits_i2 fu k a1 (fX13_findExits_h2 fu k a1 f2) v2 M L = some (M0, L0) := hD
      have hb38 : ∀ (v2 : Int32) (s1 : Int32) (s2 : Int32) (M : mwM) (L : mwL) (H : Heap) (locs : List Loc) (ls : Array Slot), fX13_findExits_b38 fu k a1 (fX13_findExits_h2 fu k a1 f2) v2 s1 s2 M L = some (M0, L0) → mw_W G ad NF TF FF M L H locs → lv_has ls 3 [(0, .ref (ad k)), (1, .int a1), (2, .int v2)] → W p l e ({ frames := 1, cells := 0, slots := 0, locals := 23 }) s m [.ref (ad k), .int a1].toArray below meth c H locs 0 0 (MQ below (mw_Qv G ad NF TF FF (mw_eqV M0 L0)) [.ref (ad k), .int a1].toArray s 0 0 (mw_fr G)) (F0 m 38 ls [.int s2, .int s1, .ref (ad (k + 26))]) := by
        intro v2 s1 s2 M L H locs ls hD hw hl
        unfold fX13_findExits_b38 at hD
        obtain ⟨q8, hD⟩ := g_ck hD
        obtain ⟨M9, eM9, hD⟩ := g_let hD
        refine mr_zast C hw (Mc_N26 hk0) (Mc_T26 hk0) q8 dX13_findExits_38 (fun H locs hw => ?_)
        replace hw : mw_W G ad NF TF FF M9 L H locs := by rw [eM9]; exact hw
        obtain ⟨x10, ex10, hD⟩ := g_let hD
        refine lv_iinc (v := x10) (lv' := [(2, .int x10), (0, .ref (ad k)), (1, .int a1)]) C.1.1 C.1.2.1 dX13_findExits_39 hl (k := 2) rfl (by rw [ex10]; rfl) (by decide) rfl (fun ls hl => ?_)
        refine lv_goto (tgt := 2) C.1.1 C.1.2.1 dX13_findExits_42 (by decide) ?_
        exact ih2 x10 M9 L _ _ ls hD hw (lv_sub hl [1, 2, 0] rfl)
      have hb37 : ∀ (v2 : Int32) (s1 : Int32) (M : mwM) (L : mwL) (H : Heap) (locs : List Loc) (ls : Array Slot), fX13_findExits_b37 fu k a1 (fX13_findExits_h2 fu k a1 f2) v2 s1 M L = some (M0, L0) → mw_W G ad NF TF FF M L H locs → lv_has ls 3 [(0, .ref (ad k)), (1, .int a1), (2, .int v2)] → W p l e ({ frames := 1, cells := 0, slots := 0, locals := 23 }) s m [.ref (ad k), .int a1].toArray below meth c H locs 0 0 (MQ below (mw_Qv G ad NF TF FF (mw_eqV M0 L0)) [.ref (ad k), .int a1].toArray s 0 0 (mw_fr G)) (F0 m 37 ls [.int s1, .ref (ad (k + 26))]) := by
        intro v2 s1 M L H locs ls hD hw hl
        unfold fX13_findExits_b37 at hD
        refine lv_iconst (v := 0) C.1.1 C.1.2.1 dX13_findExits_37 (by decide) ?_
        exact hb38 v2 s1 0 M L _ _ ls hD hw (lv_sub hl [0, 1, 2] rfl)
      unfold fX13_findExits_i2 at hD
      refine lv_iload_n C.1.1 C.1.2.1 dX13_findExits_2 rfl (lv_at hl 2 rfl) ?_
      refine lv_aload_n C.1.1 C.1.2.1 dX13_findExits_3 rfl (lv_at hl 0 rfl) ?_
      refine mr_getI C hw kc_13 2 (Mc_N0 hk0) (Mc_T0 hk0) wd_2644 dX13_findExits_4 (by decide) rfl ?_
      refine lv_icmp_gt (tgt := 45) C.1.1 C.1.2.1 dX13_findExits_7 (by decide) (fun c1 => ?_) (fun c1 => ?_)
      · replace hD := g_pos c1 hD
        exact mr_vret C hr hlocks hw (Option.some.inj hD) dX13_findExits_45
      · replace hD := g_neg c1 hD
        refine lv_aload_n C.1.1 C.1.2.1 dX13_findExits_10 rfl (lv_at hl 0 rfl) ?_
        refine mr_getR C hw kc_13 38 (Mc_N0 hk0) (Mc_T0 hk0) (Mc_F0_38 hk0) wd_2680 dX13_findExits_11 (by decide) rfl ?_
        refine lv_iload_n C.1.1 C.1.2.1 dX13_findExits_14 rfl (lv_at hl 2 rfl) ?_
        refine lv_aload_n C.1.1 C.1.2.1 dX13_findExits_15 rfl (lv_at hl 0 rfl) ?_
        refine mr_getR C hw kc_13 11 (Mc_N0 hk0) (Mc_T0 hk0) (Mc_F0_11 hk0) wd_2653 dX13_findExits_16 (by decide) rfl ?_
        refine lv_iload_n C.1.1 C.1.2.1 dX13_findExits_19 rfl (lv_at hl 2 rfl) ?_
        obtain ⟨q2, hD⟩ := g_ck hD
        refine mr_zald C hw (Mc_N9 hk0) (Mc_T9 hk0) q2 dX13_findExits_20 ?_
        refine lv_if_eq (tgt := 37) C.1.1 C.1.2.1 dX13_findExits_21 (by decide) (fun c3 => ?_) (fun c3 => ?_)
        · replace hD := g_pos c3 hD
          exact hb37 v2 v2 M L _ _ ls hD hw (lv_sub hl [0, 1, 2] rfl)
        · replace hD := g_neg c3 hD
          refine lv_aload_n C.1.1 C.1.2.1 dX13_findExits_24 rfl (lv_at hl 0 rfl) ?_
          refine lv_iload_n C.1.1 C.1.2.1 dX13_findExits_25 rfl (lv_at hl 2 rfl) ?_
          refine lv_iload_n C.1.1 C.1.2.1 dX13_findExits_26 rfl (lv_at hl 1 rfl) ?_
          obtain ⟨r6, M4, L5, h1, hD⟩ := g_b3 hD
          refine md_cvI (As := [.int v2, .int a1]) (rest := [.int v2, .ref (ad (k + 26))]) C hw (tX13_inside l G ad fu k v2 a1 M L h1 hk0) kc_13 (Mc_N0 hk0) (Mc_T0 hk0) wd_4126 cwX13_inside ⟨Nat.le_of_ble_eq_true rfl, Nat.le_of_ble_eq_true rfl⟩ rfl hl.1 (Nat.le_of_ble_eq_true rfl) dX13_findExits_27 rfl rfl ⟨Nat.zero_le _, Nat.zero_le _⟩ rfl (fun H locs hw => ?_)
          refine lv_if_eq (tgt := 37) C.1.1 C.1.2.1 dX13_findExits_30 (by decide) (fun c7 => ?_) (fun c7 => ?_)
          · replace hD := g_pos c7 hD
            exact hb37 v2 v2 M4 L5 _ _ ls hD hw (lv_sub hl [0, 1, 2] rfl)
          · replace hD := g_neg c7 hD
            refine lv_iconst (v := 1) C.1.1 C.1.2.1 dX13_findExits_33 (by decide) ?_
            refine lv_goto (tgt := 38) C.1.1 C.1.2.1 dX13_findExits_34 (by decide) ?_
            exact hb38 v2 v2 1 M4 L5 _ _ ls hD hw (lv_sub hl [0, 1, 2] rfl)
  unfold DX13_findExits at hD
  refine lv_iconst (v := 1) C.1.1 C.1.2.1 dX13_findExits_0 (by decide) ?_
  refine lv_istore_n (lv' := [(2, .int 1), (0, .ref (ad k)), (1, .int a1)]) C.1.1 C.1.2.1 dX13_findExits_1 rfl hl (by decide) rfl (fun ls hl => ?_)
  exact hh2 fu 1 M L _ _ ls hD hw (lv_sub hl [1, 2, 0] rfl)

theorem dX13_choose_0 : decode cX13_choose 0 = .ok (.aload_n 0, 1) := by decide +kernel
theorem dX13_choose_1 : decode cX13_choose 1 = .ok (.iconst 0, 1) := by decide +kernel
theorem dX13_choose_2 : decode cX13_choose 2 = .ok (.putfield 164, 3) := by decide +kernel
theorem dX13_choose_5 : decode cX13_choose 5 = .ok (.iconst 1, 1) := by decide +kernel
theorem dX13_choose_6 : decode cX13_choose 6 = .ok (.istore_n 2, 1) := by decide +kernel
theorem dX13_choose_7 : decode cX13_choose 7 = .ok (.iload_n 2, 1) := by decide +kernel
theorem dX13_choose_8 : decode cX13_choose 8 = .ok (.aload_n 0, 1) := by decide +kernel
theorem dX13_choose_9 : decode cX13_choose 9 = .ok (.getfield 106, 3) := by decide +kernel
theorem dX13_choose_12 : decode cX13_choose 12 = .ok (.if_icmp .gt 85, 3) := by decide +kernel
theorem dX13_choose_15 : decode cX13_choose 15 = .ok (.aload_n 0, 1) := by decide +kernel
theorem dX13_choose_16 : decode cX13_choose 16 = .ok (.getfield 45, 3) := by decide +kernel
theorem dX13_choose_19 : decode cX13_choose 19 = .ok (.iload_n 2, 1) := by decide +kernel
theorem dX13_choose_20 : decode cX13_choose 20 = .ok (.iaload, 1) := by decide +kernel
theorem dX13_choose_21 : decode cX13_choose 21 = .ok (.iload_n 1, 1) := by decide +kernel
theorem dX13_choose_22 : decode cX13_choose 22 = .ok (.if_icmp .ne 69, 3) := by decide +kernel
theorem dX13_choose_25 : decode cX13_choose 25 = .ok (.aload_n 0, 1) := by decide +kernel
theorem dX13_choose_26 : decode cX13_choose 26 = .ok (.getfield 7, 3) := by decide +kernel
theorem dX13_choose_29 : decode cX13_choose 29 = .ok (.aload_n 0, 1) := by decide +kernel
theorem dX13_choose_30 : decode cX13_choose 30 = .ok (.getfield 39, 3) := by decide +kernel
theorem dX13_choose_33 : decode cX13_choose 33 = .ok (.iload_n 2, 1) := by decide +kernel
theorem dX13_choose_34 : decode cX13_choose 34 = .ok (.iaload, 1) := by decide +kernel
theorem dX13_choose_35 : decode cX13_choose 35 = .ok (.iaload, 1) := by decide +kernel
theorem dX13_choose_36 : decode cX13_choose 36 = .ok (.iconst 4, 1) := by decide +kernel
theorem dX13_choose_37 : decode cX13_choose 37 = .ok (.if_icmp .eq 54, 3) := by decide +kernel
theorem dX13_choose_40 : decode cX13_choose 40 = .ok (.aload_n 0, 1) := by decide +kernel
theorem dX13_choose_41 : decode cX13_choose 41 = .ok (.getfield 7, 3) := by decide +kernel
theorem dX13_choose_44 : decode cX13_choose 44 = .ok (.aload_n 0, 1) := by decide +kernel
theorem dX13_choose_45 : decode cX13_choose 45 = .ok (.getfield 42, 3) := by decide +kernel
theorem dX13_choose_48 : decode cX13_choose 48 = .ok (.iload_n 2, 1) := by decide +kernel
theorem dX13_choose_49 : decode cX13_choose 49 = .ok (.iaload, 1) := by decide +kernel
theorem dX13_choose_50 : decode cX13_choose 50 = .ok (.iaload, 1) := by decide +kernel
theorem dX13_choose_51 : decode cX13_choose 51 = .ok (.iconst 5, 1) := by decide +kernel
theorem dX13_choose_52 : decode cX13_choose 52 = .ok (.if_icmp .eq 39, 3) := by decide +kernel
theorem dX13_choose_55 : decode cX13_choose 55 = .ok (.aload_n 0, 1) := by decide +kernel
theorem dX13_choose_56 : decode cX13_choose 56 = .ok (.iload_n 2, 1) := by decide +kernel
theorem dX13_choose_57 : decode cX13_choose 57 = .ok (.invokevirtual 167, 3) := by decide +kernel
theorem dX13_choose_60 : decode cX13_choose 60 = .ok (.ifCond .eq 31, 3) := by decide +kernel
theorem dX13_choose_63 : decode cX13_choose 63 = .ok (.aload_n 0, 1) := by decide +kernel
theorem dX13_choose_64 : decode cX13_choose 64 = .ok (.iload_n 2, 1) := by decide +kernel
theorem dX13_choose_65 : decode cX13_choose 65 = .ok (.invokevirtual 170, 3) := by decide +kernel
theorem dX13_choose_68 : decode cX13_choose 68 = .ok (.ifCond .eq 23, 3) := by decide +kernel
theorem dX13_choose_71 : decode cX13_choose 71 = .ok (.aload_n 0, 1) := by decide +kernel
theorem dX13_choose_72 : decode cX13_choose 72 = .ok (.getfield 78, 3) := by decide +kernel
theorem dX13_choose_75 : decode cX13_choose 75 = .ok (.aload_n 0, 1) := by decide +kernel
theorem dX13_choose_76 : decode cX13_choose 76 = .ok (.getfield 164, 3) := by decide +kernel
theorem dX13_choose_79 : decode cX13_choose 79 = .ok (.iload_n 2, 1) := by decide +kernel
theorem dX13_choose_80 : decode cX13_choose 80 = .ok (.iastore, 1) := by decide +kernel
theorem dX13_choose_81 : decode cX13_choose 81 = .ok (.aload_n 0, 1) := by decide +kernel
theorem dX13_choose_82 : decode cX13_choose 82 = .ok (.dup, 1) := by decide +kernel
theorem dX13_choose_83 : decode cX13_choose 83 = .ok (.getfield 164, 3) := by decide +kernel
theorem dX13_choose_86 : decode cX13_choose 86 = .ok (.iconst 1, 1) := by decide +kernel
theorem dX13_choose_87 : decode cX13_choose 87 = .ok (.iadd, 1) := by decide +kernel
theorem dX13_choose_88 : decode cX13_choose 88 = .ok (.putfield 164, 3) := by decide +kernel
theorem dX13_choose_91 : decode cX13_choose 91 = .ok (.iinc 2 1, 3) := by decide +kernel
theorem dX13_choose_94 : decode cX13_choose 94 = .ok (.goto (-87), 3) := by decide +kernel
theorem dX13_choose_97 : decode cX13_choose 97 = .ok (.aload_n 0, 1) := by decide +kernel
theorem dX13_choose_98 : decode cX13_choose 98 = .ok (.iconst 0, 1) := by decide +kernel
theorem dX13_choose_99 : decode cX13_choose 99 = .ok (.putfield 173, 3) := by decide +kernel
theorem dX13_choose_102 : decode cX13_choose 102 = .ok (.iconst 0, 1) := by decide +kernel
theorem dX13_choose_103 : decode cX13_choose 103 = .ok (.istore_n 2, 1) := by decide +kernel
theorem dX13_choose_104 : decode cX13_choose 104 = .ok (.iload_n 2, 1) := by decide +kernel
theorem dX13_choose_105 : decode cX13_choose 105 = .ok (.aload_n 0, 1) := by decide +kernel
theorem dX13_choose_106 : decode cX13_choose 106 = .ok (.getfield 103, 3) := by decide +kernel
theorem dX13_choose_109 : decode cX13_choose 109 = .ok (.if_icmp .gt 16, 3) := by decide +kernel
theorem dX13_choose_112 : decode cX13_choose 112 = .ok (.aload_n 0, 1) := by decide +kernel
theorem dX13_choose_113 : decode cX13_choose 113 = .ok (.getfield 84, 3) := by decide +kernel
theorem dX13_choose_116 : decode cX13_choose 116 = .ok (.iload_n 2, 1) := by decide +kernel
theorem dX13_choose_117 : decode cX13_choose 117 = .ok (.iconst 0, 1) := by decide +kernel
theorem dX13_choose_118 : decode cX13_choose 118 = .ok (.bastore, 1) := by decide +kernel
theorem dX13_choose_119 : decode cX13_choose 119 = .ok (.iinc 2 1, 3) := by decide +kernel
theorem dX13_choose_122 : decode cX13_choose 122 = .ok (.goto (-18), 3) := by decide +kernel
theorem dX13_choose_125 : decode cX13_choose 125 = .ok (.bipush 41, 2) := by decide +kernel
theorem dX13_choose_127 : decode cX13_choose 127 = .ok (.istore_n 2, 1) := by decide +kernel
theorem dX13_choose_128 : decode cX13_choose 128 = .ok (.iload_n 2, 1) := by decide +kernel
theorem dX13_choose_129 : decode cX13_choose 129 = .ok (.ifCond .le 200, 3) := by decide +kernel
theorem dX13_choose_132 : decode cX13_choose 132 = .ok (.iconst 0, 1) := by decide +kernel
theorem dX13_choose_133 : decode cX13_choose 133 = .ok (.istore_n 3, 1) := by decide +kernel
theorem dX13_choose_134 : decode cX13_choose 134 = .ok (.iload_n 3, 1) := by decide +kernel
theorem dX13_choose_135 : decode cX13_choose 135 = .ok (.aload_n 0, 1) := by decide +kernel
theorem dX13_choose_136 : decode cX13_choose 136 = .ok (.getfield 164, 3) := by decide +kernel
theorem dX13_choose_139 : decode cX13_choose 139 = .ok (.if_icmp .ge 184, 3) := by decide +kernel
theorem dX13_choose_142 : decode cX13_choose 142 = .ok (.aload_n 0, 1) := by decide +kernel
theorem dX13_choose_143 : decode cX13_choose 143 = .ok (.getfield 16, 3) := by decide +kernel
theorem dX13_choose_146 : decode cX13_choose 146 = .ok (.aload_n 0, 1) := by decide +kernel
theorem dX13_choose_147 : decode cX13_choose 147 = .ok (.getfield 39, 3) := by decide +kernel
theorem dX13_choose_150 : decode cX13_choose 150 = .ok (.aload_n 0, 1) := by decide +kernel
theorem dX13_choose_151 : decode cX13_choose 151 = .ok (.getfield 78, 3) := by decide +kernel
theorem dX13_choose_154 : decode cX13_choose 154 = .ok (.iload_n 3, 1) := by decide +kernel
theorem dX13_choose_155 : decode cX13_choose 155 = .ok (.iaload, 1) := by decide +kernel
theorem dX13_choose_156 : decode cX13_choose 156 = .ok (.iaload, 1) := by decide +kernel
theorem dX13_choose_157 : decode cX13_choose 157 = .ok (.iaload, 1) := by decide +kernel
theorem dX13_choose_158 : decode cX13_choose 158 = .ok (.iload_n 2, 1) := by decide +kernel
theorem dX13_choose_159 : decode cX13_choose 159 = .ok (.if_icmp .eq 6, 3) := by decide +kernel
theorem dX13_choose_162 : decode cX13_choose 162 = .ok (.goto 155, 3) := by decide +kernel
theorem dX13_choose_165 : decode cX13_choose 165 = .ok (.aload_n 0, 1) := by decide +kernel
theorem dX13_choose_166 : decode cX13_choose 166 = .ok (.aload_n 0, 1) := by decide +kernel
theorem dX13_choose_167 : decode cX13_choose 167 = .ok (.aload_n 0, 1) := by decide +kernel
theorem dX13_choose_168 : decode cX13_choose 168 = .ok (.getfield 78, 3) := by decide +kernel
theorem dX13_choose_171 : decode cX13_choose 171 = .ok (.iload_n 3, 1) := by decide +kernel
theorem dX13_choose_172 : decode cX13_choose 172 = .ok (.iaload, 1) := by decide +kernel
theorem dX13_choose_173 : decode cX13_choose 173 = .ok (.invokevirtual 176, 3) := by decide +kernel
theorem dX13_choose_176 : decode cX13_choose 176 = .ok (.invokevirtual 180, 3) := by decide +kernel
theorem dX13_choose_179 : decode cX13_choose 179 = .ok (.iconst 1, 1) := by decide +kernel
theorem dX13_choose_180 : decode cX13_choose 180 = .ok (.istore 4, 2) := by decide +kernel
theorem dX13_choose_182 : decode cX13_choose 182 = .ok (.iconst 1, 1) := by decide +kernel
theorem dX13_choose_183 : decode cX13_choose 183 = .ok (.istore 5, 2) := by decide +kernel
theorem dX13_choose_185 : decode cX13_choose 185 = .ok (.iload 5, 2) := by decide +kernel
theorem dX13_choose_187 : decode cX13_choose 187 = .ok (.aload_n 0, 1) := by decide +kernel
theorem dX13_choose_188 : decode cX13_choose 188 = .ok (.getfield 103, 3) := by decide +kernel
theorem dX13_choose_191 : decode cX13_choose 191 = .ok (.if_icmp .gt 41, 3) := by decide +kernel
theorem dX13_choose_194 : decode cX13_choose 194 = .ok (.iload 4, 2) := by decide +kernel
theorem dX13_choose_196 : decode cX13_choose 196 = .ok (.ifCond .eq 27, 3) := by decide +kernel
theorem dX13_choose_199 : decode cX13_choose 199 = .ok (.aload_n 0, 1) := by decide +kernel
theorem dX13_choose_200 : decode cX13_choose 200 = .ok (.getfield 87, 3) := by decide +kernel
theorem dX13_choose_203 : decode cX13_choose 203 = .ok (.iload 5, 2) := by decide +kernel
theorem dX13_choose_205 : decode cX13_choose 205 = .ok (.baload, 1) := by decide +kernel
theorem dX13_choose_206 : decode cX13_choose 206 = .ok (.ifCond .eq 13, 3) := by decide +kernel
theorem dX13_choose_209 : decode cX13_choose 209 = .ok (.aload_n 0, 1) := by decide +kernel
theorem dX13_choose_210 : decode cX13_choose 210 = .ok (.getfield 84, 3) := by decide +kernel
theorem dX13_choose_213 : decode cX13_choose 213 = .ok (.iload 5, 2) := by decide +kernel
theorem dX13_choose_215 : decode cX13_choose 215 = .ok (.baload, 1) := by decide +kernel
theorem dX13_choose_216 : decode cX13_choose 216 = .ok (.ifCond .ne 7, 3) := by decide +kernel
theorem dX13_choose_219 : decode cX13_choose 219 = .ok (.iconst 1, 1) := by decide +kernel
theorem dX13_choose_220 : decode cX13_choose 220 = .ok (.goto 4, 3) := by decide +kernel
theorem dX13_choose_223 : decode cX13_choose 223 = .ok (.iconst 0, 1) := by decide +kernel
theorem dX13_choose_224 : decode cX13_choose 224 = .ok (.istore 4, 2) := by decide +kernel
theorem dX13_choose_226 : decode cX13_choose 226 = .ok (.iinc 5 1, 3) := by decide +kernel
theorem dX13_choose_229 : decode cX13_choose 229 = .ok (.goto (-44), 3) := by decide +kernel
theorem dX13_choose_232 : decode cX13_choose 232 = .ok (.iconst 1, 1) := by decide +kernel
theorem dX13_choose_233 : decode cX13_choose 233 = .ok (.istore 5, 2) := by decide +kernel
theorem dX13_choose_235 : decode cX13_choose 235 = .ok (.iload 5, 2) := by decide +kernel
theorem dX13_choose_237 : decode cX13_choose 237 = .ok (.aload_n 0, 1) := by decide +kernel
theorem dX13_choose_238 : decode cX13_choose 238 = .ok (.getfield 103, 3) := by decide +kernel
theorem dX13_choose_241 : decode cX13_choose 241 = .ok (.if_icmp .gt 46, 3) := by decide +kernel
theorem dX13_choose_244 : decode cX13_choose 244 = .ok (.iload 4, 2) := by decide +kernel
theorem dX13_choose_246 : decode cX13_choose 246 = .ok (.ifCond .eq 41, 3) := by decide +kernel
theorem dX13_choose_249 : decode cX13_choose 249 = .ok (.aload_n 0, 1) := by decide +kernel
theorem dX13_choose_250 : decode cX13_choose 250 = .ok (.getfield 84, 3) := by decide +kernel
theorem dX13_choose_253 : decode cX13_choose 253 = .ok (.iload 5, 2) := by decide +kernel
theorem dX13_choose_255 : decode cX13_choose 255 = .ok (.aload_n 0, 1) := by decide +kernel
theorem dX13_choose_256 : decode cX13_choose 256 = .ok (.getfield 84, 3) := by decide +kernel
theorem dX13_choose_259 : decode cX13_choose 259 = .ok (.iload 5, 2) := by decide +kernel
theorem dX13_choose_261 : decode cX13_choose 261 = .ok (.baload, 1) := by decide +kernel
theorem dX13_choose_262 : decode cX13_choose 262 = .ok (.ifCond .ne 13, 3) := by decide +kernel
theorem dX13_choose_265 : decode cX13_choose 265 = .ok (.aload_n 0, 1) := by decide +kernel
theorem dX13_choose_266 : decode cX13_choose 266 = .ok (.getfield 87, 3) := by decide +kernel
theorem dX13_choose_269 : decode cX13_choose 269 = .ok (.iload 5, 2) := by decide +kernel
theorem dX13_choose_271 : decode cX13_choose 271 = .ok (.baload, 1) := by decide +kernel
theorem dX13_choose_272 : decode cX13_choose 272 = .ok (.ifCond .eq 7, 3) := by decide +kernel
theorem dX13_choose_275 : decode cX13_choose 275 = .ok (.iconst 1, 1) := by decide +kernel
theorem dX13_choose_276 : decode cX13_choose 276 = .ok (.goto 4, 3) := by decide +kernel
theorem dX13_choose_279 : decode cX13_choose 279 = .ok (.iconst 0, 1) := by decide +kernel
theorem dX13_choose_280 : decode cX13_choose 280 = .ok (.bastore, 1) := by decide +kernel
theorem dX13_choose_281 : decode cX13_choose 281 = .ok (.iinc 5 1, 3) := by decide +kernel
theorem dX13_choose_284 : decode cX13_choose 284 = .ok (.goto (-49), 3) := by decide +kernel
theorem dX13_choose_287 : decode cX13_choose 287 = .ok (.iload 4, 2) := by decide +kernel
theorem dX13_choose_289 : decode cX13_choose 289 = .ok (.ifCond .eq 28, 3) := by decide +kernel
theorem dX13_choose_292 : decode cX13_choose 292 = .ok (.aload_n 0, 1) := by decide +kernel
theorem dX13_choose_293 : decode cX13_choose 293 = .ok (.getfield 81, 3) := by decide +kernel
theorem dX13_choose_296 : decode cX13_choose 296 = .ok (.aload_n 0, 1) := by decide +kernel
theorem dX13_choose_297 : decode cX13_choose 297 = .ok (.getfield 173, 3) := by decide +kernel
theorem dX13_choose_300 : decode cX13_choose 300 = .ok (.aload_n 0, 1) := by decide +kernel
theorem dX13_choose_301 : decode cX13_choose 301 = .ok (.getfield 78, 3) := by decide +kernel
theorem dX13_choose_304 : decode cX13_choose 304 = .ok (.iload_n 3, 1) := by decide +kernel
theorem dX13_choose_305 : decode cX13_choose 305 = .ok (.iaload, 1) := by decide +kernel
theorem dX13_choose_306 : decode cX13_choose 306 = .ok (.iastore, 1) := by decide +kernel
theorem dX13_choose_307 : decode cX13_choose 307 = .ok (.aload_n 0, 1) := by decide +kernel
theorem dX13_choose_308 : decode cX13_choose 308 = .ok (.dup, 1) := by decide +kernel
theorem dX13_choose_309 : decode cX13_choose 309 = .ok (.getfield 173, 3) := by decide +kernel
theorem dX13_choose_312 : decode cX13_choose 312 = .ok (.iconst 1, 1) := by decide +kernel
theorem dX13_choose_313 : decode cX13_choose 313 = .ok (.iadd, 1) := by decide +kernel
theorem dX13_choose_314 : decode cX13_choose 314 = .ok (.putfield 173, 3) := by decide +kernel
theorem dX13_choose_317 : decode cX13_choose 317 = .ok (.iinc 3 1, 3) := by decide +kernel
theorem dX13_choose_320 : decode cX13_choose 320 = .ok (.goto (-186), 3) := by decide +kernel
theorem dX13_choose_323 : decode cX13_choose 323 = .ok (.iinc 2 (-1), 3) := by decide +kernel
theorem dX13_choose_326 : decode cX13_choose 326 = .ok (.goto (-198), 3) := by decide +kernel
theorem dX13_choose_329 : decode cX13_choose 329 = .ok (.aload_n 0, 1) := by decide +kernel
theorem dX13_choose_330 : decode cX13_choose 330 = .ok (.getfield 173, 3) := by decide +kernel
theorem dX13_choose_333 : decode cX13_choose 333 = .ok (.ireturn, 1) := by decide +kernel
theorem cwX13_choose : mw_cwV yX13_choose cX13_choose 6 ((some .int)) 1 := ⟨⟨wd_20, wd_4106, by decide +kernel⟩, wd_4105, sl_323⟩
set_option maxHeartbeats 4000000 in
set_option maxRecDepth 100000 in
theorem tX13_choose (l : Launch) (G : mwG) (ad : Nat → Nat) (fu : Nat) (k : Nat) (a1 : Int32) (M : mwM) (L : mwL) {r0 : Int32} {M0 : mwM} {L0 : mwL} (hD : DX13_choose fu k a1 M L = some (r0, M0, L0)) (hk0 : isMc k) : Met l yX13_choose (Cond.code yX13_choose cX13_choose 6 ((some .int)) :: GT) ({ frames := 2, cells := 0, slots := 0, locals := 51 }) (mw_Pre G ad NF TF FF M L [.ref (ad k), .int a1]) (mw_Qi G ad NF TF FF (mw_eqI r0 M0 L0)) 0 0 (mw_fr G) := by
  refine mw_enter (by decide) (Nat.le_of_ble_eq_true rfl) ?_
  intro p e s m below meth c ls C hr hlocks hnm hw hl
  have hl : lv_has ls 6 [(0, .ref (ad k)), (1, .int a1)] := hl
  have hh128 : ∀ (f : Nat) (v2 : Int32) (M : mwM) (L : mwL) (H : Heap) (locs : List Loc) (ls : Array Slot), fX13_choose_h128 fu k a1 f (v2, M, L) = some (r0, M0, L0) → mw_W G ad NF TF FF M L H locs → lv_has ls 6 [(0, .ref (ad k)), (2, .int v2)] → W p l e ({ frames := 2, cells := 0, slots := 0, locals := 51 }) s m [.ref (ad k), .int a1].toArray below meth c H locs 0 0 (MQ below (mw_Qi G ad NF TF FF (mw_eqI r0 M0 L0)) [.ref (ad k), .int a1].toArray s 0 0 (mw_fr G)) (F0 m 128 ls []) := by
    intro f
    induction f with
    | zero => intro v2 M L H locs ls hD; cases hD
    | succ f128 ih128 =>
      intro v2 M L H locs ls hD hw hl
      replace hD : fX13_choose_i128 fu k a1 (fX13_choose_h128 fu k a1 f128) v2 M L = some (r0, M0, L0) := hD
      have hh134 : ∀ (f : Nat) (v2 : Int32) (v3 : Int32) (M : mwM) (L : mwL) (H : Heap) (locs : List Loc) (ls : Array Slot), fX13_choose_h134 fu k a1 (fX13_choose_h128 fu k a1 f128) f (v2, v3, M, L) = some (r0, M0, L0) → mw_W G ad NF TF FF M L H locs → lv_has ls 6 [(0, .ref (ad k)), (2, .int v2), (3, .int v3)] → W p l e ({ frames := 2, cells := 0, slots := 0, locals := 51 }) s m [.ref (ad k), .int a1].toArray below meth c H locs 0 0 (MQ below (mw_Qi G ad NF TF FF (mw_eqI r0 M0 L0)) [.ref (ad k), .int a1].toArray s 0 0 (mw_fr G)) (F0 m 134 ls []) := by
        intro f
        induction f with
        | zero => intro v2 v3 M L H locs ls hD; cases hD
        | succ f134 ih134 =>
          intro v2 v3 M L H locs ls hD hw hl
          replace hD : fX13_choose_i134 fu k a1 (fX13_choose_h128 fu k a1 f128) (fX13_choose_h134 fu k a1 (fX13_choose_h128 fu k a1 f128) f134) v2 v3 M L = some (r0, M0, L0) := hD
          have hb317 : ∀ (v2 : Int32) (v3 : Int32) (M : mwM) (L : mwL) (H : Heap) (locs : List Loc) (ls : Array Slot), fX13_choose_b317 fu k a1 (fX13_choose_h128 fu k a1 f128) (fX13_choose_h134 fu k a1 (fX13_choose_h128 fu k a1 f128) f134) v2 v3 M L = some (r0, M0, L0) → mw_W G ad NF TF FF M L H locs → lv_has ls 6 [(0, .ref (ad k)), (2, .int v2), (3, .int v3)] → W p l e ({ frames := 2, cells := 0, slots := 0, locals := 51 }) s m [.ref (ad k), .int a1].toArray below meth c H locs 0 0 (MQ below (mw_Qi G ad NF TF FF (mw_eqI r0 M0 L0)) [.ref (ad k), .int a1].toArray s 0 0 (mw_fr G)) (F0 m 317 ls []) := by
            intro v2 v3 M L H locs ls hD hw hl
            unfold fX13_choose_b317 at hD
            obtain ⟨x61, ex61, hD⟩ := g_let hD
            refine lv_iinc (v := x61) (lv' := [(3, .int x61), (0, .ref (ad k)), (2, .int v2)]) C.1.1 C.1.2.1 dX13_choose_317 hl (k := 2) rfl (by rw [ex61]; rfl) (by decide) rfl (fun ls hl => ?_)
            refine lv_goto (tgt := 134) C.1.1 C.1.2.1 dX13_choose_320 (by decide) ?_
            exact ih134 v2 x61 M L _ _ ls hD hw (lv_sub hl [1, 2, 0] rfl)
          have hb287 : ∀ (v2 : Int32) (v3 : Int32) (v4 : Int32) (M : mwM) (L : mwL) (H : Heap) (locs : List Loc) (ls : Array Slot), fX13_choose_b287 fu k a1 (fX13_choose_h128 fu k a1 f128) (fX13_choose_h134 fu k a1 (fX13_choose_h128 fu k a1 f128) f134) v2 v3 v4 M L = some (r0, M0, L0) → mw_W G ad NF TF FF M L H locs → lv_has ls 6 [(0, .ref (ad k)), (2, .int v2), (3, .int v3), (4, .int v4)] → W p l e ({ frames := 2, cells := 0, slots := 0, locals := 51 }) s m [.ref (ad k), .int a1].toArray below meth c H locs 0 0 (MQ below (mw_Qi G ad NF TF FF (mw_eqI r0 M0 L0)) [.ref (ad k), .int a1].toArray s 0 0 (mw_fr G)) (F0 m 287 ls []) := by
            intro v2 v3 v4 M L H locs ls hD hw hl
            unfold fX13_choose_b287 at hD
            refine lv_iload C.1.1 C.1.2.1 dX13_choose_287 (lv_at hl 3 rfl) ?_
            refine lv_if_eq (tgt := 317) C.1.1 C.1.2.1 dX13_choose_289 (by decide) (fun c56 => ?_) (fun c56 => ?_)
            · replace hD := g_pos c56 hD
              exact hb317 v2 v3 M L _ _ ls hD hw (lv_sub hl [0, 1, 2] rfl)
            · replace hD := g_neg c56 hD
              refine lv_aload_n C.1.1 C.1.2.1 dX13_choose_292 rfl (lv_at hl 0 rfl) ?_
              refine mr_getR C hw kc_13 36 (Mc_N0 hk0) (Mc_T0 hk0) (Mc_F0_36 hk0) wd_2678 dX13_choose_293 (by decide) rfl ?_
              refine lv_aload_n C.1.1 C.1.2.1 dX13_choose_296 rfl (lv_at hl 0 rfl) ?_
              refine mr_getI C hw kc_13 35 (Mc_N0 hk0) (Mc_T0 hk0) wd_2677 dX13_choose_297 (by decide) rfl ?_
              refine lv_aload_n C.1.1 C.1.2.1 dX13_choose_300 rfl (lv_at hl 0 rfl) ?_
              refine mr_getR C hw kc_13 34 (Mc_N0 hk0) (Mc_T0 hk0) (Mc_F0_34 hk0) wd_2676 dX13_choose_301 (by decide) rfl ?_
              refine lv_iload_n C.1.1 C.1.2.1 dX13_choose_304 rfl (lv_at hl 2 rfl) ?_
              obtain ⟨q57, hD⟩ := g_ck hD
              refine mr_iald C hw (Mc_N23 hk0) (Mc_T23 hk0) q57 dX13_choose_305 ?_
              obtain ⟨q58, hD⟩ := g_ck hD
              obtain ⟨M59, eM59, hD⟩ := g_let hD
              refine mr_iast C hw (Mc_N24 hk0) (Mc_T24 hk0) q58 dX13_choose_306 (fun H locs hw => ?_)
              replace hw : mw_W G ad NF TF FF M59 L H locs := by rw [eM59]; exact hw
              refine lv_aload_n C.1.1 C.1.2.1 dX13_choose_307 rfl (lv_at hl 0 rfl) ?_
              refine lv_dup C.1.1 C.1.2.1 dX13_choose_308 rfl ?_
              refine mr_getI C hw kc_13 35 (Mc_N0 hk0) (Mc_T0 hk0) wd_2677 dX13_choose_309 (by decide) rfl ?_
              refine lv_iconst (v := 1) C.1.1 C.1.2.1 dX13_choose_312 (by decide) ?_
              refine lv_iadd C.1.1 C.1.2.1 dX13_choose_313 ?_
              obtain ⟨M60, eM60, hD⟩ := g_let hD
              refine mr_putI C hw kc_13 35 (Mc_N0 hk0) (Mc_T0 hk0) wd_2677 dX13_choose_314 (by decide) rfl rfl rfl rfl (fun H locs hw => ?_)
              replace hw : mw_W G ad NF TF FF M60 L H locs := by rw [eM60]; exact hw
              exact hb317 v2 v3 M60 L _ _ ls hD hw (lv_sub hl [0, 1, 2] rfl)
          have hh235 : ∀ (f : Nat) (v2 : Int32) (v3 : Int32) (v4 : Int32) (v5 : Int32) (M : mwM) (L : mwL) (H : Heap) (locs : List Loc) (ls : Array Slot), fX13_choose_h235 fu k a1 (fX13_choose_h128 fu k a1 f128) (fX13_choose_h134 fu k a1 (fX13_choose_h128 fu k a1 f128) f134) f (v2, v3, v4, v5, M, L) = some (r0, M0, L0) → mw_W G ad NF TF FF M L H locs → lv_has ls 6 [(0, .ref (ad k)), (2, .int v2), (3, .int v3), (4, .int v4), (5, .int v5)] → W p l e ({ frames := 2, cells := 0, slots := 0, locals := 51 }) s m [.ref (ad k), .int a1].toArray below meth c H locs 0 0 (MQ below (mw_Qi G ad NF TF FF (mw_eqI r0 M0 L0)) [.ref (ad k), .int a1].toArray s 0 0 (mw_fr G)) (F0 m 235 ls []) := by
            intro f
            induction f with
            | zero => intro v2 v3 v4 v5 M L H locs ls hD; cases hD
            | succ f235 ih235 =>
              intro v2 v3 v4 v5 M L H locs ls hD hw hl
              replace hD : fX13_choose_i235 fu k a1 (fX13_choose_h128 fu k a1 f128) (fX13_choose_h134 fu k a1 (fX13_choose_h128 fu k a1 f128) f134) (fX13_choose_h235 fu k a1 (fX13_choose_h128 fu k a1 f128) (fX13_choose_h134 fu k a1 (fX13_choose_h128 fu k a1 f128) f134) f235) v2 v3 v4 v5 M L = some (r0, M0, L0) := hD
              have hb280 : ∀ (v2 : Int32) (v3 : Int32) (v4 : Int32) (v5 : Int32) (s1 : Int32) (s2 : Int32) (M : mwM) (L : mwL) (H : Heap) (locs : List Loc) (ls : Array Slot), fX13_choose_b280 fu k a1 (fX13_choose_h128 fu k a1 f128) (fX13_choose_h134 fu k a1 (fX13_choose_h128 fu k a1 f128) f134) (fX13_choose_h235 fu k a1 (fX13_choose_h128 fu k a1 f128) (fX13_choose_h134 fu k a1 (fX13_choose_h128 fu k a1 f128) f134) f235) v2 v3 v4 v5 s1 s2 M L = some (r0, M0, L0) → mw_W G ad NF TF FF M L H locs → lv_has ls 6 [(0, .ref (ad k)), (2, .int v2), (3, .int v3), (4, .int v4), (5, .int v5)] → W p l e ({ frames := 2, cells := 0, slots := 0, locals := 51 }) s m [.ref (ad k), .int a1].toArray below meth c H locs 0 0 (MQ below (mw_Qi G ad NF TF FF (mw_eqI r0 M0 L0)) [.ref (ad k), .int a1].toArray s 0 0 (mw_fr G)) (F0 m 280 ls [.int s2, .int s1, .ref (ad (k + 25))]) := by
                intro v2 v3 v4 v5 s1 s2 M L H locs ls hD hw hl
                unfold fX13_choose_b280 at hD
                obtain ⟨q53, hD⟩ := g_ck hD
                obtain ⟨M54, eM54, hD⟩ := g_let hD
                refine mr_zast C hw (Mc_N25 hk0) (Mc_T25 hk0) q53 dX13_choose_280 (fun H locs hw => ?_)
                replace hw : mw_W G ad NF TF FF M54 L H locs := by rw [eM54]; exact hw
                obtain ⟨x55, ex55, hD⟩ := g_let hD
                refine lv_iinc (v := x55) (lv' := [(5, .int x55), (0, .ref (ad k)), (2, .int v2), (3, .int v3), (4, .int v4)]) C.1.1 C.1.2.1 dX13_choose_281 hl (k := 4) rfl (by rw [ex55]; rfl) (by decide) rfl (fun ls hl => ?_)
                refine lv_goto (tgt := 235) C.1.1 C.1.2.1 dX13_choose_284 (by decide) ?_
                exact ih235 v2 v3 v4 x55 M54 L _ _ ls hD hw (lv_sub hl [1, 2, 3, 4, 0] rfl)
              have hb275 : ∀ (v2 : Int32) (v3 : Int32) (v4 : Int32) (v5 : Int32) (s1 : Int32) (M : mwM) (L : mwL) (H : Heap) (locs : List Loc) (ls : Array Slot), fX13_choose_b275 fu k a1 (fX13_choose_h128 fu k a1 f128) (fX13_choose_h134 fu k a1 (fX13_choose_h128 fu k a1 f128) f134) (fX13_choose_h235 fu k a1 (fX13_choose_h128 fu k a1 f128) (fX13_choose_h134 fu k a1 (fX13_choose_h128 fu k a1 f128) f134) f235) v2 v3 v4 v5 s1 M L = some (r0, M0, L0) → mw_W G ad NF TF FF M L H locs → lv_has ls 6 [(0, .ref (ad k)), (2, .int v2), (3, .int v3), (4, .int v4), (5, .int v5)] → W p l e ({ frames := 2, cells := 0, slots := 0, locals := 51 }) s m [.ref (ad k), .int a1].toArray below meth c H locs 0 0 (MQ below (mw_Qi G ad NF TF FF (mw_eqI r0 M0 L0)) [.ref (ad k), .int a1].toArray s 0 0 (mw_fr G)) (F0 m 275 ls [.int s1, .ref (ad (k + 25))]) := by
                intro v2 v3 v4 v5 s1 M L H locs ls hD hw hl
                unfold fX13_choose_b275 at hD
                refine lv_iconst (v := 1) C.1.1 C.1.2.1 dX13_choose_275 (by decide) ?_
                refine lv_goto (tgt := 280) C.1.1 C.1.2.1 dX13_choose_276 (by decide) ?_
                exact hb280 v2 v3 v4 v5 s1 1 M L _ _ ls hD hw (lv_sub hl [0, 1, 2, 3, 4] rfl)
              unfold fX13_choose_i235 at hD
              refine lv_iload C.1.1 C.1.2.1 dX13_choose_235 (lv_at hl 4 rfl) ?_
              refine lv_aload_n C.1.1 C.1.2.1 dX13_choose_237 rfl (lv_at hl 0 rfl) ?_
              refine mr_getI C hw kc_13 2 (Mc_N0 hk0) (Mc_T0 hk0) wd_2644 dX13_choose_238 (by decide) rfl ?_
              refine lv_icmp_gt (tgt := 287) C.1.1 C.1.2.1 dX13_choose_241 (by decide) (fun c47 => ?_) (fun c47 => ?_)
              · replace hD := g_pos c47 hD
                exact hb287 v2 v3 v4 M L _ _ ls hD hw (lv_sub hl [0, 1, 2, 3] rfl)
              · replace hD := g_neg c47 hD
                refine lv_iload C.1.1 C.1.2.1 dX13_choose_244 (lv_at hl 3 rfl) ?_
                refine lv_if_eq (tgt := 287) C.1.1 C.1.2.1 dX13_choose_246 (by decide) (fun c48 => ?_) (fun c48 => ?_)
                · replace hD := g_pos c48 hD
                  exact hb287 v2 v3 v4 M L _ _ ls hD hw (lv_sub hl [0, 1, 2, 3] rfl)
                · replace hD := g_neg c48 hD
                  refine lv_aload_n C.1.1 C.1.2.1 dX13_choose_249 rfl (lv_at hl 0 rfl) ?_
                  refine mr_getR C hw kc_13 37 (Mc_N0 hk0) (Mc_T0 hk0) (Mc_F0_37 hk0) wd_2679 dX13_choose_250 (by decide) rfl ?_
                  refine lv_iload C.1.1 C.1.2.1 dX13_choose_253 (lv_at hl 4 rfl) ?_
                  refine lv_aload_n C.1.1 C.1.2.1 dX13_choose_255 rfl (lv_at hl 0 rfl) ?_
                  refine mr_getR C hw kc_13 37 (Mc_N0 hk0) (Mc_T0 hk0) (Mc_F0_37 hk0) wd_2679 dX13_choose_256 (by decide) rfl ?_
                  refine lv_iload C.1.1 C.1.2.1 dX13_choose_259 (lv_at hl 4 rfl) ?_
                  obtain ⟨q49, hD⟩ := g_ck hD
                  refine mr_zald C hw (Mc_N25 hk0) (Mc_T25 hk0) q49 dX13_choose_261 ?_
                  refine lv_if_ne (tgt := 275) C.1.1 C.1.2.1 dX13_choose_262 (by decide) (fun c50 => ?_) (fun c50 => ?_)
                  · replace hD := g_neg c50 hD
                    exact hb275 v2 v3 v4 v5 v5 M L _ _ ls hD hw (lv_sub hl [0, 1, 2, 3, 4] rfl)
                  · replace hD := g_pos c50 hD
                    refine lv_aload_n C.1.1 C.1.2.1 dX13_choose_265 rfl (lv_at hl 0 rfl) ?_
                    refine mr_getR C hw kc_13 38 (Mc_N0 hk0) (Mc_T0 hk0) (Mc_F0_38 hk0) wd_2680 dX13_choose_266 (by decide) rfl ?_
                    refine lv_iload C.1.1 C.1.2.1 dX13_choose_269 (lv_at hl 4 rfl) ?_
                    obtain ⟨q51, hD⟩ := g_ck hD
                    refine mr_zald C hw (Mc_N26 hk0) (Mc_T26 hk0) q51 dX13_choose_271 ?_
                    refine lv_if_eq (tgt := 279) C.1.1 C.1.2.1 dX13_choose_272 (by decide) (fun c52 => ?_) (fun c52 => ?_)
                    · replace hD := g_pos c52 hD
                      refine lv_iconst (v := 0) C.1.1 C.1.2.1 dX13_choose_279 (by decide) ?_
                      exact hb280 v2 v3 v4 v5 v5 0 M L _ _ ls hD hw (lv_sub hl [0, 1, 2, 3, 4] rfl)
                    · replace hD := g_neg c52 hD
                      exact hb275 v2 v3 v4 v5 v5 M L _ _ ls hD hw (lv_sub hl [0, 1, 2, 3, 4] rfl)
          have hh185 : ∀ (f : Nat) (v2 : Int32) (v3 : Int32) (v4 : Int32) (v5 : Int32) (M : mwM) (L : mwL) (H : Heap) (locs : List Loc) (ls : Array Slot), fX13_choose_h185 fu k a1 (fX13_choose_h128 fu k a1 f128) (fX13_choose_h134 fu k a1 (fX13_choose_h128 fu k a1 f128) f134) f (v2, v3, v4, v5, M, L) = some (r0, M0, L0) → mw_W G ad NF TF FF M L H locs → lv_has ls 6 [(0, .ref (ad k)), (2, .int v2), (3, .int v3), (4, .int v4), (5, .int v5)] → W p l e ({ frames := 2, cells := 0, slots := 0, locals := 51 }) s m [.ref (ad k), .int a1].toArray below meth c H locs 0 0 (MQ below (mw_Qi G ad NF TF FF (mw_eqI r0 M0 L0)) [.ref (ad k), .int a1].toArray s 0 0 (mw_fr G)) (F0 m 185 ls []) := by
            intro f
            induction f with
            | zero => intro v2 v3 v4 v5 M L H locs ls hD; cases hD
            | succ f185 ih185 =>
              intro v2 v3 v4 v5 M L H locs ls hD hw hl
              replace hD : fX13_choose_i185 fu k a1 (fX13_choose_h128 fu k a1 f128) (fX13_choose_h134 fu k a1 (fX13_choose_h128 fu k a1 f128) f134) (fX13_choose_h185 fu k a1 (fX13_choose_h128 fu k a1 f128) (fX13_choose_h134 fu k a1 (fX13_choose_h128 fu k a1 f128) f134) f185) v2 v3 v4 v5 M L = some (r0, M0, L0) := hD
              have hb224 : ∀ (v2 : Int32) (v3 : Int32) (v5 : Int32) (s0 : Int32) (M : mwM) (L : mwL) (H : Heap) (locs : List Loc) (ls : Array Slot), fX13_choose_b224 fu k a1 (fX13_choose_h128 fu k a1 f128) (fX13_choose_h134 fu k a1 (fX13_choose_h128 fu k a1 f128) f134) (fX13_choose_h185 fu k a1 (fX13_choose_h128 fu k a1 f128) (fX13_choose_h134 fu k a1 (fX13_choose_h128 fu k a1 f128) f134) f185) v2 v3 v5 s0 M L = some (r0, M0, L0) → mw_W G ad NF TF FF M L H locs → lv_has ls 6 [(0, .ref (ad k)), (2, .int v2), (3, .int v3), (5, .int v5)] → W p l e ({ frames := 2, cells := 0, slots := 0, locals := 51 }) s m [.ref (ad k), .int a1].toArray below meth c H locs 0 0 (MQ below (mw_Qi G ad NF TF FF (mw_eqI r0 M0 L0)) [.ref (ad k), .int a1].toArray s 0 0 (mw_fr G)) (F0 m 224 ls [.int s0]) := by
                intro v2 v3 v5 s0 M L H locs ls hD hw hl
                unfold fX13_choose_b224 at hD
                refine lv_istore (lv' := [(4, .int s0), (0, .ref (ad k)), (2, .int v2), (3, .int v3), (5, .int v5)]) C.1.1 C.1.2.1 dX13_choose_224 hl (by decide) rfl (fun ls hl => ?_)
                obtain ⟨x46, ex46, hD⟩ := g_let hD
                refine lv_iinc (v := x46) (lv' := [(5, .int x46), (4, .int s0), (0, .ref (ad k)), (2, .int v2), (3, .int v3)]) C.1.1 C.1.2.1 dX13_choose_226 hl (k := 4) rfl (by rw [ex46]; rfl) (by decide) rfl (fun ls hl => ?_)
                refine lv_goto (tgt := 185) C.1.1 C.1.2.1 dX13_choose_229 (by decide) ?_
                exact ih185 v2 v3 s0 x46 M L _ _ ls hD hw (lv_sub hl [2, 3, 4, 1, 0] rfl)
              have hb223 : ∀ (v2 : Int32) (v3 : Int32) (v5 : Int32) (M : mwM) (L : mwL) (H : Heap) (locs : List Loc) (ls : Array Slot), fX13_choose_b223 fu k a1 (fX13_choose_h128 fu k a1 f128) (fX13_choose_h134 fu k a1 (fX13_choose_h128 fu k a1 f128) f134) (fX13_choose_h185 fu k a1 (fX13_choose_h128 fu k a1 f128) (fX13_choose_h134 fu k a1 (fX13_choose_h128 fu k a1 f128) f134) f185) v2 v3 v5 M L = some (r0, M0, L0) → mw_W G ad NF TF FF M L H locs → lv_has ls 6 [(0, .ref (ad k)), (2, .int v2), (3, .int v3), (5, .int v5)] → W p l e ({ frames := 2, cells := 0, slots := 0, locals := 51 }) s m [.ref (ad k), .int a1].toArray below meth c H locs 0 0 (MQ below (mw_Qi G ad NF TF FF (mw_eqI r0 M0 L0)) [.ref (ad k), .int a1].toArray s 0 0 (mw_fr G)) (F0 m 223 ls []) := by
                intro v2 v3 v5 M L H locs ls hD hw hl
                unfold fX13_choose_b223 at hD
                refine lv_iconst (v := 0) C.1.1 C.1.2.1 dX13_choose_223 (by decide) ?_
                exact hb224 v2 v3 v5 0 M L _ _ ls hD hw (lv_sub hl [0, 1, 2, 3] rfl)
              have hb219 : ∀ (v2 : Int32) (v3 : Int32) (v5 : Int32) (M : mwM) (L : mwL) (H : Heap) (locs : List Loc) (ls : Array Slot), fX13_choose_b219 fu k a1 (fX13_choose_h128 fu k a1 f128) (fX13_choose_h134 fu k a1 (fX13_choose_h128 fu k a1 f128) f134) (fX13_choose_h185 fu k a1 (fX13_choose_h128 fu k a1 f128) (fX13_choose_h134 fu k a1 (fX13_choose_h128 fu k a1 f128) f134) f185) v2 v3 v5 M L = some (r0, M0, L0) → mw_W G ad NF TF FF M L H locs → lv_has ls 6 [(0, .ref (ad k)), (2, .int v2), (3, .int v3), (5, .int v5)] → W p l e ({ frames := 2, cells := 0, slots := 0, locals := 51 }) s m [.ref (ad k), .int a1].toArray below meth c H locs 0 0 (MQ below (mw_Qi G ad NF TF FF (mw_eqI r0 M0 L0)) [.ref (ad k), .int a1].toArray s 0 0 (mw_fr G)) (F0 m 219 ls []) := by
                intro v2 v3 v5 M L H locs ls hD hw hl
                unfold fX13_choose_b219 at hD
                refine lv_iconst (v := 1) C.1.1 C.1.2.1 dX13_choose_219 (by decide) ?_
                refine lv_goto (tgt := 224) C.1.1 C.1.2.1 dX13_choose_220 (by decide) ?_
                exact hb224 v2 v3 v5 1 M L _ _ ls hD hw (lv_sub hl [0, 1, 2, 3] rfl)
              unfold fX13_choose_i185 at hD
              refine lv_iload C.1.1 C.1.2.1 dX13_choose_185 (lv_at hl 4 rfl) ?_
              refine lv_aload_n C.1.1 C.1.2.1 dX13_choose_187 rfl (lv_at hl 0 rfl) ?_
              refine mr_getI C hw kc_13 2 (Mc_N0 hk0) (Mc_T0 hk0) wd_2644 dX13_choose_188 (by decide) rfl ?_
              refine lv_icmp_gt (tgt := 232) C.1.1 C.1.2.1 dX13_choose_191 (by decide) (fun c40 => ?_) (fun c40 => ?_)
              · replace hD := g_pos c40 hD
                refine lv_iconst (v := 1) C.1.1 C.1.2.1 dX13_choose_232 (by decide) ?_
                refine lv_istore (lv' := [(5, .int 1), (0, .ref (ad k)), (2, .int v2), (3, .int v3), (4, .int v4)]) C.1.1 C.1.2.1 dX13_choose_233 hl (by decide) rfl (fun ls hl => ?_)
                exact hh235 fu v2 v3 v4 1 M L _ _ ls hD hw (lv_sub hl [1, 2, 3, 4, 0] rfl)
              · replace hD := g_neg c40 hD
                refine lv_iload C.1.1 C.1.2.1 dX13_choose_194 (lv_at hl 3 rfl) ?_
                refine lv_if_eq (tgt := 223) C.1.1 C.1.2.1 dX13_choose_196 (by decide) (fun c41 => ?_) (fun c41 => ?_)
                · replace hD := g_pos c41 hD
                  exact hb223 v2 v3 v5 M L _ _ ls hD hw (lv_sub hl [0, 1, 2, 4] rfl)
                · replace hD := g_neg c41 hD
                  refine lv_aload_n C.1.1 C.1.2.1 dX13_choose_199 rfl (lv_at hl 0 rfl) ?_
                  refine mr_getR C hw kc_13 38 (Mc_N0 hk0) (Mc_T0 hk0) (Mc_F0_38 hk0) wd_2680 dX13_choose_200 (by decide) rfl ?_
                  refine lv_iload C.1.1 C.1.2.1 dX13_choose_203 (lv_at hl 4 rfl) ?_
                  obtain ⟨q42, hD⟩ := g_ck hD
                  refine mr_zald C hw (Mc_N26 hk0) (Mc_T26 hk0) q42 dX13_choose_205 ?_
                  refine lv_if_eq (tgt := 219) C.1.1 C.1.2.1 dX13_choose_206 (by decide) (fun c43 => ?_) (fun c43 => ?_)
                  · replace hD := g_pos c43 hD
                    exact hb219 v2 v3 v5 M L _ _ ls hD hw (lv_sub hl [0, 1, 2, 4] rfl)
                  · replace hD := g_neg c43 hD
                    refine lv_aload_n C.1.1 C.1.2.1 dX13_choose_209 rfl (lv_at hl 0 rfl) ?_
                    refine mr_getR C hw kc_13 37 (Mc_N0 hk0) (Mc_T0 hk0) (Mc_F0_37 hk0) wd_2679 dX13_choose_210 (by decide) rfl ?_
                    refine lv_iload C.1.1 C.1.2.1 dX13_choose_213 (lv_at hl 4 rfl) ?_
                    obtain ⟨q44, hD⟩ := g_ck hD
                    refine mr_zald C hw (Mc_N25 hk0) (Mc_T25 hk0) q44 dX13_choose_215 ?_
                    refine lv_if_ne (tgt := 223) C.1.1 C.1.2.1 dX13_choose_216 (by decide) (fun c45 => ?_) (fun c45 => ?_)
                    · replace hD := g_neg c45 hD
                      exact hb223 v2 v3 v5 M L _ _ ls hD hw (lv_sub hl [0, 1, 2, 4] rfl)
                    · replace hD := g_pos c45 hD
                      exact hb219 v2 v3 v5 M L _ _ ls hD hw (lv_sub hl [0, 1, 2, 4] rfl)
          unfold fX13_choose_i134 at hD
          refine lv_iload_n C.1.1 C.1.2.1 dX13_choose_134 rfl (lv_at hl 2 rfl) ?_
          refine lv_aload_n C.1.1 C.1.2.1 dX13_choose_135 rfl (lv_at hl 0 rfl) ?_
          refine mr_getI C hw kc_13 33 (Mc_N0 hk0) (Mc_T0 hk0) wd_2675 dX13_choose_136 (by decide) rfl ?_
          refine lv_icmp_ge (tgt := 323) C.1.1 C.1.2.1 dX13_choose_139 (by decide) (fun c28 => ?_) (fun c28 => ?_)
          · replace hD := g_pos c28 hD
            obtain ⟨x29, ex29, hD⟩ := g_let hD
            refine lv_iinc (v := x29) (lv' := [(2, .int x29), (0, .ref (ad k)), (3, .int v3)]) C.1.1 C.1.2.1 dX13_choose_323 hl (k := 1) rfl (by rw [ex29]; rfl) (by decide) rfl (fun ls hl => ?_)
            refine lv_goto (tgt := 128) C.1.1 C.1.2.1 dX13_choose_326 (by decide) ?_
            exact ih128 x29 M L _ _ ls hD hw (lv_sub hl [1, 0] rfl)
          · replace hD := g_neg c28 hD
            refine lv_aload_n C.1.1 C.1.2.1 dX13_choose_142 rfl (lv_at hl 0 rfl) ?_
            refine mr_getR C hw kc_13 5 (Mc_N0 hk0) (Mc_T0 hk0) (Mc_F0_5 hk0) wd_2647 dX13_choose_143 (by decide) rfl ?_
            refine lv_aload_n C.1.1 C.1.2.1 dX13_choose_146 rfl (lv_at hl 0 rfl) ?_
            refine mr_getR C hw kc_13 13 (Mc_N0 hk0) (Mc_T0 hk0) (Mc_F0_13 hk0) wd_2655 dX13_choose_147 (by decide) rfl ?_
            refine lv_aload_n C.1.1 C.1.2.1 dX13_choose_150 rfl (lv_at hl 0 rfl) ?_
            refine mr_getR C hw kc_13 34 (Mc_N0 hk0) (Mc_T0 hk0) (Mc_F0_34 hk0) wd_2676 dX13_choose_151 (by decide) rfl ?_
            refine lv_iload_n C.1.1 C.1.2.1 dX13_choose_154 rfl (lv_at hl 2 rfl) ?_
            obtain ⟨q30, hD⟩ := g_ck hD
            refine mr_iald C hw (Mc_N23 hk0) (Mc_T23 hk0) q30 dX13_choose_155 ?_
            obtain ⟨q31, hD⟩ := g_ck hD
            refine mr_iald C hw (Mc_N10 hk0) (Mc_T10 hk0) q31 dX13_choose_156 ?_
            obtain ⟨q32, hD⟩ := g_ck hD
            refine mr_iald C hw (Mc_N3 hk0) (Mc_T3 hk0) q32 dX13_choose_157 ?_
            refine lv_iload_n C.1.1 C.1.2.1 dX13_choose_158 rfl (lv_at hl 1 rfl) ?_
            refine lv_icmp_eq (tgt := 165) C.1.1 C.1.2.1 dX13_choose_159 (by decide) (fun c33 => ?_) (fun c33 => ?_)
            · replace hD := g_pos c33 hD
              refine lv_aload_n C.1.1 C.1.2.1 dX13_choose_165 rfl (lv_at hl 0 rfl) ?_
              refine lv_aload_n C.1.1 C.1.2.1 dX13_choose_166 rfl (lv_at hl 0 rfl) ?_
              refine lv_aload_n C.1.1 C.1.2.1 dX13_choose_167 rfl (lv_at hl 0 rfl) ?_
              refine mr_getR C hw kc_13 34 (Mc_N0 hk0) (Mc_T0 hk0) (Mc_F0_34 hk0) wd_2676 dX13_choose_168 (by decide) rfl ?_
              refine lv_iload_n C.1.1 C.1.2.1 dX13_choose_171 rfl (lv_at hl 2 rfl) ?_
              obtain ⟨q34, hD⟩ := g_ck hD
              refine mr_iald C hw (Mc_N23 hk0) (Mc_T23 hk0) q34 dX13_choose_172 ?_
              obtain ⟨r37, M35, L36, h1, hD⟩ := g_b3 hD
              refine md_cvI (As := [.int (M (k + 23) v3.toNatClampNeg)]) (rest := [.ref (ad k)]) C hw (tX13_domain l G ad fu k (M (k + 23) v3.toNatClampNeg) M L h1 hk0) kc_13 (Mc_N0 hk0) (Mc_T0 hk0) wd_4122 cwX13_domain ⟨Nat.le_of_ble_eq_true rfl, Nat.le_of_ble_eq_true rfl⟩ rfl hl.1 (Nat.le_of_ble_eq_true rfl) dX13_choose_173 rfl rfl ⟨Nat.zero_le _, Nat.zero_le _⟩ rfl (fun H locs hw => ?_)
              obtain ⟨M38, L39, h1, hD⟩ := g_b2 hD
              refine md_cvV (As := [.int r37]) (rest := []) C hw (tX13_findExits l G ad fu k r37 M35 L36 h1 hk0) kc_13 (Mc_N0 hk0) (Mc_T0 hk0) wd_4130 cwX13_findExits ⟨Nat.le_of_ble_eq_true rfl, Nat.le_of_ble_eq_true rfl⟩ rfl hl.1 (Nat.le_of_ble_eq_true rfl) dX13_choose_176 rfl rfl ⟨Nat.zero_le _, Nat.zero_le _⟩ rfl (fun H locs hw => ?_)
              refine lv_iconst (v := 1) C.1.1 C.1.2.1 dX13_choose_179 (by decide) ?_
              refine lv_istore (lv' := [(4, .int 1), (0, .ref (ad k)), (2, .int v2), (3, .int v3)]) C.1.1 C.1.2.1 dX13_choose_180 hl (by decide) rfl (fun ls hl => ?_)
              refine lv_iconst (v := 1) C.1.1 C.1.2.1 dX13_choose_182 (by decide) ?_
              refine lv_istore (lv' := [(5, .int 1), (4, .int 1), (0, .ref (ad k)), (2, .int v2), (3, .int v3)]) C.1.1 C.1.2.1 dX13_choose_183 hl (by decide) rfl (fun ls hl => ?_)
              exact hh185 fu v2 v3 1 1 M38 L39 _ _ ls hD hw (lv_sub hl [2, 3, 4, 1, 0] rfl)
            · replace hD := g_neg c33 hD
              refine lv_goto (tgt := 317) C.1.1 C.1.2.1 dX13_choose_162 (by decide) ?_
              exact hb317 v2 v3 M L _ _ ls hD hw (lv_sub hl [0, 1, 2] rfl)
      unfold fX13_choose_i128 at hD
      refine lv_iload_n C.1.1 C.1.2.1 dX13_choose_128 rfl (lv_at hl 1 rfl) ?_
      refine lv_if_le (tgt := 329) C.1.1 C.1.2.1 dX13_choose_129 (by decide) (fun c27 => ?_) (fun c27 => ?_)
      · replace hD := g_pos c27 hD
        refine lv_aload_n C.1.1 C.1.2.1 dX13_choose_329 rfl (lv_at hl 0 rfl) ?_
        refine mr_getI C hw kc_13 35 (Mc_N0 hk0) (Mc_T0 hk0) wd_2677 dX13_choose_330 (by decide) rfl ?_
        exact mr_iret C hr hlocks hw rfl (Option.some.inj hD) dX13_choose_333
      · replace hD := g_neg c27 hD
        refine lv_iconst (v := 0) C.1.1 C.1.2.1 dX13_choose_132 (by decide) ?_
        refine lv_istore_n (lv' := [(3, .int 0), (0, .ref (ad k)), (2, .int v2)]) C.1.1 C.1.2.1 dX13_choose_133 rfl hl (by decide) rfl (fun ls hl => ?_)
        exact hh134 fu v2 0 M L _ _ ls hD hw (lv_sub hl [1, 2, 0] rfl)
  have hh104 : ∀ (f : Nat) (v2 : Int32) (M : mwM) (L : mwL) (H : Heap) (locs : List Loc) (ls : Array Slot), fX13_choose_h104 fu k a1 f (v2, M, L) = some (r0, M0, L0) → mw_W G ad NF TF FF M L H locs → lv_has ls 6 [(0, .ref (ad k)), (2, .int v2)] → W p l e ({ frames := 2, cells := 0, slots := 0, locals := 51 }) s m [.ref (ad k), .int a1].toArray below meth c H locs 0 0 (MQ below (mw_Qi G ad NF TF FF (mw_eqI r0 M0 L0)) [.ref (ad k), .int a1].toArray s 0 0 (mw_fr G)) (F0 m 104 ls []) := by
    intro f
    induction f with
    | zero => intro v2 M L H locs ls hD; cases hD
    | succ f104 ih104 =>
      intro v2 M L H locs ls hD hw hl
      replace hD : fX13_choose_i104 fu k a1 (fX13_choose_h104 fu k a1 f104) v2 M L = some (r0, M0, L0) := hD
      unfold fX13_choose_i104 at hD
      refine lv_iload_n C.1.1 C.1.2.1 dX13_choose_104 rfl (lv_at hl 1 rfl) ?_
      refine lv_aload_n C.1.1 C.1.2.1 dX13_choose_105 rfl (lv_at hl 0 rfl) ?_
      refine mr_getI C hw kc_13 2 (Mc_N0 hk0) (Mc_T0 hk0) wd_2644 dX13_choose_106 (by decide) rfl ?_
      refine lv_icmp_gt (tgt := 125) C.1.1 C.1.2.1 dX13_choose_109 (by decide) (fun c23 => ?_) (fun c23 => ?_)
      · replace hD := g_pos c23 hD
        refine lv_bipush (v := 41) C.1.1 C.1.2.1 dX13_choose_125 (by decide) ?_
        refine lv_istore_n (lv' := [(2, .int 41), (0, .ref (ad k))]) C.1.1 C.1.2.1 dX13_choose_127 rfl hl (by decide) rfl (fun ls hl => ?_)
        exact hh128 fu 41 M L _ _ ls hD hw (lv_sub hl [1, 0] rfl)
      · replace hD := g_neg c23 hD
        refine lv_aload_n C.1.1 C.1.2.1 dX13_choose_112 rfl (lv_at hl 0 rfl) ?_
        refine mr_getR C hw kc_13 37 (Mc_N0 hk0) (Mc_T0 hk0) (Mc_F0_37 hk0) wd_2679 dX13_choose_113 (by decide) rfl ?_
        refine lv_iload_n C.1.1 C.1.2.1 dX13_choose_116 rfl (lv_at hl 1 rfl) ?_
        refine lv_iconst (v := 0) C.1.1 C.1.2.1 dX13_choose_117 (by decide) ?_
        obtain ⟨q24, hD⟩ := g_ck hD
        obtain ⟨M25, eM25, hD⟩ := g_let hD
        refine mr_zast C hw (Mc_N25 hk0) (Mc_T25 hk0) q24 dX13_choose_118 (fun H locs hw => ?_)
        replace hw : mw_W G ad NF TF FF M25 L H locs := by rw [eM25]; exact hw
        obtain ⟨x26, ex26, hD⟩ := g_let hD
        refine lv_iinc (v := x26) (lv' := [(2, .int x26), (0, .ref (ad k))]) C.1.1 C.1.2.1 dX13_choose_119 hl (k := 1) rfl (by rw [ex26]; rfl) (by decide) rfl (fun ls hl => ?_)
        refine lv_goto (tgt := 104) C.1.1 C.1.2.1 dX13_choose_122 (by decide) ?_
        exact ih104 x26 M25 L _ _ ls hD hw (lv_sub hl [1, 0] rfl)
  have hh7 : ∀ (f : Nat) (v2 : Int32) (M : mwM) (L : mwL) (H : Heap) (locs : List Loc) (ls : Array Slot), fX13_choose_h7 fu k a1 f (v2, M, L) = some (r0, M0, L0) → mw_W G ad NF TF FF M L H locs → lv_has ls 6 [(0, .ref (ad k)), (1, .int a1), (2, .int v2)] → W p l e ({ frames := 2, cells := 0, slots := 0, locals := 51 }) s m [.ref (ad k), .int a1].toArray below meth c H locs 0 0 (MQ below (mw_Qi G ad NF TF FF (mw_eqI r0 M0 L0)) [.ref (ad k), .int a1].toArray s 0 0 (mw_fr G)) (F0 m 7 ls []) := by
    intro f
    induction f with
    | zero => intro v2 M L H locs ls hD; cases hD
    | succ f7 ih7 =>
      intro v2 M L H locs ls hD hw hl
      replace hD : fX13_choose_i7 fu k a1 (fX13_choose_h7 fu k a1 f7) v2 M L = some (r0, M0, L0) := hD
      have hb91 : ∀ (v2 : Int32) (M : mwM) (L : mwL) (H : Heap) (locs : List Loc) (ls : Array Slot), fX13_choose_b91 fu k a1 (fX13_choose_h7 fu k a1 f7) v2 M L = some (r0, M0, L0) → mw_W G ad NF TF FF M L H locs → lv_has ls 6 [(0, .ref (ad k)), (1, .int a1), (2, .int v2)] → W p l e ({ frames := 2, cells := 0, slots := 0, locals := 51 }) s m [.ref (ad k), .int a1].toArray below meth c H locs 0 0 (MQ below (mw_Qi G ad NF TF FF (mw_eqI r0 M0 L0)) [.ref (ad k), .int a1].toArray s 0 0 (mw_fr G)) (F0 m 91 ls []) := by
        intro v2 M L H locs ls hD hw hl
        unfold fX13_choose_b91 at hD
        obtain ⟨x22, ex22, hD⟩ := g_let hD
        refine lv_iinc (v := x22) (lv' := [(2, .int x22), (0, .ref (ad k)), (1, .int a1)]) C.1.1 C.1.2.1 dX13_choose_91 hl (k := 2) rfl (by rw [ex22]; rfl) (by decide) rfl (fun ls hl => ?_)
        refine lv_goto (tgt := 7) C.1.1 C.1.2.1 dX13_choose_94 (by decide) ?_
        exact ih7 x22 M L _ _ ls hD hw (lv_sub hl [1, 2, 0] rfl)
      unfold fX13_choose_i7 at hD
      refine lv_iload_n C.1.1 C.1.2.1 dX13_choose_7 rfl (lv_at hl 2 rfl) ?_
      refine lv_aload_n C.1.1 C.1.2.1 dX13_choose_8 rfl (lv_at hl 0 rfl) ?_
      refine mr_getI C hw kc_13 12 (Mc_N0 hk0) (Mc_T0 hk0) wd_2654 dX13_choose_9 (by decide) rfl ?_
      refine lv_icmp_gt (tgt := 97) C.1.1 C.1.2.1 dX13_choose_12 (by decide) (fun c1 => ?_) (fun c1 => ?_)
      · replace hD := g_pos c1 hD
        refine lv_aload_n C.1.1 C.1.2.1 dX13_choose_97 rfl (lv_at hl 0 rfl) ?_
        refine lv_iconst (v := 0) C.1.1 C.1.2.1 dX13_choose_98 (by decide) ?_
        obtain ⟨M2, eM2, hD⟩ := g_let hD
        refine mr_putI C hw kc_13 35 (Mc_N0 hk0) (Mc_T0 hk0) wd_2677 dX13_choose_99 (by decide) rfl rfl rfl rfl (fun H locs hw => ?_)
        replace hw : mw_W G ad NF TF FF M2 L H locs := by rw [eM2]; exact hw
        refine lv_iconst (v := 0) C.1.1 C.1.2.1 dX13_choose_102 (by decide) ?_
        refine lv_istore_n (lv' := [(2, .int 0), (0, .ref (ad k)), (1, .int a1)]) C.1.1 C.1.2.1 dX13_choose_103 rfl hl (by decide) rfl (fun ls hl => ?_)
        exact hh104 fu 0 M2 L _ _ ls hD hw (lv_sub hl [1, 0] rfl)
      · replace hD := g_neg c1 hD
        refine lv_aload_n C.1.1 C.1.2.1 dX13_choose_15 rfl (lv_at hl 0 rfl) ?_
        refine mr_getR C hw kc_13 15 (Mc_N0 hk0) (Mc_T0 hk0) (Mc_F0_15 hk0) wd_2657 dX13_choose_16 (by decide) rfl ?_
        refine lv_iload_n C.1.1 C.1.2.1 dX13_choose_19 rfl (lv_at hl 2 rfl) ?_
        obtain ⟨q3, hD⟩ := g_ck hD
        refine mr_iald C hw (Mc_N12 hk0) (Mc_T12 hk0) q3 dX13_choose_20 ?_
        refine lv_iload_n C.1.1 C.1.2.1 dX13_choose_21 rfl (lv_at hl 1 rfl) ?_
        refine lv_icmp_ne (tgt := 91) C.1.1 C.1.2.1 dX13_choose_22 (by decide) (fun c4 => ?_) (fun c4 => ?_)
        · replace hD := g_neg c4 hD
          exact hb91 v2 M L _ _ ls hD hw (lv_sub hl [0, 1, 2] rfl)
        · replace hD := g_pos c4 hD
          refine lv_aload_n C.1.1 C.1.2.1 dX13_choose_25 rfl (lv_at hl 0 rfl) ?_
          refine mr_getR C hw kc_13 3 (Mc_N0 hk0) (Mc_T0 hk0) (Mc_F0_3 hk0) wd_2645 dX13_choose_26 (by decide) rfl ?_
          refine lv_aload_n C.1.1 C.1.2.1 dX13_choose_29 rfl (lv_at hl 0 rfl) ?_
          refine mr_getR C hw kc_13 13 (Mc_N0 hk0) (Mc_T0 hk0) (Mc_F0_13 hk0) wd_2655 dX13_choose_30 (by decide) rfl ?_
          refine lv_iload_n C.1.1 C.1.2.1 dX13_choose_33 rfl (lv_at hl 2 rfl) ?_
          obtain ⟨q5, hD⟩ := g_ck hD
          refine mr_iald C hw (Mc_N10 hk0) (Mc_T10 hk0) q5 dX13_choose_34 ?_
          obtain ⟨q6, hD⟩ := g_ck hD
          refine mr_iald C hw (Mc_N1 hk0) (Mc_T1 hk0) q6 dX13_choose_35 ?_
          refine lv_iconst (v := 4) C.1.1 C.1.2.1 dX13_choose_36 (by decide) ?_
          refine lv_icmp_eq (tgt := 91) C.1.1 C.1.2.1 dX13_choose_37 (by decide) (fun c7 => ?_) (fun c7 => ?_)
          · replace hD := g_pos c7 hD
            exact hb91 v2 M L _ _ ls hD hw (lv_sub hl [0, 1, 2] rfl)
          · replace hD := g_neg c7 hD
            refine lv_aload_n C.1.1 C.1.2.1 dX13_choose_40 rfl (lv_at hl 0 rfl) ?_
            refine mr_getR C hw kc_13 3 (Mc_N0 hk0) (Mc_T0 hk0) (Mc_F0_3 hk0) wd_2645 dX13_choose_41 (by decide) rfl ?_
            refine lv_aload_n C.1.1 C.1.2.1 dX13_choose_44 rfl (lv_at hl 0 rfl) ?_
            refine mr_getR C hw kc_13 14 (Mc_N0 hk0) (Mc_T0 hk0) (Mc_F0_14 hk0) wd_2656 dX13_choose_45 (by decide) rfl ?_
            refine lv_iload_n C.1.1 C.1.2.1 dX13_choose_48 rfl (lv_at hl 2 rfl) ?_
            obtain ⟨q8, hD⟩ := g_ck hD
            refine mr_iald C hw (Mc_N11 hk0) (Mc_T11 hk0) q8 dX13_choose_49 ?_
            obtain ⟨q9, hD⟩ := g_ck hD
            refine mr_iald C hw (Mc_N1 hk0) (Mc_T1 hk0) q9 dX13_choose_50 ?_
            refine lv_iconst (v := 5) C.1.1 C.1.2.1 dX13_choose_51 (by decide) ?_
            refine lv_icmp_eq (tgt := 91) C.1.1 C.1.2.1 dX13_choose_52 (by decide) (fun c10 => ?_) (fun c10 => ?_)
            · replace hD := g_pos c10 hD
              exact hb91 v2 M L _ _ ls hD hw (lv_sub hl [0, 1, 2] rfl)
            · replace hD := g_neg c10 hD
              refine lv_aload_n C.1.1 C.1.2.1 dX13_choose_55 rfl (lv_at hl 0 rfl) ?_
              refine lv_iload_n C.1.1 C.1.2.1 dX13_choose_56 rfl (lv_at hl 2 rfl) ?_
              obtain ⟨r13, M11, L12, h1, hD⟩ := g_b3 hD
              refine md_cvI (As := [.int v2]) (rest := []) C hw (tX13_waitsFor l G ad fu k v2 M L h1 hk0) kc_13 (Mc_N0 hk0) (Mc_T0 hk0) wd_4107 cwX13_waitsFor ⟨Nat.le_of_ble_eq_true rfl, Nat.le_of_ble_eq_true rfl⟩ rfl hl.1 (Nat.le_of_ble_eq_true rfl) dX13_choose_57 rfl rfl ⟨Nat.zero_le _, Nat.zero_le _⟩ rfl (fun H locs hw => ?_)
              refine lv_if_eq (tgt := 91) C.1.1 C.1.2.1 dX13_choose_60 (by decide) (fun c14 => ?_) (fun c14 => ?_)
              · replace hD := g_pos c14 hD
                exact hb91 v2 M11 L12 _ _ ls hD hw (lv_sub hl [0, 1, 2] rfl)
              · replace hD := g_neg c14 hD
                refine lv_aload_n C.1.1 C.1.2.1 dX13_choose_63 rfl (lv_at hl 0 rfl) ?_
                refine lv_iload_n C.1.1 C.1.2.1 dX13_choose_64 rfl (lv_at hl 2 rfl) ?_
                obtain ⟨r17, M15, L16, h1, hD⟩ := g_b3 hD
                refine md_cvI (As := [.int v2]) (rest := []) C hw (tX13_holds l G ad fu k v2 M11 L12 h1 hk0) kc_13 (Mc_N0 hk0) (Mc_T0 hk0) wd_4115 cwX13_holds ⟨Nat.le_of_ble_eq_true rfl, Nat.le_of_ble_eq_true rfl⟩ rfl hl.1 (Nat.le_of_ble_eq_true rfl) dX13_choose_65 rfl rfl ⟨Nat.zero_le _, Nat.zero_le _⟩ rfl (fun H locs hw => ?_)
                refine lv_if_eq (tgt := 91) C.1.1 C.1.2.1 dX13_choose_68 (by decide) (fun c18 => ?_) (fun c18 => ?_)
                · replace hD := g_pos c18 hD
                  exact hb91 v2 M15 L16 _ _ ls hD hw (lv_sub hl [0, 1, 2] rfl)
                · replace hD := g_neg c18 hD
                  refine lv_aload_n C.1.1 C.1.2.1 dX13_choose_71 rfl (lv_at hl 0 rfl) ?_
                  refine mr_getR C hw kc_13 34 (Mc_N0 hk0) (Mc_T0 hk0) (Mc_F0_34 hk0) wd_2676 dX13_choose_72 (by decide) rfl ?_
                  refine lv_aload_n C.1.1 C.1.2.1 dX13_choose_75 rfl (lv_at hl 0 rfl) ?_
                  refine mr_getI C hw kc_13 33 (Mc_N0 hk0) (Mc_T0 hk0) wd_2675 dX13_choose_76 (by decide) rfl ?_
                  refine lv_iload_n C.1.1 C.1.2.1 dX13_choose_79 rfl (lv_at hl 2 rfl) ?_
                  obtain ⟨q19, hD⟩ := g_ck hD
                  obtain ⟨M20, eM20, hD⟩ := g_let hD
                  refine mr_iast C hw (Mc_N23 hk0) (Mc_T23 hk0) q19 dX13_choose_80 (fun H locs hw => ?_)
                  replace hw : mw_W G ad NF TF FF M20 L16 H locs := by rw [eM20]; exact hw
                  refine lv_aload_n C.1.1 C.1.2.1 dX13_choose_81 rfl (lv_at hl 0 rfl) ?_
                  refine lv_dup C.1.1 C.1.2.1 dX13_choose_82 rfl ?_
                  refine mr_getI C hw kc_13 33 (Mc_N0 hk0) (Mc_T0 hk0) wd_2675 dX13_choose_83 (by decide) rfl ?_
                  refine lv_iconst (v := 1) C.1.1 C.1.2.1 dX13_choose_86 (by decide) ?_
                  refine lv_iadd C.1.1 C.1.2.1 dX13_choose_87 ?_
                  obtain ⟨M21, eM21, hD⟩ := g_let hD
                  refine mr_putI C hw kc_13 33 (Mc_N0 hk0) (Mc_T0 hk0) wd_2675 dX13_choose_88 (by decide) rfl rfl rfl rfl (fun H locs hw => ?_)
                  replace hw : mw_W G ad NF TF FF M21 L16 H locs := by rw [eM21]; exact hw
                  exact hb91 v2 M21 L16 _ _ ls hD hw (lv_sub hl [0, 1, 2] rfl)
  unfold DX13_choose at hD
  refine lv_aload_n C.1.1 C.1.2.1 dX13_choose_0 rfl (lv_at hl 0 rfl) ?_
  refine lv_iconst (v := 0) C.1.1 C.1.2.1 dX13_choose_1 (by decide) ?_
  obtain ⟨M62, eM62, hD⟩ := g_let hD
  refine mr_putI C hw kc_13 33 (Mc_N0 hk0) (Mc_T0 hk0) wd_2675 dX13_choose_2 (by decide) rfl rfl rfl rfl (fun H locs hw => ?_)
  replace hw : mw_W G ad NF TF FF M62 L H locs := by rw [eM62]; exact hw
  refine lv_iconst (v := 1) C.1.1 C.1.2.1 dX13_choose_5 (by decide) ?_
  refine lv_istore_n (lv' := [(2, .int 1), (0, .ref (ad k)), (1, .int a1)]) C.1.1 C.1.2.1 dX13_choose_6 rfl hl (by decide) rfl (fun ls hl => ?_)
  exact hh7 fu 1 M62 L _ _ ls hD hw (lv_sub hl [1, 2, 0] rfl)

theorem dX13_second_0 : decode cX13_second 0 = .ok (.iconst 0, 1) := by decide +kernel
theorem dX13_second_1 : decode cX13_second 1 = .ok (.istore_n 2, 1) := by decide +kernel
theorem dX13_second_2 : decode cX13_second 2 = .ok (.iconst 1, 1) := by decide +kernel
theorem dX13_second_3 : decode cX13_second 3 = .ok (.istore_n 3, 1) := by decide +kernel
theorem dX13_second_4 : decode cX13_second 4 = .ok (.iload_n 3, 1) := by decide +kernel
theorem dX13_second_5 : decode cX13_second 5 = .ok (.aload_n 0, 1) := by decide +kernel
theorem dX13_second_6 : decode cX13_second 6 = .ok (.getfield 103, 3) := by decide +kernel
theorem dX13_second_9 : decode cX13_second 9 = .ok (.if_icmp .gt 48, 3) := by decide +kernel
theorem dX13_second_12 : decode cX13_second 12 = .ok (.iload_n 2, 1) := by decide +kernel
theorem dX13_second_13 : decode cX13_second 13 = .ok (.ifCond .ne 32, 3) := by decide +kernel
theorem dX13_second_16 : decode cX13_second 16 = .ok (.iload_n 3, 1) := by decide +kernel
theorem dX13_second_17 : decode cX13_second 17 = .ok (.iload_n 1, 1) := by decide +kernel
theorem dX13_second_18 : decode cX13_second 18 = .ok (.if_icmp .eq 31, 3) := by decide +kernel
theorem dX13_second_21 : decode cX13_second 21 = .ok (.aload_n 0, 1) := by decide +kernel
theorem dX13_second_22 : decode cX13_second 22 = .ok (.getfield 13, 3) := by decide +kernel
theorem dX13_second_25 : decode cX13_second 25 = .ok (.iload_n 3, 1) := by decide +kernel
theorem dX13_second_26 : decode cX13_second 26 = .ok (.iaload, 1) := by decide +kernel
theorem dX13_second_27 : decode cX13_second 27 = .ok (.aload_n 0, 1) := by decide +kernel
theorem dX13_second_28 : decode cX13_second 28 = .ok (.getfield 13, 3) := by decide +kernel
theorem dX13_second_31 : decode cX13_second 31 = .ok (.iload_n 1, 1) := by decide +kernel
theorem dX13_second_32 : decode cX13_second 32 = .ok (.iaload, 1) := by decide +kernel
theorem dX13_second_33 : decode cX13_second 33 = .ok (.if_icmp .ne 16, 3) := by decide +kernel
theorem dX13_second_36 : decode cX13_second 36 = .ok (.aload_n 0, 1) := by decide +kernel
theorem dX13_second_37 : decode cX13_second 37 = .ok (.getfield 90, 3) := by decide +kernel
theorem dX13_second_40 : decode cX13_second 40 = .ok (.iload_n 3, 1) := by decide +kernel
theorem dX13_second_41 : decode cX13_second 41 = .ok (.baload, 1) := by decide +kernel
theorem dX13_second_42 : decode cX13_second 42 = .ok (.ifCond .eq 7, 3) := by decide +kernel
theorem dX13_second_45 : decode cX13_second 45 = .ok (.iconst 1, 1) := by decide +kernel
theorem dX13_second_46 : decode cX13_second 46 = .ok (.goto 4, 3) := by decide +kernel
theorem dX13_second_49 : decode cX13_second 49 = .ok (.iconst 0, 1) := by decide +kernel
theorem dX13_second_50 : decode cX13_second 50 = .ok (.istore_n 2, 1) := by decide +kernel
theorem dX13_second_51 : decode cX13_second 51 = .ok (.iinc 3 1, 3) := by decide +kernel
theorem dX13_second_54 : decode cX13_second 54 = .ok (.goto (-50), 3) := by decide +kernel
theorem dX13_second_57 : decode cX13_second 57 = .ok (.iload_n 2, 1) := by decide +kernel
theorem dX13_second_58 : decode cX13_second 58 = .ok (.ireturn, 1) := by decide +kernel
theorem cwX13_second : mw_cwV yX13_second cX13_second 4 ((some .boolean)) 1 := ⟨⟨wd_20, wd_4086, by decide +kernel⟩, wd_4085, sl_318⟩
set_option maxHeartbeats 4000000 in
set_option maxRecDepth 100000 in
theorem tX13_second (l : Launch) (G : mwG) (ad : Nat → Nat) (fu : Nat) (k : Nat) (a1 : Int32) (M : mwM) (L : mwL) {r0 : Int32} {M0 : mwM} {L0 : mwL} (hD : DX13_second fu k a1 M L = some (r0, M0, L0)) (hk0 : isMc k) : Met l yX13_second (Cond.code yX13_second cX13_second 4 ((some .boolean)) :: GT) ({ frames := 0, cells := 0, slots := 0, locals := 0 }) (mw_Pre G ad NF TF FF M L [.ref (ad k), .int a1]) (mw_Qi G ad NF TF FF (mw_eqI r0 M0 L0)) 0 0 (mw_fr G) := by
  refine mw_enter (by decide) (Nat.le_of_ble_eq_true rfl) ?_
  intro p e s m below meth c ls C hr hlocks hnm hw hl
  have hl : lv_has ls 4 [(0, .ref (ad k)), (1, .int a1)] := hl
  have hh4 : ∀ (f : Nat) (v2 : Int32) (v3 : Int32) (M : mwM) (L : mwL) (H : Heap) (locs : List Loc) (ls : Array Slot), fX13_second_h4 fu k a1 f (v2, v3, M, L) = some (r0, M0, L0) → mw_W G ad NF TF FF M L H locs → lv_has ls 4 [(0, .ref (ad k)), (1, .int a1), (2, .int v2), (3, .int v3)] → W p l e ({ frames := 0, cells := 0, slots := 0, locals := 0 }) s m [.ref (ad k), .int a1].toArray below meth c H locs 0 0 (MQ below (mw_Qi G ad NF TF FF (mw_eqI r0 M0 L0)) [.ref (ad k), .int a1].toArray s 0 0 (mw_fr G)) (F0 m 4 ls []) := by
    intro f
    induction f with
    | zero => intro v2 v3 M L H locs ls hD; cases hD
    | succ f4 ih4 =>
      intro v2 v3 M L H locs ls hD hw hl
      replace hD : fX13_second_i4 fu k a1 (fX13_second_h4 fu k a1 f4) v2 v3 M L = some (r0, M0, L0) := hD
      have hb50 : ∀ (v3 : Int32) (s0 : Int32) (M : mwM) (L : mwL) (H : Heap) (locs : List Loc) (ls : Array Slot), fX13_second_b50 fu k a1 (fX13_second_h4 fu k a1 f4) v3 s0 M L = some (r0, M0, L0) → mw_W G ad NF TF FF M L H locs → lv_has ls 4 [(0, .ref (ad k)), (1, .int a1), (3, .int v3)] → W p l e ({ frames := 0, cells := 0, slots := 0, locals := 0 }) s m [.ref (ad k), .int a1].toArray below meth c H locs 0 0 (MQ below (mw_Qi G ad NF TF FF (mw_eqI r0 M0 L0)) [.ref (ad k), .int a1].toArray s 0 0 (mw_fr G)) (F0 m 50 ls [.int s0]) := by
        intro v3 s0 M L H locs ls hD hw hl
        unfold fX13_second_b50 at hD
        refine lv_istore_n (lv' := [(2, .int s0), (0, .ref (ad k)), (1, .int a1), (3, .int v3)]) C.1.1 C.1.2.1 dX13_second_50 rfl hl (by decide) rfl (fun ls hl => ?_)
        obtain ⟨x10, ex10, hD⟩ := g_let hD
        refine lv_iinc (v := x10) (lv' := [(3, .int x10), (2, .int s0), (0, .ref (ad k)), (1, .int a1)]) C.1.1 C.1.2.1 dX13_second_51 hl (k := 3) rfl (by rw [ex10]; rfl) (by decide) rfl (fun ls hl => ?_)
        refine lv_goto (tgt := 4) C.1.1 C.1.2.1 dX13_second_54 (by decide) ?_
        exact ih4 s0 x10 M L _ _ ls hD hw (lv_sub hl [2, 3, 1, 0] rfl)
      have hb49 : ∀ (v3 : Int32) (M : mwM) (L : mwL) (H : Heap) (locs : List Loc) (ls : Array Slot), fX13_second_b49 fu k a1 (fX13_second_h4 fu k a1 f4) v3 M L = some (r0, M0, L0) → mw_W G ad NF TF FF M L H locs → lv_has ls 4 [(0, .ref (ad k)), (1, .int a1), (3, .int v3)] → W p l e ({ frames := 0, cells := 0, slots := 0, locals := 0 }) s m [.ref (ad k), .int a1].toArray below meth c H locs 0 0 (MQ below (mw_Qi G ad NF TF FF (mw_eqI r0 M0 L0)) [.ref (ad k), .int a1].toArray s 0 0 (mw_fr G)) (F0 m 49 ls []) := by
        intro v3 M L H locs ls hD hw hl
        unfold fX13_second_b49 at hD
        refine lv_iconst (v := 0) C.1.1 C.1.2.1 dX13_second_49 (by decide) ?_
        exact hb50 v3 0 M L _ _ ls hD hw (lv_sub hl [0, 1, 2] rfl)
      have hb45 : ∀ (v3 : Int32) (M : mwM) (L : mwL) (H : Heap) (locs : List Loc) (ls : Array Slot), fX13_second_b45 fu k a1 (fX13_second_h4 fu k a1 f4) v3 M L = some (r0, M0, L0) → mw_W G ad NF TF FF M L H locs → lv_has ls 4 [(0, .ref (ad k)), (1, .int a1), (3, .int v3)] → W p l e ({ frames := 0, cells := 0, slots := 0, locals := 0 }) s m [.ref (ad k), .int a1].toArray below meth c H locs 0 0 (MQ below (mw_Qi G ad NF TF FF (mw_eqI r0 M0 L0)) [.ref (ad k), .int a1].toArray s 0 0 (mw_fr G)) (F0 m 45 ls []) := by
        intro v3 M L H locs ls hD hw hl
        unfold fX13_second_b45 at hD
        refine lv_iconst (v := 1) C.1.1 C.1.2.1 dX13_second_45 (by decide) ?_
        refine lv_goto (tgt := 50) C.1.1 C.1.2.1 dX13_second_46 (by decide) ?_
        exact hb50 v3 1 M L _ _ ls hD hw (lv_sub hl [0, 1, 2] rfl)
      unfold fX13_second_i4 at hD
      refine lv_iload_n C.1.1 C.1.2.1 dX13_second_4 rfl (lv_at hl 3 rfl) ?_
      refine lv_aload_n C.1.1 C.1.2.1 dX13_second_5 rfl (lv_at hl 0 rfl) ?_
      refine mr_getI C hw kc_13 2 (Mc_N0 hk0) (Mc_T0 hk0) wd_2644 dX13_second_6 (by decide) rfl ?_
      refine lv_icmp_gt (tgt := 57) C.1.1 C.1.2.1 dX13_second_9 (by decide) (fun c1 => ?_) (fun c1 => ?_)
      · replace hD := g_pos c1 hD
        refine lv_iload_n C.1.1 C.1.2.1 dX13_second_57 rfl (lv_at hl 2 rfl) ?_
        obtain ⟨z2, hD⟩ := g_zz hD
        exact mr_iret C hr hlocks hw (nz_zz z2) (Option.some.inj hD) dX13_second_58
      · replace hD := g_neg c1 hD
        refine lv_iload_n C.1.1 C.1.2.1 dX13_second_12 rfl (lv_at hl 2 rfl) ?_
        refine lv_if_ne (tgt := 45) C.1.1 C.1.2.1 dX13_second_13 (by decide) (fun c3 => ?_) (fun c3 => ?_)
        · replace hD := g_neg c3 hD
          exact hb45 v3 M L _ _ ls hD hw (lv_sub hl [0, 1, 3] rfl)
        · replace hD := g_pos c3 hD
          refine lv_iload_n C.1.1 C.1.2.1 dX13_second_16 rfl (lv_at hl 3 rfl) ?_
          refine lv_iload_n C.1.1 C.1.2.1 dX13_second_17 rfl (lv_at hl 1 rfl) ?_
          refine lv_icmp_eq (tgt := 49) C.1.1 C.1.2.1 dX13_second_18 (by decide) (fun c4 => ?_) (fun c4 => ?_)
          · replace hD := g_pos c4 hD
            exact hb49 v3 M L _ _ ls hD hw (lv_sub hl [0, 1, 3] rfl)
          · replace hD := g_neg c4 hD
            refine lv_aload_n C.1.1 C.1.2.1 dX13_second_21 rfl (lv_at hl 0 rfl) ?_
            refine mr_getR C hw kc_13 4 (Mc_N0 hk0) (Mc_T0 hk0) (Mc_F0_4 hk0) wd_2646 dX13_second_22 (by decide) rfl ?_
            refine lv_iload_n C.1.1 C.1.2.1 dX13_second_25 rfl (lv_at hl 3 rfl) ?_
            obtain ⟨q5, hD⟩ := g_ck hD
            refine mr_iald C hw (Mc_N2 hk0) (Mc_T2 hk0) q5 dX13_second_26 ?_
            refine lv_aload_n C.1.1 C.1.2.1 dX13_second_27 rfl (lv_at hl 0 rfl) ?_
            refine mr_getR C hw kc_13 4 (Mc_N0 hk0) (Mc_T0 hk0) (Mc_F0_4 hk0) wd_2646 dX13_second_28 (by decide) rfl ?_
            refine lv_iload_n C.1.1 C.1.2.1 dX13_second_31 rfl (lv_at hl 1 rfl) ?_
            obtain ⟨q6, hD⟩ := g_ck hD
            refine mr_iald C hw (Mc_N2 hk0) (Mc_T2 hk0) q6 dX13_second_32 ?_
            refine lv_icmp_ne (tgt := 49) C.1.1 C.1.2.1 dX13_second_33 (by decide) (fun c7 => ?_) (fun c7 => ?_)
            · replace hD := g_neg c7 hD
              exact hb49 v3 M L _ _ ls hD hw (lv_sub hl [0, 1, 3] rfl)
            · replace hD := g_pos c7 hD
              refine lv_aload_n C.1.1 C.1.2.1 dX13_second_36 rfl (lv_at hl 0 rfl) ?_
              refine mr_getR C hw kc_13 39 (Mc_N0 hk0) (Mc_T0 hk0) (Mc_F0_39 hk0) wd_2681 dX13_second_37 (by decide) rfl ?_
              refine lv_iload_n C.1.1 C.1.2.1 dX13_second_40 rfl (lv_at hl 3 rfl) ?_
              obtain ⟨q8, hD⟩ := g_ck hD
              refine mr_zald C hw (Mc_N27 hk0) (Mc_T27 hk0) q8 dX13_second_41 ?_
              refine lv_if_eq (tgt := 49) C.1.1 C.1.2.1 dX13_second_42 (by decide) (fun c9 => ?_) (fun c9 => ?_)
              · replace hD := g_pos c9 hD
                exact hb49 v3 M L _ _ ls hD hw (lv_sub hl [0, 1, 3] rfl)
              · replace hD := g_neg c9 hD
                exact hb45 v3 M L _ _ ls hD hw (lv_sub hl [0, 1, 3] rfl)
  unfold DX13_second at hD
  refine lv_iconst (v := 0) C.1.1 C.1.2.1 dX13_second_0 (by decide) ?_
  refine lv_istore_n (lv' := [(2, .int 0), (0, .ref (ad k)), (1, .int a1)]) C.1.1 C.1.2.1 dX13_second_1 rfl hl (by decide) rfl (fun ls hl => ?_)
  refine lv_iconst (v := 1) C.1.1 C.1.2.1 dX13_second_2 (by decide) ?_
  refine lv_istore_n (lv' := [(3, .int 1), (2, .int 0), (0, .ref (ad k)), (1, .int a1)]) C.1.1 C.1.2.1 dX13_second_3 rfl hl (by decide) rfl (fun ls hl => ?_)
  exact hh4 fu 0 1 M L _ _ ls hD hw (lv_sub hl [2, 3, 1, 0] rfl)

theorem dX13_aim_0 : decode cX13_aim 0 = .ok (.aload_n 0, 1) := by decide +kernel
theorem dX13_aim_1 : decode cX13_aim 1 = .ok (.iload_n 2, 1) := by decide +kernel
theorem dX13_aim_2 : decode cX13_aim 2 = .ok (.invokevirtual 139, 3) := by decide +kernel
theorem dX13_aim_5 : decode cX13_aim 5 = .ok (.ifCond .eq 12, 3) := by decide +kernel
theorem dX13_aim_8 : decode cX13_aim 8 = .ok (.aload_n 0, 1) := by decide +kernel
theorem dX13_aim_9 : decode cX13_aim 9 = .ok (.getfield 13, 3) := by decide +kernel
theorem dX13_aim_12 : decode cX13_aim 12 = .ok (.iload_n 2, 1) := by decide +kernel
theorem dX13_aim_13 : decode cX13_aim 13 = .ok (.iaload, 1) := by decide +kernel
theorem dX13_aim_14 : decode cX13_aim 14 = .ok (.goto 4, 3) := by decide +kernel
theorem dX13_aim_17 : decode cX13_aim 17 = .ok (.iload_n 2, 1) := by decide +kernel
theorem dX13_aim_18 : decode cX13_aim 18 = .ok (.istore_n 3, 1) := by decide +kernel
theorem dX13_aim_19 : decode cX13_aim 19 = .ok (.iload_n 3, 1) := by decide +kernel
theorem dX13_aim_20 : decode cX13_aim 20 = .ok (.istore 4, 2) := by decide +kernel
theorem dX13_aim_22 : decode cX13_aim 22 = .ok (.iload 4, 2) := by decide +kernel
theorem dX13_aim_24 : decode cX13_aim 24 = .ok (.iload_n 1, 1) := by decide +kernel
theorem dX13_aim_25 : decode cX13_aim 25 = .ok (.if_icmp .eq 40, 3) := by decide +kernel
theorem dX13_aim_28 : decode cX13_aim 28 = .ok (.aload_n 0, 1) := by decide +kernel
theorem dX13_aim_29 : decode cX13_aim 29 = .ok (.getfield 7, 3) := by decide +kernel
theorem dX13_aim_32 : decode cX13_aim 32 = .ok (.aload_n 0, 1) := by decide +kernel
theorem dX13_aim_33 : decode cX13_aim 33 = .ok (.getfield 13, 3) := by decide +kernel
theorem dX13_aim_36 : decode cX13_aim 36 = .ok (.iload 4, 2) := by decide +kernel
theorem dX13_aim_38 : decode cX13_aim 38 = .ok (.iaload, 1) := by decide +kernel
theorem dX13_aim_39 : decode cX13_aim 39 = .ok (.iaload, 1) := by decide +kernel
theorem dX13_aim_40 : decode cX13_aim 40 = .ok (.ifCond .ne 13, 3) := by decide +kernel
theorem dX13_aim_43 : decode cX13_aim 43 = .ok (.aload_n 0, 1) := by decide +kernel
theorem dX13_aim_44 : decode cX13_aim 44 = .ok (.iload 4, 2) := by decide +kernel
theorem dX13_aim_46 : decode cX13_aim 46 = .ok (.invokevirtual 201, 3) := by decide +kernel
theorem dX13_aim_49 : decode cX13_aim 49 = .ok (.ifCond .eq 4, 3) := by decide +kernel
theorem dX13_aim_52 : decode cX13_aim 52 = .ok (.return_, 1) := by decide +kernel
theorem dX13_aim_53 : decode cX13_aim 53 = .ok (.aload_n 0, 1) := by decide +kernel
theorem dX13_aim_54 : decode cX13_aim 54 = .ok (.getfield 13, 3) := by decide +kernel
theorem dX13_aim_57 : decode cX13_aim 57 = .ok (.iload 4, 2) := by decide +kernel
theorem dX13_aim_59 : decode cX13_aim 59 = .ok (.iaload, 1) := by decide +kernel
theorem dX13_aim_60 : decode cX13_aim 60 = .ok (.istore 4, 2) := by decide +kernel
theorem dX13_aim_62 : decode cX13_aim 62 = .ok (.goto (-40), 3) := by decide +kernel
theorem dX13_aim_65 : decode cX13_aim 65 = .ok (.iload_n 3, 1) := by decide +kernel
theorem dX13_aim_66 : decode cX13_aim 66 = .ok (.istore 4, 2) := by decide +kernel
theorem dX13_aim_68 : decode cX13_aim 68 = .ok (.iload 4, 2) := by decide +kernel
theorem dX13_aim_70 : decode cX13_aim 70 = .ok (.iload_n 1, 1) := by decide +kernel
theorem dX13_aim_71 : decode cX13_aim 71 = .ok (.if_icmp .eq 23, 3) := by decide +kernel
theorem dX13_aim_74 : decode cX13_aim 74 = .ok (.aload_n 0, 1) := by decide +kernel
theorem dX13_aim_75 : decode cX13_aim 75 = .ok (.getfield 90, 3) := by decide +kernel
theorem dX13_aim_78 : decode cX13_aim 78 = .ok (.iload 4, 2) := by decide +kernel
theorem dX13_aim_80 : decode cX13_aim 80 = .ok (.iconst 1, 1) := by decide +kernel
theorem dX13_aim_81 : decode cX13_aim 81 = .ok (.bastore, 1) := by decide +kernel
theorem dX13_aim_82 : decode cX13_aim 82 = .ok (.aload_n 0, 1) := by decide +kernel
theorem dX13_aim_83 : decode cX13_aim 83 = .ok (.getfield 13, 3) := by decide +kernel
theorem dX13_aim_86 : decode cX13_aim 86 = .ok (.iload 4, 2) := by decide +kernel
theorem dX13_aim_88 : decode cX13_aim 88 = .ok (.iaload, 1) := by decide +kernel
theorem dX13_aim_89 : decode cX13_aim 89 = .ok (.istore 4, 2) := by decide +kernel
theorem dX13_aim_91 : decode cX13_aim 91 = .ok (.goto (-23), 3) := by decide +kernel
theorem dX13_aim_94 : decode cX13_aim 94 = .ok (.aload_n 0, 1) := by decide +kernel
theorem dX13_aim_95 : decode cX13_aim 95 = .ok (.getfield 93, 3) := by decide +kernel
theorem dX13_aim_98 : decode cX13_aim 98 = .ok (.aload_n 0, 1) := by decide +kernel
theorem dX13_aim_99 : decode cX13_aim 99 = .ok (.getfield 13, 3) := by decide +kernel
theorem dX13_aim_102 : decode cX13_aim 102 = .ok (.iload_n 2, 1) := by decide +kernel
theorem dX13_aim_103 : decode cX13_aim 103 = .ok (.iaload, 1) := by decide +kernel
theorem dX13_aim_104 : decode cX13_aim 104 = .ok (.aload_n 0, 1) := by decide +kernel
theorem dX13_aim_105 : decode cX13_aim 105 = .ok (.getfield 93, 3) := by decide +kernel
theorem dX13_aim_108 : decode cX13_aim 108 = .ok (.aload_n 0, 1) := by decide +kernel
theorem dX13_aim_109 : decode cX13_aim 109 = .ok (.getfield 13, 3) := by decide +kernel
theorem dX13_aim_112 : decode cX13_aim 112 = .ok (.iload_n 2, 1) := by decide +kernel
theorem dX13_aim_113 : decode cX13_aim 113 = .ok (.iaload, 1) := by decide +kernel
theorem dX13_aim_114 : decode cX13_aim 114 = .ok (.baload, 1) := by decide +kernel
theorem dX13_aim_115 : decode cX13_aim 115 = .ok (.ifCond .ne 13, 3) := by decide +kernel
theorem dX13_aim_118 : decode cX13_aim 118 = .ok (.aload_n 0, 1) := by decide +kernel
theorem dX13_aim_119 : decode cX13_aim 119 = .ok (.getfield 7, 3) := by decide +kernel
theorem dX13_aim_122 : decode cX13_aim 122 = .ok (.iload_n 2, 1) := by decide +kernel
theorem dX13_aim_123 : decode cX13_aim 123 = .ok (.iaload, 1) := by decide +kernel
theorem dX13_aim_124 : decode cX13_aim 124 = .ok (.iconst 2, 1) := by decide +kernel
theorem dX13_aim_125 : decode cX13_aim 125 = .ok (.if_icmp .ne 7, 3) := by decide +kernel
theorem dX13_aim_128 : decode cX13_aim 128 = .ok (.iconst 1, 1) := by decide +kernel
theorem dX13_aim_129 : decode cX13_aim 129 = .ok (.goto 4, 3) := by decide +kernel
theorem dX13_aim_132 : decode cX13_aim 132 = .ok (.iconst 0, 1) := by decide +kernel
theorem dX13_aim_133 : decode cX13_aim 133 = .ok (.bastore, 1) := by decide +kernel
theorem dX13_aim_134 : decode cX13_aim 134 = .ok (.aload_n 0, 1) := by decide +kernel
theorem dX13_aim_135 : decode cX13_aim 135 = .ok (.getfield 96, 3) := by decide +kernel
theorem dX13_aim_138 : decode cX13_aim 138 = .ok (.aload_n 0, 1) := by decide +kernel
theorem dX13_aim_139 : decode cX13_aim 139 = .ok (.getfield 13, 3) := by decide +kernel
theorem dX13_aim_142 : decode cX13_aim 142 = .ok (.iload_n 2, 1) := by decide +kernel
theorem dX13_aim_143 : decode cX13_aim 143 = .ok (.iaload, 1) := by decide +kernel
theorem dX13_aim_144 : decode cX13_aim 144 = .ok (.aload_n 0, 1) := by decide +kernel
theorem dX13_aim_145 : decode cX13_aim 145 = .ok (.getfield 96, 3) := by decide +kernel
theorem dX13_aim_148 : decode cX13_aim 148 = .ok (.aload_n 0, 1) := by decide +kernel
theorem dX13_aim_149 : decode cX13_aim 149 = .ok (.getfield 13, 3) := by decide +kernel
theorem dX13_aim_152 : decode cX13_aim 152 = .ok (.iload_n 2, 1) := by decide +kernel
theorem dX13_aim_153 : decode cX13_aim 153 = .ok (.iaload, 1) := by decide +kernel
theorem dX13_aim_154 : decode cX13_aim 154 = .ok (.baload, 1) := by decide +kernel
theorem dX13_aim_155 : decode cX13_aim 155 = .ok (.ifCond .ne 13, 3) := by decide +kernel
theorem dX13_aim_158 : decode cX13_aim 158 = .ok (.aload_n 0, 1) := by decide +kernel
theorem dX13_aim_159 : decode cX13_aim 159 = .ok (.getfield 7, 3) := by decide +kernel
theorem dX13_aim_162 : decode cX13_aim 162 = .ok (.iload_n 2, 1) := by decide +kernel
theorem dX13_aim_163 : decode cX13_aim 163 = .ok (.iaload, 1) := by decide +kernel
theorem dX13_aim_164 : decode cX13_aim 164 = .ok (.iconst 3, 1) := by decide +kernel
theorem dX13_aim_165 : decode cX13_aim 165 = .ok (.if_icmp .ne 7, 3) := by decide +kernel
theorem dX13_aim_168 : decode cX13_aim 168 = .ok (.iconst 1, 1) := by decide +kernel
theorem dX13_aim_169 : decode cX13_aim 169 = .ok (.goto 4, 3) := by decide +kernel
theorem dX13_aim_172 : decode cX13_aim 172 = .ok (.iconst 0, 1) := by decide +kernel
theorem dX13_aim_173 : decode cX13_aim 173 = .ok (.bastore, 1) := by decide +kernel
theorem dX13_aim_174 : decode cX13_aim 174 = .ok (.return_, 1) := by decide +kernel
theorem cwX13_aim : mw_cwV yX13_aim cX13_aim 5 (none) 2 := ⟨⟨wd_20, wd_4082, by decide +kernel⟩, wd_4081, sl_317⟩
set_option maxHeartbeats 4000000 in
set_option maxRecDepth 100000 in
theorem tX13_aim (l : Launch) (G : mwG) (ad : Nat → Nat) (fu : Nat) (k : Nat) (a1 : Int32) (a2 : Int32) (M : mwM) (L : mwL) {M0 : mwM} {L0 : mwL} (hD : DX13_aim fu k a1 a2 M L = some (M0, L0)) (hk0 : isMc k) : Met l yX13_aim (Cond.code yX13_aim cX13_aim 5 (none) :: GT) ({ frames := 1, cells := 0, slots := 0, locals := 23 }) (mw_Pre G ad NF TF FF M L [.ref (ad k), .int a1, .int a2]) (mw_Qv G ad NF TF FF (mw_eqV M0 L0)) 0 0 (mw_fr G) := by
  refine mw_enter (by decide) (Nat.le_of_ble_eq_true rfl) ?_
  intro p e s m below meth c ls C hr hlocks hnm hw hl
  have hl : lv_has ls 5 [(0, .ref (ad k)), (1, .int a1), (2, .int a2)] := hl
  have hb173 : ∀ (s1 : Int32) (s2 : Int32) (M : mwM) (L : mwL) (H : Heap) (locs : List Loc) (ls : Array Slot), fX13_aim_b173 fu k a1 a2 s1 s2 M L = some (M0, L0) → mw_W G ad NF TF FF M L H locs → lv_has ls 5 [] → W p l e ({ frames := 1, cells := 0, slots := 0, locals := 23 }) s m [.ref (ad k), .int a1, .int a2].toArray below meth c H locs 0 0 (MQ below (mw_Qv G ad NF TF FF (mw_eqV M0 L0)) [.ref (ad k), .int a1, .int a2].toArray s 0 0 (mw_fr G)) (F0 m 173 ls [.int s2, .int s1, .ref (ad (k + 29))]) := by
    intro s1 s2 M L H locs ls hD hw hl
    unfold fX13_aim_b173 at hD
    obtain ⟨q30, hD⟩ := g_ck hD
    obtain ⟨M31, eM31, hD⟩ := g_let hD
    refine mr_zast C hw (Mc_N29 hk0) (Mc_T29 hk0) q30 dX13_aim_173 (fun H locs hw => ?_)
    replace hw : mw_W G ad NF TF FF M31 L H locs := by rw [eM31]; exact hw
    exact mr_vret C hr hlocks hw (Option.some.inj hD) dX13_aim_174
  have hb168 : ∀ (s1 : Int32) (M : mwM) (L : mwL) (H : Heap) (locs : List Loc) (ls : Array Slot), fX13_aim_b168 fu k a1 a2 s1 M L = some (M0, L0) → mw_W G ad NF TF FF M L H locs → lv_has ls 5 [] → W p l e ({ frames := 1, cells := 0, slots := 0, locals := 23 }) s m [.ref (ad k), .int a1, .int a2].toArray below meth c H locs 0 0 (MQ below (mw_Qv G ad NF TF FF (mw_eqV M0 L0)) [.ref (ad k), .int a1, .int a2].toArray s 0 0 (mw_fr G)) (F0 m 168 ls [.int s1, .ref (ad (k + 29))]) := by
    intro s1 M L H locs ls hD hw hl
    unfold fX13_aim_b168 at hD
    refine lv_iconst (v := 1) C.1.1 C.1.2.1 dX13_aim_168 (by decide) ?_
    refine lv_goto (tgt := 173) C.1.1 C.1.2.1 dX13_aim_169 (by decide) ?_
    exact hb173 s1 1 M L _ _ ls hD hw (lv_sub hl [] rfl)
  have hb133 : ∀ (s1 : Int32) (s2 : Int32) (M : mwM) (L : mwL) (H : Heap) (locs : List Loc) (ls : Array Slot), fX13_aim_b133 fu k a1 a2 s1 s2 M L = some (M0, L0) → mw_W G ad NF TF FF M L H locs → lv_has ls 5 [(0, .ref (ad k)), (2, .int a2)] → W p l e ({ frames := 1, cells := 0, slots := 0, locals := 23 }) s m [.ref (ad k), .int a1, .int a2].toArray below meth c H locs 0 0 (MQ below (mw_Qv G ad NF TF FF (mw_eqV M0 L0)) [.ref (ad k), .int a1, .int a2].toArray s 0 0 (mw_fr G)) (F0 m 133 ls [.int s2, .int s1, .ref (ad (k + 28))]) := by
    intro s1 s2 M L H locs ls hD hw hl
    unfold fX13_aim_b133 at hD
    obtain ⟨q22, hD⟩ := g_ck hD
    obtain ⟨M23, eM23, hD⟩ := g_let hD
    refine mr_zast C hw (Mc_N28 hk0) (Mc_T28 hk0) q22 dX13_aim_133 (fun H locs hw => ?_)
    replace hw : mw_W G ad NF TF FF M23 L H locs := by rw [eM23]; exact hw
    refine lv_aload_n C.1.1 C.1.2.1 dX13_aim_134 rfl (lv_at hl 0 rfl) ?_
    refine mr_getR C hw kc_13 41 (Mc_N0 hk0) (Mc_T0 hk0) (Mc_F0_41 hk0) wd_2683 dX13_aim_135 (by decide) rfl ?_
    refine lv_aload_n C.1.1 C.1.2.1 dX13_aim_138 rfl (lv_at hl 0 rfl) ?_
    refine mr_getR C hw kc_13 4 (Mc_N0 hk0) (Mc_T0 hk0) (Mc_F0_4 hk0) wd_2646 dX13_aim_139 (by decide) rfl ?_
    refine lv_iload_n C.1.1 C.1.2.1 dX13_aim_142 rfl (lv_at hl 1 rfl) ?_
    obtain ⟨q24, hD⟩ := g_ck hD
    refine mr_iald C hw (Mc_N2 hk0) (Mc_T2 hk0) q24 dX13_aim_143 ?_
    refine lv_aload_n C.1.1 C.1.2.1 dX13_aim_144 rfl (lv_at hl 0 rfl) ?_
    refine mr_getR C hw kc_13 41 (Mc_N0 hk0) (Mc_T0 hk0) (Mc_F0_41 hk0) wd_2683 dX13_aim_145 (by decide) rfl ?_
    refine lv_aload_n C.1.1 C.1.2.1 dX13_aim_148 rfl (lv_at hl 0 rfl) ?_
    refine mr_getR C hw kc_13 4 (Mc_N0 hk0) (Mc_T0 hk0) (Mc_F0_4 hk0) wd_2646 dX13_aim_149 (by decide) rfl ?_
    refine lv_iload_n C.1.1 C.1.2.1 dX13_aim_152 rfl (lv_at hl 1 rfl) ?_
    obtain ⟨q25, hD⟩ := g_ck hD
    refine mr_iald C hw (Mc_N2 hk0) (Mc_T2 hk0) q25 dX13_aim_153 ?_
    obtain ⟨q26, hD⟩ := g_ck hD
    refine mr_zald C hw (Mc_N29 hk0) (Mc_T29 hk0) q26 dX13_aim_154 ?_
    refine lv_if_ne (tgt := 168) C.1.1 C.1.2.1 dX13_aim_155 (by decide) (fun c27 => ?_) (fun c27 => ?_)
    · replace hD := g_neg c27 hD
      exact hb168 (M23 (k + 2) a2.toNatClampNeg) M23 L _ _ ls hD hw (lv_sub hl [] rfl)
    · replace hD := g_pos c27 hD
      refine lv_aload_n C.1.1 C.1.2.1 dX13_aim_158 rfl (lv_at hl 0 rfl) ?_
      refine mr_getR C hw kc_13 3 (Mc_N0 hk0) (Mc_T0 hk0) (Mc_F0_3 hk0) wd_2645 dX13_aim_159 (by decide) rfl ?_
      refine lv_iload_n C.1.1 C.1.2.1 dX13_aim_162 rfl (lv_at hl 1 rfl) ?_
      obtain ⟨q28, hD⟩ := g_ck hD
      refine mr_iald C hw (Mc_N1 hk0) (Mc_T1 hk0) q28 dX13_aim_163 ?_
      refine lv_iconst (v := 3) C.1.1 C.1.2.1 dX13_aim_164 (by decide) ?_
      refine lv_icmp_ne (tgt := 172) C.1.1 C.1.2.1 dX13_aim_165 (by decide) (fun c29 => ?_) (fun c29 => ?_)
      · replace hD := g_neg c29 hD
        refine lv_iconst (v := 0) C.1.1 C.1.2.1 dX13_aim_172 (by decide) ?_
        exact hb173 (M23 (k + 2) a2.toNatClampNeg) 0 M23 L _ _ ls hD hw (lv_sub hl [] rfl)
      · replace hD := g_pos c29 hD
        exact hb168 (M23 (k + 2) a2.toNatClampNeg) M23 L _ _ ls hD hw (lv_sub hl [] rfl)
  have hb128 : ∀ (s1 : Int32) (M : mwM) (L : mwL) (H : Heap) (locs : List Loc) (ls : Array Slot), fX13_aim_b128 fu k a1 a2 s1 M L = some (M0, L0) → mw_W G ad NF TF FF M L H locs → lv_has ls 5 [(0, .ref (ad k)), (2, .int a2)] → W p l e ({ frames := 1, cells := 0, slots := 0, locals := 23 }) s m [.ref (ad k), .int a1, .int a2].toArray below meth c H locs 0 0 (MQ below (mw_Qv G ad NF TF FF (mw_eqV M0 L0)) [.ref (ad k), .int a1, .int a2].toArray s 0 0 (mw_fr G)) (F0 m 128 ls [.int s1, .ref (ad (k + 28))]) := by
    intro s1 M L H locs ls hD hw hl
    unfold fX13_aim_b128 at hD
    refine lv_iconst (v := 1) C.1.1 C.1.2.1 dX13_aim_128 (by decide) ?_
    refine lv_goto (tgt := 133) C.1.1 C.1.2.1 dX13_aim_129 (by decide) ?_
    exact hb133 s1 1 M L _ _ ls hD hw (lv_sub hl [0, 1] rfl)
  have hh68 : ∀ (f : Nat) (v4 : Int32) (M : mwM) (L : mwL) (H : Heap) (locs : List Loc) (ls : Array Slot), fX13_aim_h68 fu k a1 a2 f (v4, M, L) = some (M0, L0) → mw_W G ad NF TF FF M L H locs → lv_has ls 5 [(0, .ref (ad k)), (1, .int a1), (2, .int a2), (4, .int v4)] → W p l e ({ frames := 1, cells := 0, slots := 0, locals := 23 }) s m [.ref (ad k), .int a1, .int a2].toArray below meth c H locs 0 0 (MQ below (mw_Qv G ad NF TF FF (mw_eqV M0 L0)) [.ref (ad k), .int a1, .int a2].toArray s 0 0 (mw_fr G)) (F0 m 68 ls []) := by
    intro f
    induction f with
    | zero => intro v4 M L H locs ls hD; cases hD
    | succ f68 ih68 =>
      intro v4 M L H locs ls hD hw hl
      replace hD : fX13_aim_i68 fu k a1 a2 (fX13_aim_h68 fu k a1 a2 f68) v4 M L = some (M0, L0) := hD
      unfold fX13_aim_i68 at hD
      refine lv_iload C.1.1 C.1.2.1 dX13_aim_68 (lv_at hl 3 rfl) ?_
      refine lv_iload_n C.1.1 C.1.2.1 dX13_aim_70 rfl (lv_at hl 1 rfl) ?_
      refine lv_icmp_eq (tgt := 94) C.1.1 C.1.2.1 dX13_aim_71 (by decide) (fun c11 => ?_) (fun c11 => ?_)
      · replace hD := g_pos c11 hD
        refine lv_aload_n C.1.1 C.1.2.1 dX13_aim_94 rfl (lv_at hl 0 rfl) ?_
        refine mr_getR C hw kc_13 40 (Mc_N0 hk0) (Mc_T0 hk0) (Mc_F0_40 hk0) wd_2682 dX13_aim_95 (by decide) rfl ?_
        refine lv_aload_n C.1.1 C.1.2.1 dX13_aim_98 rfl (lv_at hl 0 rfl) ?_
        refine mr_getR C hw kc_13 4 (Mc_N0 hk0) (Mc_T0 hk0) (Mc_F0_4 hk0) wd_2646 dX13_aim_99 (by decide) rfl ?_
        refine lv_iload_n C.1.1 C.1.2.1 dX13_aim_102 rfl (lv_at hl 2 rfl) ?_
        obtain ⟨q12, hD⟩ := g_ck hD
        refine mr_iald C hw (Mc_N2 hk0) (Mc_T2 hk0) q12 dX13_aim_103 ?_
        refine lv_aload_n C.1.1 C.1.2.1 dX13_aim_104 rfl (lv_at hl 0 rfl) ?_
        refine mr_getR C hw kc_13 40 (Mc_N0 hk0) (Mc_T0 hk0) (Mc_F0_40 hk0) wd_2682 dX13_aim_105 (by decide) rfl ?_
        refine lv_aload_n C.1.1 C.1.2.1 dX13_aim_108 rfl (lv_at hl 0 rfl) ?_
        refine mr_getR C hw kc_13 4 (Mc_N0 hk0) (Mc_T0 hk0) (Mc_F0_4 hk0) wd_2646 dX13_aim_109 (by decide) rfl ?_
        refine lv_iload_n C.1.1 C.1.2.1 dX13_aim_112 rfl (lv_at hl 2 rfl) ?_
        obtain ⟨q13, hD⟩ := g_ck hD
        refine mr_iald C hw (Mc_N2 hk0) (Mc_T2 hk0) q13 dX13_aim_113 ?_
        obtain ⟨q14, hD⟩ := g_ck hD
        refine mr_zald C hw (Mc_N28 hk0) (Mc_T28 hk0) q14 dX13_aim_114 ?_
        refine lv_if_ne (tgt := 128) C.1.1 C.1.2.1 dX13_aim_115 (by decide) (fun c15 => ?_) (fun c15 => ?_)
        · replace hD := g_neg c15 hD
          exact hb128 (M (k + 2) a2.toNatClampNeg) M L _ _ ls hD hw (lv_sub hl [0, 2] rfl)
        · replace hD := g_pos c15 hD
          refine lv_aload_n C.1.1 C.1.2.1 dX13_aim_118 rfl (lv_at hl 0 rfl) ?_
          refine mr_getR C hw kc_13 3 (Mc_N0 hk0) (Mc_T0 hk0) (Mc_F0_3 hk0) wd_2645 dX13_aim_119 (by decide) rfl ?_
          refine lv_iload_n C.1.1 C.1.2.1 dX13_aim_122 rfl (lv_at hl 2 rfl) ?_
          obtain ⟨q16, hD⟩ := g_ck hD
          refine mr_iald C hw (Mc_N1 hk0) (Mc_T1 hk0) q16 dX13_aim_123 ?_
          refine lv_iconst (v := 2) C.1.1 C.1.2.1 dX13_aim_124 (by decide) ?_
          refine lv_icmp_ne (tgt := 132) C.1.1 C.1.2.1 dX13_aim_125 (by decide) (fun c17 => ?_) (fun c17 => ?_)
          · replace hD := g_neg c17 hD
            refine lv_iconst (v := 0) C.1.1 C.1.2.1 dX13_aim_132 (by decide) ?_
            exact hb133 (M (k + 2) a2.toNatClampNeg) 0 M L _ _ ls hD hw (lv_sub hl [0, 2] rfl)
          · replace hD := g_pos c17 hD
            exact hb128 (M (k + 2) a2.toNatClampNeg) M L _ _ ls hD hw (lv_sub hl [0, 2] rfl)
      · replace hD := g_neg c11 hD
        refine lv_aload_n C.1.1 C.1.2.1 dX13_aim_74 rfl (lv_at hl 0 rfl) ?_
        refine mr_getR C hw kc_13 39 (Mc_N0 hk0) (Mc_T0 hk0) (Mc_F0_39 hk0) wd_2681 dX13_aim_75 (by decide) rfl ?_
        refine lv_iload C.1.1 C.1.2.1 dX13_aim_78 (lv_at hl 3 rfl) ?_
        refine lv_iconst (v := 1) C.1.1 C.1.2.1 dX13_aim_80 (by decide) ?_
        obtain ⟨q18, hD⟩ := g_ck hD
        obtain ⟨M19, eM19, hD⟩ := g_let hD
        refine mr_zast C hw (Mc_N27 hk0) (Mc_T27 hk0) q18 dX13_aim_81 (fun H locs hw => ?_)
        replace hw : mw_W G ad NF TF FF M19 L H locs := by rw [eM19]; exact hw
        refine lv_aload_n C.1.1 C.1.2.1 dX13_aim_82 rfl (lv_at hl 0 rfl) ?_
        refine mr_getR C hw kc_13 4 (Mc_N0 hk0) (Mc_T0 hk0) (Mc_F0_4 hk0) wd_2646 dX13_aim_83 (by decide) rfl ?_
        refine lv_iload C.1.1 C.1.2.1 dX13_aim_86 (lv_at hl 3 rfl) ?_
        obtain ⟨q20, hD⟩ := g_ck hD
        refine mr_iald C hw (Mc_N2 hk0) (Mc_T2 hk0) q20 dX13_aim_88 ?_
        obtain ⟨x21, ex21, hD⟩ := g_let hD
        refine W.eq (g2 := F0 m 89 ls (.int x21 :: [])) (by rw [ex21]) ?_
        refine lv_istore (lv' := [(4, .int x21), (0, .ref (ad k)), (1, .int a1), (2, .int a2)]) C.1.1 C.1.2.1 dX13_aim_89 hl (by decide) rfl (fun ls hl => ?_)
        refine lv_goto (tgt := 68) C.1.1 C.1.2.1 dX13_aim_91 (by decide) ?_
        exact ih68 x21 M19 L _ _ ls hD hw (lv_sub hl [1, 2, 3, 0] rfl)
  have hh22 : ∀ (f : Nat) (v3 : Int32) (v4 : Int32) (M : mwM) (L : mwL) (H : Heap) (locs : List Loc) (ls : Array Slot), fX13_aim_h22 fu k a1 a2 f (v3, v4, M, L) = some (M0, L0) → mw_W G ad NF TF FF M L H locs → lv_has ls 5 [(0, .ref (ad k)), (1, .int a1), (2, .int a2), (3, .int v3), (4, .int v4)] → W p l e ({ frames := 1, cells := 0, slots := 0, locals := 23 }) s m [.ref (ad k), .int a1, .int a2].toArray below meth c H locs 0 0 (MQ below (mw_Qv G ad NF TF FF (mw_eqV M0 L0)) [.ref (ad k), .int a1, .int a2].toArray s 0 0 (mw_fr G)) (F0 m 22 ls []) := by
    intro f
    induction f with
    | zero => intro v3 v4 M L H locs ls hD; cases hD
    | succ f22 ih22 =>
      intro v3 v4 M L H locs ls hD hw hl
      replace hD : fX13_aim_i22 fu k a1 a2 (fX13_aim_h22 fu k a1 a2 f22) v3 v4 M L = some (M0, L0) := hD
      have hb53 : ∀ (v3 : Int32) (v4 : Int32) (M : mwM) (L : mwL) (H : Heap) (locs : List Loc) (ls : Array Slot), fX13_aim_b53 fu k a1 a2 (fX13_aim_h22 fu k a1 a2 f22) v3 v4 M L = some (M0, L0) → mw_W G ad NF TF FF M L H locs → lv_has ls 5 [(0, .ref (ad k)), (1, .int a1), (2, .int a2), (3, .int v3), (4, .int v4)] → W p l e ({ frames := 1, cells := 0, slots := 0, locals := 23 }) s m [.ref (ad k), .int a1, .int a2].toArray below meth c H locs 0 0 (MQ below (mw_Qv G ad NF TF FF (mw_eqV M0 L0)) [.ref (ad k), .int a1, .int a2].toArray s 0 0 (mw_fr G)) (F0 m 53 ls []) := by
        intro v3 v4 M L H locs ls hD hw hl
        unfold fX13_aim_b53 at hD
        refine lv_aload_n C.1.1 C.1.2.1 dX13_aim_53 rfl (lv_at hl 0 rfl) ?_
        refine mr_getR C hw kc_13 4 (Mc_N0 hk0) (Mc_T0 hk0) (Mc_F0_4 hk0) wd_2646 dX13_aim_54 (by decide) rfl ?_
        refine lv_iload C.1.1 C.1.2.1 dX13_aim_57 (lv_at hl 4 rfl) ?_
        obtain ⟨q9, hD⟩ := g_ck hD
        refine mr_iald C hw (Mc_N2 hk0) (Mc_T2 hk0) q9 dX13_aim_59 ?_
        obtain ⟨x10, ex10, hD⟩ := g_let hD
        refine W.eq (g2 := F0 m 60 ls (.int x10 :: [])) (by rw [ex10]) ?_
        refine lv_istore (lv' := [(4, .int x10), (0, .ref (ad k)), (1, .int a1), (2, .int a2), (3, .int v3)]) C.1.1 C.1.2.1 dX13_aim_60 hl (by decide) rfl (fun ls hl => ?_)
        refine lv_goto (tgt := 22) C.1.1 C.1.2.1 dX13_aim_62 (by decide) ?_
        exact ih22 v3 x10 M L _ _ ls hD hw (lv_sub hl [1, 2, 3, 4, 0] rfl)
      unfold fX13_aim_i22 at hD
      refine lv_iload C.1.1 C.1.2.1 dX13_aim_22 (lv_at hl 4 rfl) ?_
      refine lv_iload_n C.1.1 C.1.2.1 dX13_aim_24 rfl (lv_at hl 1 rfl) ?_
      refine lv_icmp_eq (tgt := 65) C.1.1 C.1.2.1 dX13_aim_25 (by decide) (fun c1 => ?_) (fun c1 => ?_)
      · replace hD := g_pos c1 hD
        refine lv_iload_n C.1.1 C.1.2.1 dX13_aim_65 rfl (lv_at hl 3 rfl) ?_
        refine lv_istore (lv' := [(4, .int v3), (0, .ref (ad k)), (1, .int a1), (2, .int a2), (3, .int v3)]) C.1.1 C.1.2.1 dX13_aim_66 hl (by decide) rfl (fun ls hl => ?_)
        exact hh68 fu v3 M L _ _ ls hD hw (lv_sub hl [1, 2, 3, 0] rfl)
      · replace hD := g_neg c1 hD
        refine lv_aload_n C.1.1 C.1.2.1 dX13_aim_28 rfl (lv_at hl 0 rfl) ?_
        refine mr_getR C hw kc_13 3 (Mc_N0 hk0) (Mc_T0 hk0) (Mc_F0_3 hk0) wd_2645 dX13_aim_29 (by decide) rfl ?_
        refine lv_aload_n C.1.1 C.1.2.1 dX13_aim_32 rfl (lv_at hl 0 rfl) ?_
        refine mr_getR C hw kc_13 4 (Mc_N0 hk0) (Mc_T0 hk0) (Mc_F0_4 hk0) wd_2646 dX13_aim_33 (by decide) rfl ?_
        refine lv_iload C.1.1 C.1.2.1 dX13_aim_36 (lv_at hl 4 rfl) ?_
        obtain ⟨q2, hD⟩ := g_ck hD
        refine mr_iald C hw (Mc_N2 hk0) (Mc_T2 hk0) q2 dX13_aim_38 ?_
        obtain ⟨q3, hD⟩ := g_ck hD
        refine mr_iald C hw (Mc_N1 hk0) (Mc_T1 hk0) q3 dX13_aim_39 ?_
        refine lv_if_ne (tgt := 53) C.1.1 C.1.2.1 dX13_aim_40 (by decide) (fun c4 => ?_) (fun c4 => ?_)
        · replace hD := g_neg c4 hD
          exact hb53 v3 v4 M L _ _ ls hD hw (lv_sub hl [0, 1, 2, 3, 4] rfl)
        · replace hD := g_pos c4 hD
          refine lv_aload_n C.1.1 C.1.2.1 dX13_aim_43 rfl (lv_at hl 0 rfl) ?_
          refine lv_iload C.1.1 C.1.2.1 dX13_aim_44 (lv_at hl 4 rfl) ?_
          obtain ⟨r7, M5, L6, h1, hD⟩ := g_b3 hD
          refine md_cvI (As := [.int v4]) (rest := []) C hw (tX13_second l G ad fu k v4 M L h1 hk0) kc_13 (Mc_N0 hk0) (Mc_T0 hk0) wd_4083 cwX13_second ⟨Nat.le_of_ble_eq_true rfl, Nat.le_of_ble_eq_true rfl⟩ rfl hl.1 (Nat.le_of_ble_eq_true rfl) dX13_aim_46 rfl rfl ⟨Nat.zero_le _, Nat.zero_le _⟩ rfl (fun H locs hw => ?_)
          refine lv_if_eq (tgt := 53) C.1.1 C.1.2.1 dX13_aim_49 (by decide) (fun c8 => ?_) (fun c8 => ?_)
          · replace hD := g_pos c8 hD
            exact hb53 v3 v4 M5 L6 _ _ ls hD hw (lv_sub hl [0, 1, 2, 3, 4] rfl)
          · replace hD := g_neg c8 hD
            exact mr_vret C hr hlocks hw (Option.some.inj hD) dX13_aim_52
  have hb18 : ∀ (s0 : Int32) (M : mwM) (L : mwL) (H : Heap) (locs : List Loc) (ls : Array Slot), fX13_aim_b18 fu k a1 a2 s0 M L = some (M0, L0) → mw_W G ad NF TF FF M L H locs → lv_has ls 5 [(0, .ref (ad k)), (1, .int a1), (2, .int a2)] → W p l e ({ frames := 1, cells := 0, slots := 0, locals := 23 }) s m [.ref (ad k), .int a1, .int a2].toArray below meth c H locs 0 0 (MQ below (mw_Qv G ad NF TF FF (mw_eqV M0 L0)) [.ref (ad k), .int a1, .int a2].toArray s 0 0 (mw_fr G)) (F0 m 18 ls [.int s0]) := by
    intro s0 M L H locs ls hD hw hl
    unfold fX13_aim_b18 at hD
    refine lv_istore_n (lv' := [(3, .int s0), (0, .ref (ad k)), (1, .int a1), (2, .int a2)]) C.1.1 C.1.2.1 dX13_aim_18 rfl hl (by decide) rfl (fun ls hl => ?_)
    refine lv_iload_n C.1.1 C.1.2.1 dX13_aim_19 rfl (lv_at hl 0 rfl) ?_
    refine lv_istore (lv' := [(4, .int s0), (3, .int s0), (0, .ref (ad k)), (1, .int a1), (2, .int a2)]) C.1.1 C.1.2.1 dX13_aim_20 hl (by decide) rfl (fun ls hl => ?_)
    exact hh22 fu s0 s0 M L _ _ ls hD hw (lv_sub hl [2, 3, 4, 1, 0] rfl)
  unfold DX13_aim at hD
  refine lv_aload_n C.1.1 C.1.2.1 dX13_aim_0 rfl (lv_at hl 0 rfl) ?_
  refine lv_iload_n C.1.1 C.1.2.1 dX13_aim_1 rfl (lv_at hl 2 rfl) ?_
  obtain ⟨r34, M32, L33, h1, hD⟩ := g_b3 hD
  refine md_cvI (As := [.int a2]) (rest := []) C hw (tX13_mark l G ad fu k a2 M L h1 hk0) kc_13 (Mc_N0 hk0) (Mc_T0 hk0) wd_3268 cwX13_mark ⟨Nat.le_of_ble_eq_true rfl, Nat.le_of_ble_eq_true rfl⟩ rfl hl.1 (Nat.le_of_ble_eq_true rfl) dX13_aim_2 rfl rfl ⟨Nat.zero_le _, Nat.zero_le _⟩ rfl (fun H locs hw => ?_)
  refine lv_if_eq (tgt := 17) C.1.1 C.1.2.1 dX13_aim_5 (by decide) (fun c35 => ?_) (fun c35 => ?_)
  · replace hD := g_pos c35 hD
    refine lv_iload_n C.1.1 C.1.2.1 dX13_aim_17 rfl (lv_at hl 2 rfl) ?_
    exact hb18 a2 M32 L33 _ _ ls hD hw (lv_sub hl [0, 1, 2] rfl)
  · replace hD := g_neg c35 hD
    refine lv_aload_n C.1.1 C.1.2.1 dX13_aim_8 rfl (lv_at hl 0 rfl) ?_
    refine mr_getR C hw kc_13 4 (Mc_N0 hk0) (Mc_T0 hk0) (Mc_F0_4 hk0) wd_2646 dX13_aim_9 (by decide) rfl ?_
    refine lv_iload_n C.1.1 C.1.2.1 dX13_aim_12 rfl (lv_at hl 2 rfl) ?_
    obtain ⟨q36, hD⟩ := g_ck hD
    refine mr_iald C hw (Mc_N2 hk0) (Mc_T2 hk0) q36 dX13_aim_13 ?_
    refine lv_goto (tgt := 18) C.1.1 C.1.2.1 dX13_aim_14 (by decide) ?_
    exact hb18 (M32 (k + 2) a2.toNatClampNeg) M32 L33 _ _ ls hD hw (lv_sub hl [0, 1, 2] rfl)
