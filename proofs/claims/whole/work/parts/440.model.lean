theorem dX19_addEdge_0 : decode cX19_addEdge 0 = .ok (.aload_n 0, 1) := by decide +kernel
theorem dX19_addEdge_1 : decode cX19_addEdge 1 = .ok (.iconst 3, 1) := by decide +kernel
theorem dX19_addEdge_2 : decode cX19_addEdge 2 = .ok (.invokevirtual 451, 3) := by decide +kernel
theorem dX19_addEdge_5 : decode cX19_addEdge 5 = .ok (.istore_n 1, 1) := by decide +kernel
theorem dX19_addEdge_6 : decode cX19_addEdge 6 = .ok (.iload_n 1, 1) := by decide +kernel
theorem dX19_addEdge_7 : decode cX19_addEdge 7 = .ok (.ifCond .ge 7, 3) := by decide +kernel
theorem dX19_addEdge_10 : decode cX19_addEdge 10 = .ok (.iconst (-1), 1) := by decide +kernel
theorem dX19_addEdge_11 : decode cX19_addEdge 11 = .ok (.goto 8, 3) := by decide +kernel
theorem dX19_addEdge_14 : decode cX19_addEdge 14 = .ok (.aload_n 0, 1) := by decide +kernel
theorem dX19_addEdge_15 : decode cX19_addEdge 15 = .ok (.iload_n 1, 1) := by decide +kernel
theorem dX19_addEdge_16 : decode cX19_addEdge 16 = .ok (.invokevirtual 485, 3) := by decide +kernel
theorem dX19_addEdge_19 : decode cX19_addEdge 19 = .ok (.istore_n 2, 1) := by decide +kernel
theorem dX19_addEdge_20 : decode cX19_addEdge 20 = .ok (.iload_n 2, 1) := by decide +kernel
theorem dX19_addEdge_21 : decode cX19_addEdge 21 = .ok (.ifCond .ge 7, 3) := by decide +kernel
theorem dX19_addEdge_24 : decode cX19_addEdge 24 = .ok (.iconst (-1), 1) := by decide +kernel
theorem dX19_addEdge_25 : decode cX19_addEdge 25 = .ok (.goto 8, 3) := by decide +kernel
theorem dX19_addEdge_28 : decode cX19_addEdge 28 = .ok (.aload_n 0, 1) := by decide +kernel
theorem dX19_addEdge_29 : decode cX19_addEdge 29 = .ok (.iload_n 1, 1) := by decide +kernel
theorem dX19_addEdge_30 : decode cX19_addEdge 30 = .ok (.invokevirtual 485, 3) := by decide +kernel
theorem dX19_addEdge_33 : decode cX19_addEdge 33 = .ok (.istore_n 3, 1) := by decide +kernel
theorem dX19_addEdge_34 : decode cX19_addEdge 34 = .ok (.iload_n 3, 1) := by decide +kernel
theorem dX19_addEdge_35 : decode cX19_addEdge 35 = .ok (.ifCond .ge 5, 3) := by decide +kernel
theorem dX19_addEdge_38 : decode cX19_addEdge 38 = .ok (.iconst 0, 1) := by decide +kernel
theorem dX19_addEdge_39 : decode cX19_addEdge 39 = .ok (.ireturn, 1) := by decide +kernel
theorem dX19_addEdge_40 : decode cX19_addEdge 40 = .ok (.sipush 1000, 3) := by decide +kernel
theorem dX19_addEdge_43 : decode cX19_addEdge 43 = .ok (.iload_n 2, 1) := by decide +kernel
theorem dX19_addEdge_44 : decode cX19_addEdge 44 = .ok (.iadd, 1) := by decide +kernel
theorem dX19_addEdge_45 : decode cX19_addEdge 45 = .ok (.istore 4, 2) := by decide +kernel
theorem dX19_addEdge_47 : decode cX19_addEdge 47 = .ok (.aload_n 0, 1) := by decide +kernel
theorem dX19_addEdge_48 : decode cX19_addEdge 48 = .ok (.ldc2_w 517, 3) := by decide +kernel
theorem dX19_addEdge_51 : decode cX19_addEdge 51 = .ok (.invokevirtual 481, 3) := by decide +kernel
theorem dX19_addEdge_54 : decode cX19_addEdge 54 = .ok (.ifCond .ne 21, 3) := by decide +kernel
theorem dX19_addEdge_57 : decode cX19_addEdge 57 = .ok (.aload_n 0, 1) := by decide +kernel
theorem dX19_addEdge_58 : decode cX19_addEdge 58 = .ok (.iconst 0, 1) := by decide +kernel
theorem dX19_addEdge_59 : decode cX19_addEdge 59 = .ok (.bipush 99, 2) := by decide +kernel
theorem dX19_addEdge_61 : decode cX19_addEdge 61 = .ok (.invokevirtual 454, 3) := by decide +kernel
theorem dX19_addEdge_64 : decode cX19_addEdge 64 = .ok (.ifCond .ne 5, 3) := by decide +kernel
theorem dX19_addEdge_67 : decode cX19_addEdge 67 = .ok (.iconst 0, 1) := by decide +kernel
theorem dX19_addEdge_68 : decode cX19_addEdge 68 = .ok (.ireturn, 1) := by decide +kernel
theorem dX19_addEdge_69 : decode cX19_addEdge 69 = .ok (.aload_n 0, 1) := by decide +kernel
theorem dX19_addEdge_70 : decode cX19_addEdge 70 = .ok (.getfield 338, 3) := by decide +kernel
theorem dX19_addEdge_73 : decode cX19_addEdge 73 = .ok (.istore 4, 2) := by decide +kernel
theorem dX19_addEdge_75 : decode cX19_addEdge 75 = .ok (.aload_n 0, 1) := by decide +kernel
theorem dX19_addEdge_76 : decode cX19_addEdge 76 = .ok (.iload_n 1, 1) := by decide +kernel
theorem dX19_addEdge_77 : decode cX19_addEdge 77 = .ok (.invokevirtual 519, 3) := by decide +kernel
theorem dX19_addEdge_80 : decode cX19_addEdge 80 = .ok (.istore 5, 2) := by decide +kernel
theorem dX19_addEdge_82 : decode cX19_addEdge 82 = .ok (.iload 5, 2) := by decide +kernel
theorem dX19_addEdge_84 : decode cX19_addEdge 84 = .ok (.ifCond .lt 10, 3) := by decide +kernel
theorem dX19_addEdge_87 : decode cX19_addEdge 87 = .ok (.aload_n 0, 1) := by decide +kernel
theorem dX19_addEdge_88 : decode cX19_addEdge 88 = .ok (.invokevirtual 441, 3) := by decide +kernel
theorem dX19_addEdge_91 : decode cX19_addEdge 91 = .ok (.ifCond .ne 5, 3) := by decide +kernel
theorem dX19_addEdge_94 : decode cX19_addEdge 94 = .ok (.iconst 0, 1) := by decide +kernel
theorem dX19_addEdge_95 : decode cX19_addEdge 95 = .ok (.ireturn, 1) := by decide +kernel
theorem dX19_addEdge_96 : decode cX19_addEdge 96 = .ok (.aload_n 0, 1) := by decide +kernel
theorem dX19_addEdge_97 : decode cX19_addEdge 97 = .ok (.getfield 217, 3) := by decide +kernel
theorem dX19_addEdge_100 : decode cX19_addEdge 100 = .ok (.iload_n 1, 1) := by decide +kernel
theorem dX19_addEdge_101 : decode cX19_addEdge 101 = .ok (.aaload, 1) := by decide +kernel
theorem dX19_addEdge_102 : decode cX19_addEdge 102 = .ok (.iload_n 2, 1) := by decide +kernel
theorem dX19_addEdge_103 : decode cX19_addEdge 103 = .ok (.iload_n 3, 1) := by decide +kernel
theorem dX19_addEdge_104 : decode cX19_addEdge 104 = .ok (.iload 4, 2) := by decide +kernel
theorem dX19_addEdge_106 : decode cX19_addEdge 106 = .ok (.iload 5, 2) := by decide +kernel
theorem dX19_addEdge_108 : decode cX19_addEdge 108 = .ok (.invokevirtual 522, 3) := by decide +kernel
theorem dX19_addEdge_111 : decode cX19_addEdge 111 = .ok (.istore 6, 2) := by decide +kernel
theorem dX19_addEdge_113 : decode cX19_addEdge 113 = .ok (.aload_n 0, 1) := by decide +kernel
theorem dX19_addEdge_114 : decode cX19_addEdge 114 = .ok (.iload 6, 2) := by decide +kernel
theorem dX19_addEdge_116 : decode cX19_addEdge 116 = .ok (.invokevirtual 494, 3) := by decide +kernel
theorem dX19_addEdge_119 : decode cX19_addEdge 119 = .ok (.ifCond .ne 5, 3) := by decide +kernel
theorem dX19_addEdge_122 : decode cX19_addEdge 122 = .ok (.iconst 0, 1) := by decide +kernel
theorem dX19_addEdge_123 : decode cX19_addEdge 123 = .ok (.ireturn, 1) := by decide +kernel
theorem dX19_addEdge_124 : decode cX19_addEdge 124 = .ok (.aload_n 0, 1) := by decide +kernel
theorem dX19_addEdge_125 : decode cX19_addEdge 125 = .ok (.getfield 61, 3) := by decide +kernel
theorem dX19_addEdge_128 : decode cX19_addEdge 128 = .ok (.iload_n 1, 1) := by decide +kernel
theorem dX19_addEdge_129 : decode cX19_addEdge 129 = .ok (.iload 6, 2) := by decide +kernel
theorem dX19_addEdge_131 : decode cX19_addEdge 131 = .ok (.iastore, 1) := by decide +kernel
theorem dX19_addEdge_132 : decode cX19_addEdge 132 = .ok (.iconst 1, 1) := by decide +kernel
theorem dX19_addEdge_133 : decode cX19_addEdge 133 = .ok (.ireturn, 1) := by decide +kernel
theorem cwX19_addEdge : mw_cwV yX19_addEdge cX19_addEdge 7 ((some .boolean)) 0 := ⟨⟨wd_13, wd_3280, by decide +kernel⟩, wd_3279, sl_175⟩
set_option maxHeartbeats 4000000 in
set_option maxRecDepth 100000 in
theorem tX19_addEdge (l : Launch) (G : mwG) (ad : Nat → Nat) (fu : Nat) (M : mwM) (L : mwL) {r0 : Int32} {M0 : mwM} {L0 : mwL} (hD : DX19_addEdge fu M L = some (r0, M0, L0)) : Met l yX19_addEdge (Cond.code yX19_addEdge cX19_addEdge 7 ((some .boolean)) :: GT) ({ frames := 4, cells := 0, slots := 0, locals := 93 }) (mw_Pre G ad NF TF FF M L [.ref (ad 732)]) (mw_Qi G ad NF TF FF (mw_eqI r0 M0 L0)) 0 0 (mw_fr G) := by
  refine mw_enter (by decide) (Nat.le_of_ble_eq_true rfl) ?_
  intro p e s m below meth c ls C hr hlocks hnm hw hl
  have hl : lv_has ls 7 [(0, .ref (ad 732))] := hl
  have hb94 : ∀ (M : mwM) (L : mwL) (H : Heap) (locs : List Loc) (ls : Array Slot), fX19_addEdge_b94 fu M L = some (r0, M0, L0) → mw_W G ad NF TF FF M L H locs → lv_has ls 7 [] → W p l e ({ frames := 4, cells := 0, slots := 0, locals := 93 }) s m [.ref (ad 732)].toArray below meth c H locs 0 0 (MQ below (mw_Qi G ad NF TF FF (mw_eqI r0 M0 L0)) [.ref (ad 732)].toArray s 0 0 (mw_fr G)) (F0 m 94 ls []) := by
    intro M L H locs ls hD hw hl
    unfold fX19_addEdge_b94 at hD
    refine lv_iconst (v := 0) C.1.1 C.1.2.1 dX19_addEdge_94 (by decide) ?_
    exact mr_iret C hr hlocks hw (by decide +kernel) (Option.some.inj hD) dX19_addEdge_95
  have hb75 : ∀ (v1 : Int32) (v2 : Int32) (v3 : Int32) (v4 : Int32) (M : mwM) (L : mwL) (H : Heap) (locs : List Loc) (ls : Array Slot), fX19_addEdge_b75 fu v1 v2 v3 v4 M L = some (r0, M0, L0) → mw_W G ad NF TF FF M L H locs → lv_has ls 7 [(0, .ref (ad 732)), (1, .int v1), (2, .int v2), (3, .int v3), (4, .int v4)] → W p l e ({ frames := 4, cells := 0, slots := 0, locals := 93 }) s m [.ref (ad 732)].toArray below meth c H locs 0 0 (MQ below (mw_Qi G ad NF TF FF (mw_eqI r0 M0 L0)) [.ref (ad 732)].toArray s 0 0 (mw_fr G)) (F0 m 75 ls []) := by
    intro v1 v2 v3 v4 M L H locs ls hD hw hl
    unfold fX19_addEdge_b75 at hD
    refine lv_aload_n C.1.1 C.1.2.1 dX19_addEdge_75 rfl (lv_at hl 0 rfl) ?_
    refine lv_iload_n C.1.1 C.1.2.1 dX19_addEdge_76 rfl (lv_at hl 1 rfl) ?_
    obtain ⟨r18, M16, L17, h1, hD⟩ := g_b3 hD
    refine md_cvI (As := [.int v1]) (rest := []) C hw (tX19_guard l G ad fu v1 M L h1) kc_19 (by decide) tf_732 wd_3282 cwX19_guard ⟨Nat.le_of_ble_eq_true rfl, Nat.le_of_ble_eq_true rfl⟩ rfl hl.1 (Nat.le_of_ble_eq_true rfl) dX19_addEdge_77 rfl rfl ⟨Nat.zero_le _, Nat.zero_le _⟩ rfl (fun H locs hw => ?_)
    refine lv_istore (lv' := [(5, .int r18), (0, .ref (ad 732)), (1, .int v1), (2, .int v2), (3, .int v3), (4, .int v4)]) C.1.1 C.1.2.1 dX19_addEdge_80 hl (by decide) rfl (fun ls hl => ?_)
    refine lv_iload C.1.1 C.1.2.1 dX19_addEdge_82 (lv_at hl 0 rfl) ?_
    refine lv_if_lt (tgt := 94) C.1.1 C.1.2.1 dX19_addEdge_84 (by decide) (fun c19 => ?_) (fun c19 => ?_)
    · replace hD := g_pos c19 hD
      exact hb94 M16 L17 _ _ ls hD hw (lv_sub hl [] rfl)
    · replace hD := g_neg c19 hD
      refine lv_aload_n C.1.1 C.1.2.1 dX19_addEdge_87 rfl (lv_at hl 1 rfl) ?_
      obtain ⟨r22, M20, L21, h1, hD⟩ := g_b3 hD
      refine md_cvI (As := []) (rest := []) C hw (tX19_end l G ad fu M16 L17 h1) kc_19 (by decide) tf_732 wd_3194 cwX19_end ⟨Nat.le_of_ble_eq_true rfl, Nat.le_of_ble_eq_true rfl⟩ rfl hl.1 (Nat.le_of_ble_eq_true rfl) dX19_addEdge_88 rfl rfl ⟨Nat.zero_le _, Nat.zero_le _⟩ rfl (fun H locs hw => ?_)
      refine lv_if_ne (tgt := 96) C.1.1 C.1.2.1 dX19_addEdge_91 (by decide) (fun c23 => ?_) (fun c23 => ?_)
      · replace hD := g_neg c23 hD
        refine lv_aload_n C.1.1 C.1.2.1 dX19_addEdge_96 rfl (lv_at hl 1 rfl) ?_
        refine mr_getR C hw kc_19 82 (by decide) tf_732 ff_732_82 wd_2863 dX19_addEdge_97 (by decide) rfl ?_
        refine lv_iload_n C.1.1 C.1.2.1 dX19_addEdge_100 rfl (lv_at hl 2 rfl) ?_
        obtain ⟨q24, hD⟩ := g_ck hD
        refine mr_aald C hw (by decide) tf_922 (by decide) (by decide) rfl rfl q24 (fr_922 _ (g_lt q24)) dX19_addEdge_101 ?_
        refine lv_iload_n C.1.1 C.1.2.1 dX19_addEdge_102 rfl (lv_at hl 3 rfl) ?_
        refine lv_iload_n C.1.1 C.1.2.1 dX19_addEdge_103 rfl (lv_at hl 4 rfl) ?_
        refine lv_iload C.1.1 C.1.2.1 dX19_addEdge_104 (lv_at hl 5 rfl) ?_
        refine lv_iload C.1.1 C.1.2.1 dX19_addEdge_106 (lv_at hl 0 rfl) ?_
        obtain ⟨r27, M25, L26, h1, hD⟩ := g_b3 hD
        refine md_cvI (As := [.int v2, .int v3, .int v4, .int r18]) (rest := []) C hw (tX13_edge l G ad fu ((964 + 53 * v1.toNatClampNeg)) v2 v3 v4 r18 M20 L21 h1 (isMc_of (g_lt q24))) kc_13 (Mc_N0 (isMc_of (g_lt q24))) (Mc_T0 (isMc_of (g_lt q24))) wd_3305 cwX13_edge ⟨Nat.le_of_ble_eq_true rfl, Nat.le_of_ble_eq_true rfl⟩ rfl hl.1 (Nat.le_of_ble_eq_true rfl) dX19_addEdge_108 rfl rfl ⟨Nat.zero_le _, Nat.zero_le _⟩ rfl (fun H locs hw => ?_)
        refine lv_istore (lv' := [(6, .int r27), (5, .int r18), (0, .ref (ad 732)), (1, .int v1), (2, .int v2), (3, .int v3), (4, .int v4)]) C.1.1 C.1.2.1 dX19_addEdge_111 hl (by decide) rfl (fun ls hl => ?_)
        refine lv_aload_n C.1.1 C.1.2.1 dX19_addEdge_113 rfl (lv_at hl 2 rfl) ?_
        refine lv_iload C.1.1 C.1.2.1 dX19_addEdge_114 (lv_at hl 0 rfl) ?_
        obtain ⟨r30, M28, L29, h1, hD⟩ := g_b3 hD
        refine md_cvI (As := [.int r27]) (rest := []) C hw (tX19_fits l G ad fu r27 M25 L26 h1) kc_19 (by decide) tf_732 wd_3272 cwX19_fits ⟨Nat.le_of_ble_eq_true rfl, Nat.le_of_ble_eq_true rfl⟩ rfl hl.1 (Nat.le_of_ble_eq_true rfl) dX19_addEdge_116 rfl rfl ⟨Nat.zero_le _, Nat.zero_le _⟩ rfl (fun H locs hw => ?_)
        refine lv_if_ne (tgt := 124) C.1.1 C.1.2.1 dX19_addEdge_119 (by decide) (fun c31 => ?_) (fun c31 => ?_)
        · replace hD := g_neg c31 hD
          refine lv_aload_n C.1.1 C.1.2.1 dX19_addEdge_124 rfl (lv_at hl 2 rfl) ?_
          refine mr_getR C hw kc_19 35 (by decide) tf_732 ff_732_35 wd_2816 dX19_addEdge_125 (by decide) rfl ?_
          refine lv_iload_n C.1.1 C.1.2.1 dX19_addEdge_128 rfl (lv_at hl 3 rfl) ?_
          refine lv_iload C.1.1 C.1.2.1 dX19_addEdge_129 (lv_at hl 0 rfl) ?_
          obtain ⟨q32, hD⟩ := g_ck hD
          obtain ⟨M33, eM33, hD⟩ := g_let hD
          refine mr_iast C hw (by decide) tf_750 q32 dX19_addEdge_131 (fun H locs hw => ?_)
          replace hw : mw_W G ad NF TF FF M33 L29 H locs := by rw [eM33]; exact hw
          refine lv_iconst (v := 1) C.1.1 C.1.2.1 dX19_addEdge_132 (by decide) ?_
          exact mr_iret C hr hlocks hw (by decide +kernel) (Option.some.inj hD) dX19_addEdge_133
        · replace hD := g_pos c31 hD
          refine lv_iconst (v := 0) C.1.1 C.1.2.1 dX19_addEdge_122 (by decide) ?_
          exact mr_iret C hr hlocks hw (by decide +kernel) (Option.some.inj hD) dX19_addEdge_123
      · replace hD := g_pos c23 hD
        exact hb94 M20 L21 _ _ ls hD hw (lv_sub hl [] rfl)
  have hb33 : ∀ (v1 : Int32) (v2 : Int32) (s0 : Int32) (M : mwM) (L : mwL) (H : Heap) (locs : List Loc) (ls : Array Slot), fX19_addEdge_b33 fu v1 v2 s0 M L = some (r0, M0, L0) → mw_W G ad NF TF FF M L H locs → lv_has ls 7 [(0, .ref (ad 732)), (1, .int v1), (2, .int v2)] → W p l e ({ frames := 4, cells := 0, slots := 0, locals := 93 }) s m [.ref (ad 732)].toArray below meth c H locs 0 0 (MQ below (mw_Qi G ad NF TF FF (mw_eqI r0 M0 L0)) [.ref (ad 732)].toArray s 0 0 (mw_fr G)) (F0 m 33 ls [.int s0]) := by
    intro v1 v2 s0 M L H locs ls hD hw hl
    unfold fX19_addEdge_b33 at hD
    refine lv_istore_n (lv' := [(3, .int s0), (0, .ref (ad 732)), (1, .int v1), (2, .int v2)]) C.1.1 C.1.2.1 dX19_addEdge_33 rfl hl (by decide) rfl (fun ls hl => ?_)
    refine lv_iload_n C.1.1 C.1.2.1 dX19_addEdge_34 rfl (lv_at hl 0 rfl) ?_
    refine lv_if_ge (tgt := 40) C.1.1 C.1.2.1 dX19_addEdge_35 (by decide) (fun c5 => ?_) (fun c5 => ?_)
    · replace hD := g_pos c5 hD
      refine lv_sipush (v := 1000) C.1.1 C.1.2.1 dX19_addEdge_40 (by decide) ?_
      refine lv_iload_n C.1.1 C.1.2.1 dX19_addEdge_43 rfl (lv_at hl 3 rfl) ?_
      refine lv_iadd C.1.1 C.1.2.1 dX19_addEdge_44 ?_
      obtain ⟨x6, ex6, hD⟩ := g_let hD
      refine W.eq (g2 := F0 m 45 ls (.int x6 :: [])) (by rw [ex6]) ?_
      refine lv_istore (lv' := [(4, .int x6), (3, .int s0), (0, .ref (ad 732)), (1, .int v1), (2, .int v2)]) C.1.1 C.1.2.1 dX19_addEdge_45 hl (by decide) rfl (fun ls hl => ?_)
      refine lv_aload_n C.1.1 C.1.2.1 dX19_addEdge_47 rfl (lv_at hl 2 rfl) ?_
      refine lv_ldc2 (v := 1701669236) C.1.1 C.1.2.1 C.1.2.2.2.1 (C.1.2.2.2.2 _ wd_3281) dX19_addEdge_48 ?_
      obtain ⟨r9, M7, L8, h1, hD⟩ := g_b3 hD
      refine md_cvI (As := [.long 1701669236]) (rest := []) C hw (tX19_takes l G ad fu 1701669236 M L h1) kc_19 (by decide) tf_732 wd_3242 cwX19_takes ⟨Nat.le_of_ble_eq_true rfl, Nat.le_of_ble_eq_true rfl⟩ rfl hl.1 (Nat.le_of_ble_eq_true rfl) dX19_addEdge_51 rfl rfl ⟨Nat.zero_le _, Nat.zero_le _⟩ rfl (fun H locs hw => ?_)
      refine lv_if_ne (tgt := 75) C.1.1 C.1.2.1 dX19_addEdge_54 (by decide) (fun c10 => ?_) (fun c10 => ?_)
      · replace hD := g_neg c10 hD
        exact hb75 v1 v2 s0 x6 M7 L8 _ _ ls hD hw (lv_sub hl [2, 3, 4, 1, 0] rfl)
      · replace hD := g_pos c10 hD
        refine lv_aload_n C.1.1 C.1.2.1 dX19_addEdge_57 rfl (lv_at hl 2 rfl) ?_
        refine lv_iconst (v := 0) C.1.1 C.1.2.1 dX19_addEdge_58 (by decide) ?_
        refine lv_bipush (v := 99) C.1.1 C.1.2.1 dX19_addEdge_59 (by decide) ?_
        obtain ⟨r13, M11, L12, h1, hD⟩ := g_b3 hD
        refine md_cvI (As := [.int 0, .int 99]) (rest := []) C hw (tX19_number l G ad fu 0 99 M7 L8 h1) kc_19 (by decide) tf_732 wd_3211 cwX19_number ⟨Nat.le_of_ble_eq_true rfl, Nat.le_of_ble_eq_true rfl⟩ rfl hl.1 (Nat.le_of_ble_eq_true rfl) dX19_addEdge_61 rfl rfl ⟨Nat.zero_le _, Nat.zero_le _⟩ rfl (fun H locs hw => ?_)
        refine lv_if_ne (tgt := 69) C.1.1 C.1.2.1 dX19_addEdge_64 (by decide) (fun c14 => ?_) (fun c14 => ?_)
        · replace hD := g_neg c14 hD
          refine lv_aload_n C.1.1 C.1.2.1 dX19_addEdge_69 rfl (lv_at hl 2 rfl) ?_
          refine mr_getI C hw kc_19 13 (by decide) tf_732 wd_2794 dX19_addEdge_70 (by decide) rfl ?_
          obtain ⟨x15, ex15, hD⟩ := g_let hD
          refine W.eq (g2 := F0 m 73 ls (.int x15 :: [])) (by rw [ex15]) ?_
          refine lv_istore (lv' := [(4, .int x15), (3, .int s0), (0, .ref (ad 732)), (1, .int v1), (2, .int v2)]) C.1.1 C.1.2.1 dX19_addEdge_73 hl (by decide) rfl (fun ls hl => ?_)
          exact hb75 v1 v2 s0 x15 M11 L12 _ _ ls hD hw (lv_sub hl [2, 3, 4, 1, 0] rfl)
        · replace hD := g_pos c14 hD
          refine lv_iconst (v := 0) C.1.1 C.1.2.1 dX19_addEdge_67 (by decide) ?_
          exact mr_iret C hr hlocks hw (by decide +kernel) (Option.some.inj hD) dX19_addEdge_68
    · replace hD := g_neg c5 hD
      refine lv_iconst (v := 0) C.1.1 C.1.2.1 dX19_addEdge_38 (by decide) ?_
      exact mr_iret C hr hlocks hw (by decide +kernel) (Option.some.inj hD) dX19_addEdge_39
  have hb19 : ∀ (v1 : Int32) (s0 : Int32) (M : mwM) (L : mwL) (H : Heap) (locs : List Loc) (ls : Array Slot), fX19_addEdge_b19 fu v1 s0 M L = some (r0, M0, L0) → mw_W G ad NF TF FF M L H locs → lv_has ls 7 [(0, .ref (ad 732)), (1, .int v1)] → W p l e ({ frames := 4, cells := 0, slots := 0, locals := 93 }) s m [.ref (ad 732)].toArray below meth c H locs 0 0 (MQ below (mw_Qi G ad NF TF FF (mw_eqI r0 M0 L0)) [.ref (ad 732)].toArray s 0 0 (mw_fr G)) (F0 m 19 ls [.int s0]) := by
    intro v1 s0 M L H locs ls hD hw hl
    unfold fX19_addEdge_b19 at hD
    refine lv_istore_n (lv' := [(2, .int s0), (0, .ref (ad 732)), (1, .int v1)]) C.1.1 C.1.2.1 dX19_addEdge_19 rfl hl (by decide) rfl (fun ls hl => ?_)
    refine lv_iload_n C.1.1 C.1.2.1 dX19_addEdge_20 rfl (lv_at hl 0 rfl) ?_
    refine lv_if_ge (tgt := 28) C.1.1 C.1.2.1 dX19_addEdge_21 (by decide) (fun c1 => ?_) (fun c1 => ?_)
    · replace hD := g_pos c1 hD
      refine lv_aload_n C.1.1 C.1.2.1 dX19_addEdge_28 rfl (lv_at hl 1 rfl) ?_
      refine lv_iload_n C.1.1 C.1.2.1 dX19_addEdge_29 rfl (lv_at hl 2 rfl) ?_
      obtain ⟨r4, M2, L3, h1, hD⟩ := g_b3 hD
      refine md_cvI (As := [.int v1]) (rest := []) C hw (tX19_state l G ad fu v1 M L h1) kc_19 (by decide) tf_732 wd_3246 cwX19_state ⟨Nat.le_of_ble_eq_true rfl, Nat.le_of_ble_eq_true rfl⟩ rfl hl.1 (Nat.le_of_ble_eq_true rfl) dX19_addEdge_30 rfl rfl ⟨Nat.zero_le _, Nat.zero_le _⟩ rfl (fun H locs hw => ?_)
      exact hb33 v1 s0 r4 M2 L3 _ _ ls hD hw (lv_sub hl [1, 2, 0] rfl)
    · replace hD := g_neg c1 hD
      refine lv_iconst (v := (-1)) C.1.1 C.1.2.1 dX19_addEdge_24 (by decide) ?_
      refine lv_goto (tgt := 33) C.1.1 C.1.2.1 dX19_addEdge_25 (by decide) ?_
      exact hb33 v1 s0 ((-1)) M L _ _ ls hD hw (lv_sub hl [1, 2, 0] rfl)
  unfold DX19_addEdge at hD
  refine lv_aload_n C.1.1 C.1.2.1 dX19_addEdge_0 rfl (lv_at hl 0 rfl) ?_
  refine lv_iconst (v := 3) C.1.1 C.1.2.1 dX19_addEdge_1 (by decide) ?_
  obtain ⟨r36, M34, L35, h1, hD⟩ := g_b3 hD
  refine md_cvI (As := [.int 3]) (rest := []) C hw (tX19_named l G ad fu 3 M L h1) kc_19 (by decide) tf_732 wd_3207 cwX19_named ⟨Nat.le_of_ble_eq_true rfl, Nat.le_of_ble_eq_true rfl⟩ rfl hl.1 (Nat.le_of_ble_eq_true rfl) dX19_addEdge_2 rfl rfl ⟨Nat.zero_le _, Nat.zero_le _⟩ rfl (fun H locs hw => ?_)
  refine lv_istore_n (lv' := [(1, .int r36), (0, .ref (ad 732))]) C.1.1 C.1.2.1 dX19_addEdge_5 rfl hl (by decide) rfl (fun ls hl => ?_)
  refine lv_iload_n C.1.1 C.1.2.1 dX19_addEdge_6 rfl (lv_at hl 0 rfl) ?_
  refine lv_if_ge (tgt := 14) C.1.1 C.1.2.1 dX19_addEdge_7 (by decide) (fun c37 => ?_) (fun c37 => ?_)
  · replace hD := g_pos c37 hD
    refine lv_aload_n C.1.1 C.1.2.1 dX19_addEdge_14 rfl (lv_at hl 1 rfl) ?_
    refine lv_iload_n C.1.1 C.1.2.1 dX19_addEdge_15 rfl (lv_at hl 0 rfl) ?_
    obtain ⟨r40, M38, L39, h1, hD⟩ := g_b3 hD
    refine md_cvI (As := [.int r36]) (rest := []) C hw (tX19_state l G ad fu r36 M34 L35 h1) kc_19 (by decide) tf_732 wd_3246 cwX19_state ⟨Nat.le_of_ble_eq_true rfl, Nat.le_of_ble_eq_true rfl⟩ rfl hl.1 (Nat.le_of_ble_eq_true rfl) dX19_addEdge_16 rfl rfl ⟨Nat.zero_le _, Nat.zero_le _⟩ rfl (fun H locs hw => ?_)
    exact hb19 r36 r40 M38 L39 _ _ ls hD hw (lv_sub hl [1, 0] rfl)
  · replace hD := g_neg c37 hD
    refine lv_iconst (v := (-1)) C.1.1 C.1.2.1 dX19_addEdge_10 (by decide) ?_
    refine lv_goto (tgt := 19) C.1.1 C.1.2.1 dX19_addEdge_11 (by decide) ?_
    exact hb19 r36 ((-1)) M34 L35 _ _ ls hD hw (lv_sub hl [1, 0] rfl)

theorem dX19_addAfter_0 : decode cX19_addAfter 0 = .ok (.aload_n 0, 1) := by decide +kernel
theorem dX19_addAfter_1 : decode cX19_addAfter 1 = .ok (.iconst 3, 1) := by decide +kernel
theorem dX19_addAfter_2 : decode cX19_addAfter 2 = .ok (.invokevirtual 451, 3) := by decide +kernel
theorem dX19_addAfter_5 : decode cX19_addAfter 5 = .ok (.istore_n 1, 1) := by decide +kernel
theorem dX19_addAfter_6 : decode cX19_addAfter 6 = .ok (.iload_n 1, 1) := by decide +kernel
theorem dX19_addAfter_7 : decode cX19_addAfter 7 = .ok (.ifCond .ge 7, 3) := by decide +kernel
theorem dX19_addAfter_10 : decode cX19_addAfter 10 = .ok (.iconst (-1), 1) := by decide +kernel
theorem dX19_addAfter_11 : decode cX19_addAfter 11 = .ok (.goto 8, 3) := by decide +kernel
theorem dX19_addAfter_14 : decode cX19_addAfter 14 = .ok (.aload_n 0, 1) := by decide +kernel
theorem dX19_addAfter_15 : decode cX19_addAfter 15 = .ok (.iload_n 1, 1) := by decide +kernel
theorem dX19_addAfter_16 : decode cX19_addAfter 16 = .ok (.invokevirtual 485, 3) := by decide +kernel
theorem dX19_addAfter_19 : decode cX19_addAfter 19 = .ok (.istore_n 2, 1) := by decide +kernel
theorem dX19_addAfter_20 : decode cX19_addAfter 20 = .ok (.iload_n 2, 1) := by decide +kernel
theorem dX19_addAfter_21 : decode cX19_addAfter 21 = .ok (.ifCond .lt 21, 3) := by decide +kernel
theorem dX19_addAfter_24 : decode cX19_addAfter 24 = .ok (.aload_n 0, 1) := by decide +kernel
theorem dX19_addAfter_25 : decode cX19_addAfter 25 = .ok (.iconst 1, 1) := by decide +kernel
theorem dX19_addAfter_26 : decode cX19_addAfter 26 = .ok (.sipush 20000, 3) := by decide +kernel
theorem dX19_addAfter_29 : decode cX19_addAfter 29 = .ok (.invokevirtual 454, 3) := by decide +kernel
theorem dX19_addAfter_32 : decode cX19_addAfter 32 = .ok (.ifCond .eq 10, 3) := by decide +kernel
theorem dX19_addAfter_35 : decode cX19_addAfter 35 = .ok (.aload_n 0, 1) := by decide +kernel
theorem dX19_addAfter_36 : decode cX19_addAfter 36 = .ok (.invokevirtual 441, 3) := by decide +kernel
theorem dX19_addAfter_39 : decode cX19_addAfter 39 = .ok (.ifCond .ne 5, 3) := by decide +kernel
theorem dX19_addAfter_42 : decode cX19_addAfter 42 = .ok (.iconst 0, 1) := by decide +kernel
theorem dX19_addAfter_43 : decode cX19_addAfter 43 = .ok (.ireturn, 1) := by decide +kernel
theorem dX19_addAfter_44 : decode cX19_addAfter 44 = .ok (.aload_n 0, 1) := by decide +kernel
theorem dX19_addAfter_45 : decode cX19_addAfter 45 = .ok (.aload_n 0, 1) := by decide +kernel
theorem dX19_addAfter_46 : decode cX19_addAfter 46 = .ok (.getfield 217, 3) := by decide +kernel
theorem dX19_addAfter_49 : decode cX19_addAfter 49 = .ok (.iload_n 1, 1) := by decide +kernel
theorem dX19_addAfter_50 : decode cX19_addAfter 50 = .ok (.aaload, 1) := by decide +kernel
theorem dX19_addAfter_51 : decode cX19_addAfter 51 = .ok (.iload_n 2, 1) := by decide +kernel
theorem dX19_addAfter_52 : decode cX19_addAfter 52 = .ok (.aload_n 0, 1) := by decide +kernel
theorem dX19_addAfter_53 : decode cX19_addAfter 53 = .ok (.getfield 338, 3) := by decide +kernel
theorem dX19_addAfter_56 : decode cX19_addAfter 56 = .ok (.i2l, 1) := by decide +kernel
theorem dX19_addAfter_57 : decode cX19_addAfter 57 = .ok (.invokevirtual 526, 3) := by decide +kernel
theorem dX19_addAfter_60 : decode cX19_addAfter 60 = .ok (.invokevirtual 494, 3) := by decide +kernel
theorem dX19_addAfter_63 : decode cX19_addAfter 63 = .ok (.ireturn, 1) := by decide +kernel
theorem cwX19_addAfter : mw_cwV yX19_addAfter cX19_addAfter 3 ((some .boolean)) 0 := ⟨⟨wd_13, wd_3313, by decide +kernel⟩, wd_3312, sl_180⟩
set_option maxHeartbeats 4000000 in
set_option maxRecDepth 100000 in
theorem tX19_addAfter (l : Launch) (G : mwG) (ad : Nat → Nat) (fu : Nat) (M : mwM) (L : mwL) {r0 : Int32} {M0 : mwM} {L0 : mwL} (hD : DX19_addAfter fu M L = some (r0, M0, L0)) : Met l yX19_addAfter (Cond.code yX19_addAfter cX19_addAfter 3 ((some .boolean)) :: GT) ({ frames := 3, cells := 0, slots := 0, locals := 69 }) (mw_Pre G ad NF TF FF M L [.ref (ad 732)]) (mw_Qi G ad NF TF FF (mw_eqI r0 M0 L0)) 0 0 (mw_fr G) := by
  refine mw_enter (by decide) (Nat.le_of_ble_eq_true rfl) ?_
  intro p e s m below meth c ls C hr hlocks hnm hw hl
  have hl : lv_has ls 3 [(0, .ref (ad 732))] := hl
  have hb42 : ∀ (M : mwM) (L : mwL) (H : Heap) (locs : List Loc) (ls : Array Slot), fX19_addAfter_b42 fu M L = some (r0, M0, L0) → mw_W G ad NF TF FF M L H locs → lv_has ls 3 [] → W p l e ({ frames := 3, cells := 0, slots := 0, locals := 69 }) s m [.ref (ad 732)].toArray below meth c H locs 0 0 (MQ below (mw_Qi G ad NF TF FF (mw_eqI r0 M0 L0)) [.ref (ad 732)].toArray s 0 0 (mw_fr G)) (F0 m 42 ls []) := by
    intro M L H locs ls hD hw hl
    unfold fX19_addAfter_b42 at hD
    refine lv_iconst (v := 0) C.1.1 C.1.2.1 dX19_addAfter_42 (by decide) ?_
    exact mr_iret C hr hlocks hw (by decide +kernel) (Option.some.inj hD) dX19_addAfter_43
  have hb19 : ∀ (v1 : Int32) (s0 : Int32) (M : mwM) (L : mwL) (H : Heap) (locs : List Loc) (ls : Array Slot), fX19_addAfter_b19 fu v1 s0 M L = some (r0, M0, L0) → mw_W G ad NF TF FF M L H locs → lv_has ls 3 [(0, .ref (ad 732)), (1, .int v1)] → W p l e ({ frames := 3, cells := 0, slots := 0, locals := 69 }) s m [.ref (ad 732)].toArray below meth c H locs 0 0 (MQ below (mw_Qi G ad NF TF FF (mw_eqI r0 M0 L0)) [.ref (ad 732)].toArray s 0 0 (mw_fr G)) (F0 m 19 ls [.int s0]) := by
    intro v1 s0 M L H locs ls hD hw hl
    unfold fX19_addAfter_b19 at hD
    refine lv_istore_n (lv' := [(2, .int s0), (0, .ref (ad 732)), (1, .int v1)]) C.1.1 C.1.2.1 dX19_addAfter_19 rfl hl (by decide) rfl (fun ls hl => ?_)
    refine lv_iload_n C.1.1 C.1.2.1 dX19_addAfter_20 rfl (lv_at hl 0 rfl) ?_
    refine lv_if_lt (tgt := 42) C.1.1 C.1.2.1 dX19_addAfter_21 (by decide) (fun c1 => ?_) (fun c1 => ?_)
    · replace hD := g_pos c1 hD
      exact hb42 M L _ _ ls hD hw (lv_sub hl [] rfl)
    · replace hD := g_neg c1 hD
      refine lv_aload_n C.1.1 C.1.2.1 dX19_addAfter_24 rfl (lv_at hl 1 rfl) ?_
      refine lv_iconst (v := 1) C.1.1 C.1.2.1 dX19_addAfter_25 (by decide) ?_
      refine lv_sipush (v := 20000) C.1.1 C.1.2.1 dX19_addAfter_26 (by decide) ?_
      obtain ⟨r4, M2, L3, h1, hD⟩ := g_b3 hD
      refine md_cvI (As := [.int 1, .int 20000]) (rest := []) C hw (tX19_number l G ad fu 1 20000 M L h1) kc_19 (by decide) tf_732 wd_3211 cwX19_number ⟨Nat.le_of_ble_eq_true rfl, Nat.le_of_ble_eq_true rfl⟩ rfl hl.1 (Nat.le_of_ble_eq_true rfl) dX19_addAfter_29 rfl rfl ⟨Nat.zero_le _, Nat.zero_le _⟩ rfl (fun H locs hw => ?_)
      refine lv_if_eq (tgt := 42) C.1.1 C.1.2.1 dX19_addAfter_32 (by decide) (fun c5 => ?_) (fun c5 => ?_)
      · replace hD := g_pos c5 hD
        exact hb42 M2 L3 _ _ ls hD hw (lv_sub hl [] rfl)
      · replace hD := g_neg c5 hD
        refine lv_aload_n C.1.1 C.1.2.1 dX19_addAfter_35 rfl (lv_at hl 1 rfl) ?_
        obtain ⟨r8, M6, L7, h1, hD⟩ := g_b3 hD
        refine md_cvI (As := []) (rest := []) C hw (tX19_end l G ad fu M2 L3 h1) kc_19 (by decide) tf_732 wd_3194 cwX19_end ⟨Nat.le_of_ble_eq_true rfl, Nat.le_of_ble_eq_true rfl⟩ rfl hl.1 (Nat.le_of_ble_eq_true rfl) dX19_addAfter_36 rfl rfl ⟨Nat.zero_le _, Nat.zero_le _⟩ rfl (fun H locs hw => ?_)
        refine lv_if_ne (tgt := 44) C.1.1 C.1.2.1 dX19_addAfter_39 (by decide) (fun c9 => ?_) (fun c9 => ?_)
        · replace hD := g_neg c9 hD
          refine lv_aload_n C.1.1 C.1.2.1 dX19_addAfter_44 rfl (lv_at hl 1 rfl) ?_
          refine lv_aload_n C.1.1 C.1.2.1 dX19_addAfter_45 rfl (lv_at hl 1 rfl) ?_
          refine mr_getR C hw kc_19 82 (by decide) tf_732 ff_732_82 wd_2863 dX19_addAfter_46 (by decide) rfl ?_
          refine lv_iload_n C.1.1 C.1.2.1 dX19_addAfter_49 rfl (lv_at hl 2 rfl) ?_
          obtain ⟨q10, hD⟩ := g_ck hD
          refine mr_aald C hw (by decide) tf_922 (by decide) (by decide) rfl rfl q10 (fr_922 _ (g_lt q10)) dX19_addAfter_50 ?_
          refine lv_iload_n C.1.1 C.1.2.1 dX19_addAfter_51 rfl (lv_at hl 0 rfl) ?_
          refine lv_aload_n C.1.1 C.1.2.1 dX19_addAfter_52 rfl (lv_at hl 1 rfl) ?_
          refine mr_getI C hw kc_19 13 (by decide) tf_732 wd_2794 dX19_addAfter_53 (by decide) rfl ?_
          refine lv_i2l C.1.1 C.1.2.1 dX19_addAfter_56 rfl ?_
          obtain ⟨r13, M11, L12, h1, hD⟩ := g_b3 hD
          refine md_cvI (As := [.int s0, .long ((M6 732 13).toInt64)]) (rest := [.ref (ad 732)]) C hw (tX13_after l G ad fu ((964 + 53 * v1.toNatClampNeg)) s0 ((M6 732 13).toInt64) M6 L7 h1 (isMc_of (g_lt q10))) kc_13 (Mc_N0 (isMc_of (g_lt q10))) (Mc_T0 (isMc_of (g_lt q10))) wd_3314 cwX13_after ⟨Nat.le_of_ble_eq_true rfl, Nat.le_of_ble_eq_true rfl⟩ rfl hl.1 (Nat.le_of_ble_eq_true rfl) dX19_addAfter_57 rfl rfl ⟨Nat.zero_le _, Nat.zero_le _⟩ rfl (fun H locs hw => ?_)
          obtain ⟨r16, M14, L15, h1, hD⟩ := g_b3 hD
          refine md_cvI (As := [.int r13]) (rest := []) C hw (tX19_fits l G ad fu r13 M11 L12 h1) kc_19 (by decide) tf_732 wd_3272 cwX19_fits ⟨Nat.le_of_ble_eq_true rfl, Nat.le_of_ble_eq_true rfl⟩ rfl hl.1 (Nat.le_of_ble_eq_true rfl) dX19_addAfter_60 rfl rfl ⟨Nat.zero_le _, Nat.zero_le _⟩ rfl (fun H locs hw => ?_)
          obtain ⟨z17, hD⟩ := g_zz hD
          exact mr_iret C hr hlocks hw (nz_zz z17) (Option.some.inj hD) dX19_addAfter_63
        · replace hD := g_pos c9 hD
          exact hb42 M6 L7 _ _ ls hD hw (lv_sub hl [] rfl)
  unfold DX19_addAfter at hD
  refine lv_aload_n C.1.1 C.1.2.1 dX19_addAfter_0 rfl (lv_at hl 0 rfl) ?_
  refine lv_iconst (v := 3) C.1.1 C.1.2.1 dX19_addAfter_1 (by decide) ?_
  obtain ⟨r20, M18, L19, h1, hD⟩ := g_b3 hD
  refine md_cvI (As := [.int 3]) (rest := []) C hw (tX19_named l G ad fu 3 M L h1) kc_19 (by decide) tf_732 wd_3207 cwX19_named ⟨Nat.le_of_ble_eq_true rfl, Nat.le_of_ble_eq_true rfl⟩ rfl hl.1 (Nat.le_of_ble_eq_true rfl) dX19_addAfter_2 rfl rfl ⟨Nat.zero_le _, Nat.zero_le _⟩ rfl (fun H locs hw => ?_)
  refine lv_istore_n (lv' := [(1, .int r20), (0, .ref (ad 732))]) C.1.1 C.1.2.1 dX19_addAfter_5 rfl hl (by decide) rfl (fun ls hl => ?_)
  refine lv_iload_n C.1.1 C.1.2.1 dX19_addAfter_6 rfl (lv_at hl 0 rfl) ?_
  refine lv_if_ge (tgt := 14) C.1.1 C.1.2.1 dX19_addAfter_7 (by decide) (fun c21 => ?_) (fun c21 => ?_)
  · replace hD := g_pos c21 hD
    refine lv_aload_n C.1.1 C.1.2.1 dX19_addAfter_14 rfl (lv_at hl 1 rfl) ?_
    refine lv_iload_n C.1.1 C.1.2.1 dX19_addAfter_15 rfl (lv_at hl 0 rfl) ?_
    obtain ⟨r24, M22, L23, h1, hD⟩ := g_b3 hD
    refine md_cvI (As := [.int r20]) (rest := []) C hw (tX19_state l G ad fu r20 M18 L19 h1) kc_19 (by decide) tf_732 wd_3246 cwX19_state ⟨Nat.le_of_ble_eq_true rfl, Nat.le_of_ble_eq_true rfl⟩ rfl hl.1 (Nat.le_of_ble_eq_true rfl) dX19_addAfter_16 rfl rfl ⟨Nat.zero_le _, Nat.zero_le _⟩ rfl (fun H locs hw => ?_)
    exact hb19 r20 r24 M22 L23 _ _ ls hD hw (lv_sub hl [1, 0] rfl)
  · replace hD := g_neg c21 hD
    refine lv_iconst (v := (-1)) C.1.1 C.1.2.1 dX19_addAfter_10 (by decide) ?_
    refine lv_goto (tgt := 19) C.1.1 C.1.2.1 dX19_addAfter_11 (by decide) ?_
    exact hb19 r20 ((-1)) M18 L19 _ _ ls hD hw (lv_sub hl [1, 0] rfl)

theorem dX19_addDatum_0 : decode cX19_addDatum 0 = .ok (.aload_n 0, 1) := by decide +kernel
theorem dX19_addDatum_1 : decode cX19_addDatum 1 = .ok (.iconst 3, 1) := by decide +kernel
theorem dX19_addDatum_2 : decode cX19_addDatum 2 = .ok (.invokevirtual 451, 3) := by decide +kernel
theorem dX19_addDatum_5 : decode cX19_addDatum 5 = .ok (.istore_n 1, 1) := by decide +kernel
theorem dX19_addDatum_6 : decode cX19_addDatum 6 = .ok (.iload_n 1, 1) := by decide +kernel
theorem dX19_addDatum_7 : decode cX19_addDatum 7 = .ok (.ifCond .lt 30, 3) := by decide +kernel
theorem dX19_addDatum_10 : decode cX19_addDatum 10 = .ok (.aload_n 0, 1) := by decide +kernel
theorem dX19_addDatum_11 : decode cX19_addDatum 11 = .ok (.invokevirtual 341, 3) := by decide +kernel
theorem dX19_addDatum_14 : decode cX19_addDatum 14 = .ok (.ifCond .eq 23, 3) := by decide +kernel
theorem dX19_addDatum_17 : decode cX19_addDatum 17 = .ok (.aload_n 0, 1) := by decide +kernel
theorem dX19_addDatum_18 : decode cX19_addDatum 18 = .ok (.aload_n 0, 1) := by decide +kernel
theorem dX19_addDatum_19 : decode cX19_addDatum 19 = .ok (.iload_n 1, 1) := by decide +kernel
theorem dX19_addDatum_20 : decode cX19_addDatum 20 = .ok (.invokevirtual 363, 3) := by decide +kernel
theorem dX19_addDatum_23 : decode cX19_addDatum 23 = .ok (.ifCond .lt 7, 3) := by decide +kernel
theorem dX19_addDatum_26 : decode cX19_addDatum 26 = .ok (.iconst 1, 1) := by decide +kernel
theorem dX19_addDatum_27 : decode cX19_addDatum 27 = .ok (.goto 4, 3) := by decide +kernel
theorem dX19_addDatum_30 : decode cX19_addDatum 30 = .ok (.iconst 0, 1) := by decide +kernel
theorem dX19_addDatum_31 : decode cX19_addDatum 31 = .ok (.invokevirtual 477, 3) := by decide +kernel
theorem dX19_addDatum_34 : decode cX19_addDatum 34 = .ok (.ifCond .ne 5, 3) := by decide +kernel
theorem dX19_addDatum_37 : decode cX19_addDatum 37 = .ok (.iconst 0, 1) := by decide +kernel
theorem dX19_addDatum_38 : decode cX19_addDatum 38 = .ok (.ireturn, 1) := by decide +kernel
theorem dX19_addDatum_39 : decode cX19_addDatum 39 = .ok (.aload_n 0, 1) := by decide +kernel
theorem dX19_addDatum_40 : decode cX19_addDatum 40 = .ok (.getfield 311, 3) := by decide +kernel
theorem dX19_addDatum_43 : decode cX19_addDatum 43 = .ok (.istore_n 2, 1) := by decide +kernel
theorem dX19_addDatum_44 : decode cX19_addDatum 44 = .ok (.aload_n 0, 1) := by decide +kernel
theorem dX19_addDatum_45 : decode cX19_addDatum 45 = .ok (.getfield 314, 3) := by decide +kernel
theorem dX19_addDatum_48 : decode cX19_addDatum 48 = .ok (.aload_n 0, 1) := by decide +kernel
theorem dX19_addDatum_49 : decode cX19_addDatum 49 = .ok (.getfield 311, 3) := by decide +kernel
theorem dX19_addDatum_52 : decode cX19_addDatum 52 = .ok (.isub, 1) := by decide +kernel
theorem dX19_addDatum_53 : decode cX19_addDatum 53 = .ok (.istore_n 3, 1) := by decide +kernel
theorem dX19_addDatum_54 : decode cX19_addDatum 54 = .ok (.aload_n 0, 1) := by decide +kernel
theorem dX19_addDatum_55 : decode cX19_addDatum 55 = .ok (.ldc_w 530, 3) := by decide +kernel
theorem dX19_addDatum_58 : decode cX19_addDatum 58 = .ok (.ldc_w 531, 3) := by decide +kernel
theorem dX19_addDatum_61 : decode cX19_addDatum 61 = .ok (.invokevirtual 454, 3) := by decide +kernel
theorem dX19_addDatum_64 : decode cX19_addDatum 64 = .ok (.ifCond .ne 5, 3) := by decide +kernel
theorem dX19_addDatum_67 : decode cX19_addDatum 67 = .ok (.iconst 0, 1) := by decide +kernel
theorem dX19_addDatum_68 : decode cX19_addDatum 68 = .ok (.ireturn, 1) := by decide +kernel
theorem dX19_addDatum_69 : decode cX19_addDatum 69 = .ok (.aload_n 0, 1) := by decide +kernel
theorem dX19_addDatum_70 : decode cX19_addDatum 70 = .ok (.getfield 338, 3) := by decide +kernel
theorem dX19_addDatum_73 : decode cX19_addDatum 73 = .ok (.istore 4, 2) := by decide +kernel
theorem dX19_addDatum_75 : decode cX19_addDatum 75 = .ok (.aload_n 0, 1) := by decide +kernel
theorem dX19_addDatum_76 : decode cX19_addDatum 76 = .ok (.invokevirtual 441, 3) := by decide +kernel
theorem dX19_addDatum_79 : decode cX19_addDatum 79 = .ok (.ifCond .ne 5, 3) := by decide +kernel
theorem dX19_addDatum_82 : decode cX19_addDatum 82 = .ok (.iconst 0, 1) := by decide +kernel
theorem dX19_addDatum_83 : decode cX19_addDatum 83 = .ok (.ireturn, 1) := by decide +kernel
theorem dX19_addDatum_84 : decode cX19_addDatum 84 = .ok (.aload_n 0, 1) := by decide +kernel
theorem dX19_addDatum_85 : decode cX19_addDatum 85 = .ok (.getfield 82, 3) := by decide +kernel
theorem dX19_addDatum_88 : decode cX19_addDatum 88 = .ok (.iload_n 1, 1) := by decide +kernel
theorem dX19_addDatum_89 : decode cX19_addDatum 89 = .ok (.iaload, 1) := by decide +kernel
theorem dX19_addDatum_90 : decode cX19_addDatum 90 = .ok (.bipush 32, 2) := by decide +kernel
theorem dX19_addDatum_92 : decode cX19_addDatum 92 = .ok (.if_icmp .ne 14, 3) := by decide +kernel
theorem dX19_addDatum_95 : decode cX19_addDatum 95 = .ok (.aload_n 0, 1) := by decide +kernel
theorem dX19_addDatum_96 : decode cX19_addDatum 96 = .ok (.bipush 6, 2) := by decide +kernel
theorem dX19_addDatum_98 : decode cX19_addDatum 98 = .ok (.aload_n 0, 1) := by decide +kernel
theorem dX19_addDatum_99 : decode cX19_addDatum 99 = .ok (.getfield 366, 3) := by decide +kernel
theorem dX19_addDatum_102 : decode cX19_addDatum 102 = .ok (.invokevirtual 321, 3) := by decide +kernel
theorem dX19_addDatum_105 : decode cX19_addDatum 105 = .ok (.ireturn, 1) := by decide +kernel
theorem dX19_addDatum_106 : decode cX19_addDatum 106 = .ok (.aload_n 0, 1) := by decide +kernel
theorem dX19_addDatum_107 : decode cX19_addDatum 107 = .ok (.getfield 217, 3) := by decide +kernel
theorem dX19_addDatum_110 : decode cX19_addDatum 110 = .ok (.iload_n 1, 1) := by decide +kernel
theorem dX19_addDatum_111 : decode cX19_addDatum 111 = .ok (.aaload, 1) := by decide +kernel
theorem dX19_addDatum_112 : decode cX19_addDatum 112 = .ok (.iload 4, 2) := by decide +kernel
theorem dX19_addDatum_114 : decode cX19_addDatum 114 = .ok (.i2l, 1) := by decide +kernel
theorem dX19_addDatum_115 : decode cX19_addDatum 115 = .ok (.invokevirtual 532, 3) := by decide +kernel
theorem dX19_addDatum_118 : decode cX19_addDatum 118 = .ok (.istore 5, 2) := by decide +kernel
theorem dX19_addDatum_120 : decode cX19_addDatum 120 = .ok (.aload_n 0, 1) := by decide +kernel
theorem dX19_addDatum_121 : decode cX19_addDatum 121 = .ok (.getfield 85, 3) := by decide +kernel
theorem dX19_addDatum_124 : decode cX19_addDatum 124 = .ok (.bipush 32, 2) := by decide +kernel
theorem dX19_addDatum_126 : decode cX19_addDatum 126 = .ok (.iload_n 1, 1) := by decide +kernel
theorem dX19_addDatum_127 : decode cX19_addDatum 127 = .ok (.imul, 1) := by decide +kernel
theorem dX19_addDatum_128 : decode cX19_addDatum 128 = .ok (.aload_n 0, 1) := by decide +kernel
theorem dX19_addDatum_129 : decode cX19_addDatum 129 = .ok (.getfield 82, 3) := by decide +kernel
theorem dX19_addDatum_132 : decode cX19_addDatum 132 = .ok (.iload_n 1, 1) := by decide +kernel
theorem dX19_addDatum_133 : decode cX19_addDatum 133 = .ok (.iaload, 1) := by decide +kernel
theorem dX19_addDatum_134 : decode cX19_addDatum 134 = .ok (.iadd, 1) := by decide +kernel
theorem dX19_addDatum_135 : decode cX19_addDatum 135 = .ok (.iload_n 2, 1) := by decide +kernel
theorem dX19_addDatum_136 : decode cX19_addDatum 136 = .ok (.iastore, 1) := by decide +kernel
theorem dX19_addDatum_137 : decode cX19_addDatum 137 = .ok (.aload_n 0, 1) := by decide +kernel
theorem dX19_addDatum_138 : decode cX19_addDatum 138 = .ok (.getfield 88, 3) := by decide +kernel
theorem dX19_addDatum_141 : decode cX19_addDatum 141 = .ok (.bipush 32, 2) := by decide +kernel
theorem dX19_addDatum_143 : decode cX19_addDatum 143 = .ok (.iload_n 1, 1) := by decide +kernel
theorem dX19_addDatum_144 : decode cX19_addDatum 144 = .ok (.imul, 1) := by decide +kernel
theorem dX19_addDatum_145 : decode cX19_addDatum 145 = .ok (.aload_n 0, 1) := by decide +kernel
theorem dX19_addDatum_146 : decode cX19_addDatum 146 = .ok (.getfield 82, 3) := by decide +kernel
theorem dX19_addDatum_149 : decode cX19_addDatum 149 = .ok (.iload_n 1, 1) := by decide +kernel
theorem dX19_addDatum_150 : decode cX19_addDatum 150 = .ok (.iaload, 1) := by decide +kernel
theorem dX19_addDatum_151 : decode cX19_addDatum 151 = .ok (.iadd, 1) := by decide +kernel
theorem dX19_addDatum_152 : decode cX19_addDatum 152 = .ok (.iload_n 3, 1) := by decide +kernel
theorem dX19_addDatum_153 : decode cX19_addDatum 153 = .ok (.iastore, 1) := by decide +kernel
theorem dX19_addDatum_154 : decode cX19_addDatum 154 = .ok (.aload_n 0, 1) := by decide +kernel
theorem dX19_addDatum_155 : decode cX19_addDatum 155 = .ok (.getfield 82, 3) := by decide +kernel
theorem dX19_addDatum_158 : decode cX19_addDatum 158 = .ok (.iload_n 1, 1) := by decide +kernel
theorem dX19_addDatum_159 : decode cX19_addDatum 159 = .ok (.dup2, 1) := by decide +kernel
theorem dX19_addDatum_160 : decode cX19_addDatum 160 = .ok (.iaload, 1) := by decide +kernel
theorem dX19_addDatum_161 : decode cX19_addDatum 161 = .ok (.iconst 1, 1) := by decide +kernel
theorem dX19_addDatum_162 : decode cX19_addDatum 162 = .ok (.iadd, 1) := by decide +kernel
theorem dX19_addDatum_163 : decode cX19_addDatum 163 = .ok (.iastore, 1) := by decide +kernel
theorem dX19_addDatum_164 : decode cX19_addDatum 164 = .ok (.iconst 1, 1) := by decide +kernel
theorem dX19_addDatum_165 : decode cX19_addDatum 165 = .ok (.ireturn, 1) := by decide +kernel
theorem cwX19_addDatum : mw_cwV yX19_addDatum cX19_addDatum 6 ((some .boolean)) 0 := ⟨⟨wd_13, wd_3323, by decide +kernel⟩, wd_3322, sl_181⟩
set_option maxHeartbeats 4000000 in
set_option maxRecDepth 100000 in
theorem tX19_addDatum (l : Launch) (G : mwG) (ad : Nat → Nat) (fu : Nat) (M : mwM) (L : mwL) {r0 : Int32} {M0 : mwM} {L0 : mwL} (hD : DX19_addDatum fu M L = some (r0, M0, L0)) : Met l yX19_addDatum (Cond.code yX19_addDatum cX19_addDatum 6 ((some .boolean)) :: GT) ({ frames := 3, cells := 0, slots := 0, locals := 68 }) (mw_Pre G ad NF TF FF M L [.ref (ad 732)]) (mw_Qi G ad NF TF FF (mw_eqI r0 M0 L0)) 0 0 (mw_fr G) := by
  refine mw_enter (by decide) (Nat.le_of_ble_eq_true rfl) ?_
  intro p e s m below meth c ls C hr hlocks hnm hw hl
  have hl : lv_has ls 6 [(0, .ref (ad 732))] := hl
  have hb37 : ∀ (M : mwM) (L : mwL) (H : Heap) (locs : List Loc) (ls : Array Slot), fX19_addDatum_b37 fu M L = some (r0, M0, L0) → mw_W G ad NF TF FF M L H locs → lv_has ls 6 [] → W p l e ({ frames := 3, cells := 0, slots := 0, locals := 68 }) s m [.ref (ad 732)].toArray below meth c H locs 0 0 (MQ below (mw_Qi G ad NF TF FF (mw_eqI r0 M0 L0)) [.ref (ad 732)].toArray s 0 0 (mw_fr G)) (F0 m 37 ls []) := by
    intro M L H locs ls hD hw hl
    unfold fX19_addDatum_b37 at hD
    refine lv_iconst (v := 0) C.1.1 C.1.2.1 dX19_addDatum_37 (by decide) ?_
    exact mr_iret C hr hlocks hw (by decide +kernel) (Option.some.inj hD) dX19_addDatum_38
  have hb31 : ∀ (v1 : Int32) (s1 : Int32) (M : mwM) (L : mwL) (H : Heap) (locs : List Loc) (ls : Array Slot), fX19_addDatum_b31 fu v1 s1 M L = some (r0, M0, L0) → mw_W G ad NF TF FF M L H locs → lv_has ls 6 [(0, .ref (ad 732)), (1, .int v1)] → W p l e ({ frames := 3, cells := 0, slots := 0, locals := 68 }) s m [.ref (ad 732)].toArray below meth c H locs 0 0 (MQ below (mw_Qi G ad NF TF FF (mw_eqI r0 M0 L0)) [.ref (ad 732)].toArray s 0 0 (mw_fr G)) (F0 m 31 ls [.int s1, .ref (ad 732)]) := by
    intro v1 s1 M L H locs ls hD hw hl
    unfold fX19_addDatum_b31 at hD
    obtain ⟨r3, M1, L2, h1, hD⟩ := g_b3 hD
    refine md_cvI (As := [.int s1]) (rest := []) C hw (tX19_newIn l G ad fu s1 M L h1) kc_19 (by decide) tf_732 wd_3237 cwX19_newIn ⟨Nat.le_of_ble_eq_true rfl, Nat.le_of_ble_eq_true rfl⟩ rfl hl.1 (Nat.le_of_ble_eq_true rfl) dX19_addDatum_31 rfl rfl ⟨Nat.zero_le _, Nat.zero_le _⟩ rfl (fun H locs hw => ?_)
    refine lv_if_ne (tgt := 39) C.1.1 C.1.2.1 dX19_addDatum_34 (by decide) (fun c4 => ?_) (fun c4 => ?_)
    · replace hD := g_neg c4 hD
      refine lv_aload_n C.1.1 C.1.2.1 dX19_addDatum_39 rfl (lv_at hl 0 rfl) ?_
      refine mr_getI C hw kc_19 9 (by decide) tf_732 wd_2790 dX19_addDatum_40 (by decide) rfl ?_
      obtain ⟨x5, ex5, hD⟩ := g_let hD
      refine W.eq (g2 := F0 m 43 ls (.int x5 :: [])) (by rw [ex5]) ?_
      refine lv_istore_n (lv' := [(2, .int x5), (0, .ref (ad 732)), (1, .int v1)]) C.1.1 C.1.2.1 dX19_addDatum_43 rfl hl (by decide) rfl (fun ls hl => ?_)
      refine lv_aload_n C.1.1 C.1.2.1 dX19_addDatum_44 rfl (lv_at hl 1 rfl) ?_
      refine mr_getI C hw kc_19 10 (by decide) tf_732 wd_2791 dX19_addDatum_45 (by decide) rfl ?_
      refine lv_aload_n C.1.1 C.1.2.1 dX19_addDatum_48 rfl (lv_at hl 1 rfl) ?_
      refine mr_getI C hw kc_19 9 (by decide) tf_732 wd_2790 dX19_addDatum_49 (by decide) rfl ?_
      refine lv_isub C.1.1 C.1.2.1 dX19_addDatum_52 ?_
      obtain ⟨x6, ex6, hD⟩ := g_let hD
      refine W.eq (g2 := F0 m 53 ls (.int x6 :: [])) (by rw [ex6]) ?_
      refine lv_istore_n (lv' := [(3, .int x6), (2, .int x5), (0, .ref (ad 732)), (1, .int v1)]) C.1.1 C.1.2.1 dX19_addDatum_53 rfl hl (by decide) rfl (fun ls hl => ?_)
      refine lv_aload_n C.1.1 C.1.2.1 dX19_addDatum_54 rfl (lv_at hl 2 rfl) ?_
      refine lv_ldcw (v := (-999999999)) C.1.1 C.1.2.1 C.1.2.2.2.1 (C.1.2.2.2.2 _ wd_3324) dX19_addDatum_55 ?_
      refine lv_ldcw (v := 999999999) C.1.1 C.1.2.1 C.1.2.2.2.1 (C.1.2.2.2.2 _ wd_3325) dX19_addDatum_58 ?_
      obtain ⟨r9, M7, L8, h1, hD⟩ := g_b3 hD
      refine md_cvI (As := [.int ((-999999999)), .int 999999999]) (rest := []) C hw (tX19_number l G ad fu ((-999999999)) 999999999 M1 L2 h1) kc_19 (by decide) tf_732 wd_3211 cwX19_number ⟨Nat.le_of_ble_eq_true rfl, Nat.le_of_ble_eq_true rfl⟩ rfl hl.1 (Nat.le_of_ble_eq_true rfl) dX19_addDatum_61 rfl rfl ⟨Nat.zero_le _, Nat.zero_le _⟩ rfl (fun H locs hw => ?_)
      refine lv_if_ne (tgt := 69) C.1.1 C.1.2.1 dX19_addDatum_64 (by decide) (fun c10 => ?_) (fun c10 => ?_)
      · replace hD := g_neg c10 hD
        refine lv_aload_n C.1.1 C.1.2.1 dX19_addDatum_69 rfl (lv_at hl 2 rfl) ?_
        refine mr_getI C hw kc_19 13 (by decide) tf_732 wd_2794 dX19_addDatum_70 (by decide) rfl ?_
        obtain ⟨x11, ex11, hD⟩ := g_let hD
        refine W.eq (g2 := F0 m 73 ls (.int x11 :: [])) (by rw [ex11]) ?_
        refine lv_istore (lv' := [(4, .int x11), (3, .int x6), (2, .int x5), (0, .ref (ad 732)), (1, .int v1)]) C.1.1 C.1.2.1 dX19_addDatum_73 hl (by decide) rfl (fun ls hl => ?_)
        refine lv_aload_n C.1.1 C.1.2.1 dX19_addDatum_75 rfl (lv_at hl 3 rfl) ?_
        obtain ⟨r14, M12, L13, h1, hD⟩ := g_b3 hD
        refine md_cvI (As := []) (rest := []) C hw (tX19_end l G ad fu M7 L8 h1) kc_19 (by decide) tf_732 wd_3194 cwX19_end ⟨Nat.le_of_ble_eq_true rfl, Nat.le_of_ble_eq_true rfl⟩ rfl hl.1 (Nat.le_of_ble_eq_true rfl) dX19_addDatum_76 rfl rfl ⟨Nat.zero_le _, Nat.zero_le _⟩ rfl (fun H locs hw => ?_)
        refine lv_if_ne (tgt := 84) C.1.1 C.1.2.1 dX19_addDatum_79 (by decide) (fun c15 => ?_) (fun c15 => ?_)
        · replace hD := g_neg c15 hD
          refine lv_aload_n C.1.1 C.1.2.1 dX19_addDatum_84 rfl (lv_at hl 3 rfl) ?_
          refine mr_getR C hw kc_19 42 (by decide) tf_732 ff_732_42 wd_2823 dX19_addDatum_85 (by decide) rfl ?_
          refine lv_iload_n C.1.1 C.1.2.1 dX19_addDatum_88 rfl (lv_at hl 4 rfl) ?_
          obtain ⟨q16, hD⟩ := g_ck hD
          refine mr_iald C hw (by decide) tf_757 q16 dX19_addDatum_89 ?_
          refine lv_bipush (v := 32) C.1.1 C.1.2.1 dX19_addDatum_90 (by decide) ?_
          refine lv_icmp_ne (tgt := 106) C.1.1 C.1.2.1 dX19_addDatum_92 (by decide) (fun c17 => ?_) (fun c17 => ?_)
          · replace hD := g_neg c17 hD
            refine lv_aload_n C.1.1 C.1.2.1 dX19_addDatum_106 rfl (lv_at hl 3 rfl) ?_
            refine mr_getR C hw kc_19 82 (by decide) tf_732 ff_732_82 wd_2863 dX19_addDatum_107 (by decide) rfl ?_
            refine lv_iload_n C.1.1 C.1.2.1 dX19_addDatum_110 rfl (lv_at hl 4 rfl) ?_
            obtain ⟨q18, hD⟩ := g_ck hD
            refine mr_aald C hw (by decide) tf_922 (by decide) (by decide) rfl rfl q18 (fr_922 _ (g_lt q18)) dX19_addDatum_111 ?_
            refine lv_iload C.1.1 C.1.2.1 dX19_addDatum_112 (lv_at hl 0 rfl) ?_
            refine lv_i2l C.1.1 C.1.2.1 dX19_addDatum_114 rfl ?_
            obtain ⟨r21, M19, L20, h1, hD⟩ := g_b3 hD
            refine md_cvI (As := [.long x11.toInt64]) (rest := []) C hw (tX13_data l G ad fu ((964 + 53 * v1.toNatClampNeg)) x11.toInt64 M12 L13 h1 (isMc_of (g_lt q18))) kc_13 (Mc_N0 (isMc_of (g_lt q18))) (Mc_T0 (isMc_of (g_lt q18))) wd_3326 cwX13_data ⟨Nat.le_of_ble_eq_true rfl, Nat.le_of_ble_eq_true rfl⟩ rfl hl.1 (Nat.le_of_ble_eq_true rfl) dX19_addDatum_115 rfl rfl ⟨Nat.zero_le _, Nat.zero_le _⟩ rfl (fun H locs hw => ?_)
            refine lv_istore (lv' := [(5, .int r21), (4, .int x11), (3, .int x6), (2, .int x5), (0, .ref (ad 732)), (1, .int v1)]) C.1.1 C.1.2.1 dX19_addDatum_118 hl (by decide) rfl (fun ls hl => ?_)
            refine lv_aload_n C.1.1 C.1.2.1 dX19_addDatum_120 rfl (lv_at hl 4 rfl) ?_
            refine mr_getR C hw kc_19 43 (by decide) tf_732 ff_732_43 wd_2824 dX19_addDatum_121 (by decide) rfl ?_
            refine lv_bipush (v := 32) C.1.1 C.1.2.1 dX19_addDatum_124 (by decide) ?_
            refine lv_iload_n C.1.1 C.1.2.1 dX19_addDatum_126 rfl (lv_at hl 5 rfl) ?_
            refine lv_imul C.1.1 C.1.2.1 dX19_addDatum_127 ?_
            refine lv_aload_n C.1.1 C.1.2.1 dX19_addDatum_128 rfl (lv_at hl 4 rfl) ?_
            refine mr_getR C hw kc_19 42 (by decide) tf_732 ff_732_42 wd_2823 dX19_addDatum_129 (by decide) rfl ?_
            refine lv_iload_n C.1.1 C.1.2.1 dX19_addDatum_132 rfl (lv_at hl 5 rfl) ?_
            obtain ⟨q22, hD⟩ := g_ck hD
            refine mr_iald C hw (by decide) tf_757 q22 dX19_addDatum_133 ?_
            refine lv_iadd C.1.1 C.1.2.1 dX19_addDatum_134 ?_
            refine lv_iload_n C.1.1 C.1.2.1 dX19_addDatum_135 rfl (lv_at hl 3 rfl) ?_
            obtain ⟨q23, hD⟩ := g_ck hD
            obtain ⟨M24, eM24, hD⟩ := g_let hD
            refine mr_iast C hw (by decide) tf_758 q23 dX19_addDatum_136 (fun H locs hw => ?_)
            replace hw : mw_W G ad NF TF FF M24 L20 H locs := by rw [eM24]; exact hw
            refine lv_aload_n C.1.1 C.1.2.1 dX19_addDatum_137 rfl (lv_at hl 4 rfl) ?_
            refine mr_getR C hw kc_19 44 (by decide) tf_732 ff_732_44 wd_2825 dX19_addDatum_138 (by decide) rfl ?_
            refine lv_bipush (v := 32) C.1.1 C.1.2.1 dX19_addDatum_141 (by decide) ?_
            refine lv_iload_n C.1.1 C.1.2.1 dX19_addDatum_143 rfl (lv_at hl 5 rfl) ?_
            refine lv_imul C.1.1 C.1.2.1 dX19_addDatum_144 ?_
            refine lv_aload_n C.1.1 C.1.2.1 dX19_addDatum_145 rfl (lv_at hl 4 rfl) ?_
            refine mr_getR C hw kc_19 42 (by decide) tf_732 ff_732_42 wd_2823 dX19_addDatum_146 (by decide) rfl ?_
            refine lv_iload_n C.1.1 C.1.2.1 dX19_addDatum_149 rfl (lv_at hl 5 rfl) ?_
            obtain ⟨q25, hD⟩ := g_ck hD
            refine mr_iald C hw (by decide) tf_757 q25 dX19_addDatum_150 ?_
            refine lv_iadd C.1.1 C.1.2.1 dX19_addDatum_151 ?_
            refine lv_iload_n C.1.1 C.1.2.1 dX19_addDatum_152 rfl (lv_at hl 2 rfl) ?_
            obtain ⟨q26, hD⟩ := g_ck hD
            obtain ⟨M27, eM27, hD⟩ := g_let hD
            refine mr_iast C hw (by decide) tf_759 q26 dX19_addDatum_153 (fun H locs hw => ?_)
            replace hw : mw_W G ad NF TF FF M27 L20 H locs := by rw [eM27]; exact hw
            refine lv_aload_n C.1.1 C.1.2.1 dX19_addDatum_154 rfl (lv_at hl 4 rfl) ?_
            refine mr_getR C hw kc_19 42 (by decide) tf_732 ff_732_42 wd_2823 dX19_addDatum_155 (by decide) rfl ?_
            refine lv_iload_n C.1.1 C.1.2.1 dX19_addDatum_158 rfl (lv_at hl 5 rfl) ?_
            refine lv_dup2_11 C.1.1 C.1.2.1 dX19_addDatum_159 rfl rfl ?_
            obtain ⟨q28, hD⟩ := g_ck hD
            refine mr_iald C hw (by decide) tf_757 q28 dX19_addDatum_160 ?_
            refine lv_iconst (v := 1) C.1.1 C.1.2.1 dX19_addDatum_161 (by decide) ?_
            refine lv_iadd C.1.1 C.1.2.1 dX19_addDatum_162 ?_
            obtain ⟨q29, hD⟩ := g_ck hD
            obtain ⟨M30, eM30, hD⟩ := g_let hD
            refine mr_iast C hw (by decide) tf_757 q29 dX19_addDatum_163 (fun H locs hw => ?_)
            replace hw : mw_W G ad NF TF FF M30 L20 H locs := by rw [eM30]; exact hw
            refine lv_iconst (v := 1) C.1.1 C.1.2.1 dX19_addDatum_164 (by decide) ?_
            exact mr_iret C hr hlocks hw (by decide +kernel) (Option.some.inj hD) dX19_addDatum_165
          · replace hD := g_pos c17 hD
            refine lv_aload_n C.1.1 C.1.2.1 dX19_addDatum_95 rfl (lv_at hl 3 rfl) ?_
            refine lv_bipush (v := 6) C.1.1 C.1.2.1 dX19_addDatum_96 (by decide) ?_
            refine lv_aload_n C.1.1 C.1.2.1 dX19_addDatum_98 rfl (lv_at hl 3 rfl) ?_
            refine mr_getI C hw kc_19 8 (by decide) tf_732 wd_2789 dX19_addDatum_99 (by decide) rfl ?_
            obtain ⟨r33, M31, L32, h1, hD⟩ := g_b3 hD
            refine md_cvI (As := [.int 6, .int (M12 732 8)]) (rest := []) C hw (tX19_fail l G ad fu 6 (M12 732 8) M12 L13 h1) kc_19 (by decide) tf_732 wd_3172 cwX19_fail ⟨Nat.le_of_ble_eq_true rfl, Nat.le_of_ble_eq_true rfl⟩ rfl hl.1 (Nat.le_of_ble_eq_true rfl) dX19_addDatum_102 rfl rfl ⟨Nat.zero_le _, Nat.zero_le _⟩ rfl (fun H locs hw => ?_)
            obtain ⟨z34, hD⟩ := g_zz hD
            exact mr_iret C hr hlocks hw (nz_zz z34) (Option.some.inj hD) dX19_addDatum_105
        · replace hD := g_pos c15 hD
          refine lv_iconst (v := 0) C.1.1 C.1.2.1 dX19_addDatum_82 (by decide) ?_
          exact mr_iret C hr hlocks hw (by decide +kernel) (Option.some.inj hD) dX19_addDatum_83
      · replace hD := g_pos c10 hD
        refine lv_iconst (v := 0) C.1.1 C.1.2.1 dX19_addDatum_67 (by decide) ?_
        exact mr_iret C hr hlocks hw (by decide +kernel) (Option.some.inj hD) dX19_addDatum_68
    · replace hD := g_pos c4 hD
      exact hb37 M1 L2 _ _ ls hD hw (lv_sub hl [] rfl)
  unfold DX19_addDatum at hD
  refine lv_aload_n C.1.1 C.1.2.1 dX19_addDatum_0 rfl (lv_at hl 0 rfl) ?_
  refine lv_iconst (v := 3) C.1.1 C.1.2.1 dX19_addDatum_1 (by decide) ?_
  obtain ⟨r37, M35, L36, h1, hD⟩ := g_b3 hD
  refine md_cvI (As := [.int 3]) (rest := []) C hw (tX19_named l G ad fu 3 M L h1) kc_19 (by decide) tf_732 wd_3207 cwX19_named ⟨Nat.le_of_ble_eq_true rfl, Nat.le_of_ble_eq_true rfl⟩ rfl hl.1 (Nat.le_of_ble_eq_true rfl) dX19_addDatum_2 rfl rfl ⟨Nat.zero_le _, Nat.zero_le _⟩ rfl (fun H locs hw => ?_)
  refine lv_istore_n (lv' := [(1, .int r37), (0, .ref (ad 732))]) C.1.1 C.1.2.1 dX19_addDatum_5 rfl hl (by decide) rfl (fun ls hl => ?_)
  refine lv_iload_n C.1.1 C.1.2.1 dX19_addDatum_6 rfl (lv_at hl 0 rfl) ?_
  refine lv_if_lt (tgt := 37) C.1.1 C.1.2.1 dX19_addDatum_7 (by decide) (fun c38 => ?_) (fun c38 => ?_)
  · replace hD := g_pos c38 hD
    exact hb37 M35 L36 _ _ ls hD hw (lv_sub hl [] rfl)
  · replace hD := g_neg c38 hD
    refine lv_aload_n C.1.1 C.1.2.1 dX19_addDatum_10 rfl (lv_at hl 1 rfl) ?_
    obtain ⟨r41, M39, L40, h1, hD⟩ := g_b3 hD
    refine md_cvI (As := []) (rest := []) C hw (tX19_must l G ad fu M35 L36 h1) kc_19 (by decide) tf_732 wd_3168 cwX19_must ⟨Nat.le_of_ble_eq_true rfl, Nat.le_of_ble_eq_true rfl⟩ rfl hl.1 (Nat.le_of_ble_eq_true rfl) dX19_addDatum_11 rfl rfl ⟨Nat.zero_le _, Nat.zero_le _⟩ rfl (fun H locs hw => ?_)
    refine lv_if_eq (tgt := 37) C.1.1 C.1.2.1 dX19_addDatum_14 (by decide) (fun c42 => ?_) (fun c42 => ?_)
    · replace hD := g_pos c42 hD
      exact hb37 M39 L40 _ _ ls hD hw (lv_sub hl [] rfl)
    · replace hD := g_neg c42 hD
      refine lv_aload_n C.1.1 C.1.2.1 dX19_addDatum_17 rfl (lv_at hl 1 rfl) ?_
      refine lv_aload_n C.1.1 C.1.2.1 dX19_addDatum_18 rfl (lv_at hl 1 rfl) ?_
      refine lv_iload_n C.1.1 C.1.2.1 dX19_addDatum_19 rfl (lv_at hl 0 rfl) ?_
      obtain ⟨r45, M43, L44, h1, hD⟩ := g_b3 hD
      refine md_cvI (As := [.int r37]) (rest := [.ref (ad 732)]) C hw (tX19_findDatum l G ad fu r37 M39 L40 h1) kc_19 (by decide) tf_732 wd_3291 cwX19_findDatum ⟨Nat.le_of_ble_eq_true rfl, Nat.le_of_ble_eq_true rfl⟩ rfl hl.1 (Nat.le_of_ble_eq_true rfl) dX19_addDatum_20 rfl rfl ⟨Nat.zero_le _, Nat.zero_le _⟩ rfl (fun H locs hw => ?_)
      refine lv_if_lt (tgt := 30) C.1.1 C.1.2.1 dX19_addDatum_23 (by decide) (fun c46 => ?_) (fun c46 => ?_)
      · replace hD := g_pos c46 hD
        refine lv_iconst (v := 0) C.1.1 C.1.2.1 dX19_addDatum_30 (by decide) ?_
        exact hb31 r37 0 M43 L44 _ _ ls hD hw (lv_sub hl [1, 0] rfl)
      · replace hD := g_neg c46 hD
        refine lv_iconst (v := 1) C.1.1 C.1.2.1 dX19_addDatum_26 (by decide) ?_
        refine lv_goto (tgt := 31) C.1.1 C.1.2.1 dX19_addDatum_27 (by decide) ?_
        exact hb31 r37 1 M43 L44 _ _ ls hD hw (lv_sub hl [1, 0] rfl)

theorem dX19_addAct_0 : decode cX19_addAct 0 = .ok (.aload_n 0, 1) := by decide +kernel
theorem dX19_addAct_1 : decode cX19_addAct 1 = .ok (.iconst 3, 1) := by decide +kernel
theorem dX19_addAct_2 : decode cX19_addAct 2 = .ok (.invokevirtual 451, 3) := by decide +kernel
theorem dX19_addAct_5 : decode cX19_addAct 5 = .ok (.istore_n 2, 1) := by decide +kernel
theorem dX19_addAct_6 : decode cX19_addAct 6 = .ok (.iload_n 2, 1) := by decide +kernel
theorem dX19_addAct_7 : decode cX19_addAct 7 = .ok (.ifCond .ge 7, 3) := by decide +kernel
theorem dX19_addAct_10 : decode cX19_addAct 10 = .ok (.iconst (-1), 1) := by decide +kernel
theorem dX19_addAct_11 : decode cX19_addAct 11 = .ok (.goto 22, 3) := by decide +kernel
theorem dX19_addAct_14 : decode cX19_addAct 14 = .ok (.iload_n 1, 1) := by decide +kernel
theorem dX19_addAct_15 : decode cX19_addAct 15 = .ok (.iconst 2, 1) := by decide +kernel
theorem dX19_addAct_16 : decode cX19_addAct 16 = .ok (.if_icmp .ne 12, 3) := by decide +kernel
theorem dX19_addAct_19 : decode cX19_addAct 19 = .ok (.aload_n 0, 1) := by decide +kernel
theorem dX19_addAct_20 : decode cX19_addAct 20 = .ok (.getfield 61, 3) := by decide +kernel
theorem dX19_addAct_23 : decode cX19_addAct 23 = .ok (.iload_n 2, 1) := by decide +kernel
theorem dX19_addAct_24 : decode cX19_addAct 24 = .ok (.iaload, 1) := by decide +kernel
theorem dX19_addAct_25 : decode cX19_addAct 25 = .ok (.goto 8, 3) := by decide +kernel
theorem dX19_addAct_28 : decode cX19_addAct 28 = .ok (.aload_n 0, 1) := by decide +kernel
theorem dX19_addAct_29 : decode cX19_addAct 29 = .ok (.iload_n 2, 1) := by decide +kernel
theorem dX19_addAct_30 : decode cX19_addAct 30 = .ok (.invokevirtual 485, 3) := by decide +kernel
theorem dX19_addAct_33 : decode cX19_addAct 33 = .ok (.istore_n 3, 1) := by decide +kernel
theorem dX19_addAct_34 : decode cX19_addAct 34 = .ok (.iload_n 3, 1) := by decide +kernel
theorem dX19_addAct_35 : decode cX19_addAct 35 = .ok (.ifCond .ge 7, 3) := by decide +kernel
theorem dX19_addAct_38 : decode cX19_addAct 38 = .ok (.iconst (-1), 1) := by decide +kernel
theorem dX19_addAct_39 : decode cX19_addAct 39 = .ok (.goto 8, 3) := by decide +kernel
theorem dX19_addAct_42 : decode cX19_addAct 42 = .ok (.aload_n 0, 1) := by decide +kernel
theorem dX19_addAct_43 : decode cX19_addAct 43 = .ok (.iload_n 2, 1) := by decide +kernel
theorem dX19_addAct_44 : decode cX19_addAct 44 = .ok (.invokevirtual 511, 3) := by decide +kernel
theorem dX19_addAct_47 : decode cX19_addAct 47 = .ok (.istore 4, 2) := by decide +kernel
theorem dX19_addAct_49 : decode cX19_addAct 49 = .ok (.iload 4, 2) := by decide +kernel
theorem dX19_addAct_51 : decode cX19_addAct 51 = .ok (.ifCond .lt 16, 3) := by decide +kernel
theorem dX19_addAct_54 : decode cX19_addAct 54 = .ok (.aload_n 0, 1) := by decide +kernel
theorem dX19_addAct_55 : decode cX19_addAct 55 = .ok (.ldc_w 530, 3) := by decide +kernel
theorem dX19_addAct_58 : decode cX19_addAct 58 = .ok (.ldc_w 531, 3) := by decide +kernel
theorem dX19_addAct_61 : decode cX19_addAct 61 = .ok (.invokevirtual 454, 3) := by decide +kernel
theorem dX19_addAct_64 : decode cX19_addAct 64 = .ok (.ifCond .ne 5, 3) := by decide +kernel
theorem dX19_addAct_67 : decode cX19_addAct 67 = .ok (.iconst 0, 1) := by decide +kernel
theorem dX19_addAct_68 : decode cX19_addAct 68 = .ok (.ireturn, 1) := by decide +kernel
theorem dX19_addAct_69 : decode cX19_addAct 69 = .ok (.aload_n 0, 1) := by decide +kernel
theorem dX19_addAct_70 : decode cX19_addAct 70 = .ok (.getfield 338, 3) := by decide +kernel
theorem dX19_addAct_73 : decode cX19_addAct 73 = .ok (.istore 5, 2) := by decide +kernel
theorem dX19_addAct_75 : decode cX19_addAct 75 = .ok (.aload_n 0, 1) := by decide +kernel
theorem dX19_addAct_76 : decode cX19_addAct 76 = .ok (.ldc2_w 535, 3) := by decide +kernel
theorem dX19_addAct_79 : decode cX19_addAct 79 = .ok (.invokevirtual 481, 3) := by decide +kernel
theorem dX19_addAct_82 : decode cX19_addAct 82 = .ok (.istore 6, 2) := by decide +kernel
theorem dX19_addAct_84 : decode cX19_addAct 84 = .ok (.aload_n 0, 1) := by decide +kernel
theorem dX19_addAct_85 : decode cX19_addAct 85 = .ok (.invokevirtual 441, 3) := by decide +kernel
theorem dX19_addAct_88 : decode cX19_addAct 88 = .ok (.ifCond .eq 41, 3) := by decide +kernel
theorem dX19_addAct_91 : decode cX19_addAct 91 = .ok (.aload_n 0, 1) := by decide +kernel
theorem dX19_addAct_92 : decode cX19_addAct 92 = .ok (.aload_n 0, 1) := by decide +kernel
theorem dX19_addAct_93 : decode cX19_addAct 93 = .ok (.getfield 217, 3) := by decide +kernel
theorem dX19_addAct_96 : decode cX19_addAct 96 = .ok (.iload_n 2, 1) := by decide +kernel
theorem dX19_addAct_97 : decode cX19_addAct 97 = .ok (.aaload, 1) := by decide +kernel
theorem dX19_addAct_98 : decode cX19_addAct 98 = .ok (.iload_n 3, 1) := by decide +kernel
theorem dX19_addAct_99 : decode cX19_addAct 99 = .ok (.iload 6, 2) := by decide +kernel
theorem dX19_addAct_101 : decode cX19_addAct 101 = .ok (.ifCond .eq 9, 3) := by decide +kernel
theorem dX19_addAct_104 : decode cX19_addAct 104 = .ok (.iload_n 1, 1) := by decide +kernel
theorem dX19_addAct_105 : decode cX19_addAct 105 = .ok (.iconst 3, 1) := by decide +kernel
theorem dX19_addAct_106 : decode cX19_addAct 106 = .ok (.iadd, 1) := by decide +kernel
theorem dX19_addAct_107 : decode cX19_addAct 107 = .ok (.goto 4, 3) := by decide +kernel
theorem dX19_addAct_110 : decode cX19_addAct 110 = .ok (.iload_n 1, 1) := by decide +kernel
theorem dX19_addAct_111 : decode cX19_addAct 111 = .ok (.iload 4, 2) := by decide +kernel
theorem dX19_addAct_113 : decode cX19_addAct 113 = .ok (.iload 5, 2) := by decide +kernel
theorem dX19_addAct_115 : decode cX19_addAct 115 = .ok (.i2l, 1) := by decide +kernel
theorem dX19_addAct_116 : decode cX19_addAct 116 = .ok (.invokevirtual 537, 3) := by decide +kernel
theorem dX19_addAct_119 : decode cX19_addAct 119 = .ok (.invokevirtual 494, 3) := by decide +kernel
theorem dX19_addAct_122 : decode cX19_addAct 122 = .ok (.ifCond .eq 7, 3) := by decide +kernel
theorem dX19_addAct_125 : decode cX19_addAct 125 = .ok (.iconst 1, 1) := by decide +kernel
theorem dX19_addAct_126 : decode cX19_addAct 126 = .ok (.goto 4, 3) := by decide +kernel
theorem dX19_addAct_129 : decode cX19_addAct 129 = .ok (.iconst 0, 1) := by decide +kernel
theorem dX19_addAct_130 : decode cX19_addAct 130 = .ok (.ireturn, 1) := by decide +kernel
theorem cwX19_addAct : mw_cwV yX19_addAct cX19_addAct 7 ((some .boolean)) 1 := ⟨⟨wd_13, wd_3334, by decide +kernel⟩, wd_3333, sl_182⟩
set_option maxHeartbeats 4000000 in
set_option maxRecDepth 100000 in
theorem tX19_addAct (l : Launch) (G : mwG) (ad : Nat → Nat) (fu : Nat) (a1 : Int32) (M : mwM) (L : mwL) {r0 : Int32} {M0 : mwM} {L0 : mwL} (hD : DX19_addAct fu a1 M L = some (r0, M0, L0)) : Met l yX19_addAct (Cond.code yX19_addAct cX19_addAct 7 ((some .boolean)) :: GT) ({ frames := 3, cells := 0, slots := 0, locals := 69 }) (mw_Pre G ad NF TF FF M L [.ref (ad 732), .int a1]) (mw_Qi G ad NF TF FF (mw_eqI r0 M0 L0)) 0 0 (mw_fr G) := by
  refine mw_enter (by decide) (Nat.le_of_ble_eq_true rfl) ?_
  intro p e s m below meth c ls C hr hlocks hnm hw hl
  have hl : lv_has ls 7 [(0, .ref (ad 732)), (1, .int a1)] := hl
  have hb67 : ∀ (M : mwM) (L : mwL) (H : Heap) (locs : List Loc) (ls : Array Slot), fX19_addAct_b67 fu a1 M L = some (r0, M0, L0) → mw_W G ad NF TF FF M L H locs → lv_has ls 7 [] → W p l e ({ frames := 3, cells := 0, slots := 0, locals := 69 }) s m [.ref (ad 732), .int a1].toArray below meth c H locs 0 0 (MQ below (mw_Qi G ad NF TF FF (mw_eqI r0 M0 L0)) [.ref (ad 732), .int a1].toArray s 0 0 (mw_fr G)) (F0 m 67 ls []) := by
    intro M L H locs ls hD hw hl
    unfold fX19_addAct_b67 at hD
    refine lv_iconst (v := 0) C.1.1 C.1.2.1 dX19_addAct_67 (by decide) ?_
    exact mr_iret C hr hlocks hw (by decide +kernel) (Option.some.inj hD) dX19_addAct_68
  have hb130 : ∀ (s0 : Int32) (M : mwM) (L : mwL) (H : Heap) (locs : List Loc) (ls : Array Slot), fX19_addAct_b130 fu a1 s0 M L = some (r0, M0, L0) → mw_W G ad NF TF FF M L H locs → lv_has ls 7 [] → W p l e ({ frames := 3, cells := 0, slots := 0, locals := 69 }) s m [.ref (ad 732), .int a1].toArray below meth c H locs 0 0 (MQ below (mw_Qi G ad NF TF FF (mw_eqI r0 M0 L0)) [.ref (ad 732), .int a1].toArray s 0 0 (mw_fr G)) (F0 m 130 ls [.int s0]) := by
    intro s0 M L H locs ls hD hw hl
    unfold fX19_addAct_b130 at hD
    obtain ⟨z27, hD⟩ := g_zz hD
    exact mr_iret C hr hlocks hw (nz_zz z27) (Option.some.inj hD) dX19_addAct_130
  have hb129 : ∀ (M : mwM) (L : mwL) (H : Heap) (locs : List Loc) (ls : Array Slot), fX19_addAct_b129 fu a1 M L = some (r0, M0, L0) → mw_W G ad NF TF FF M L H locs → lv_has ls 7 [] → W p l e ({ frames := 3, cells := 0, slots := 0, locals := 69 }) s m [.ref (ad 732), .int a1].toArray below meth c H locs 0 0 (MQ below (mw_Qi G ad NF TF FF (mw_eqI r0 M0 L0)) [.ref (ad 732), .int a1].toArray s 0 0 (mw_fr G)) (F0 m 129 ls []) := by
    intro M L H locs ls hD hw hl
    unfold fX19_addAct_b129 at hD
    refine lv_iconst (v := 0) C.1.1 C.1.2.1 dX19_addAct_129 (by decide) ?_
    exact hb130 0 M L _ _ ls hD hw (lv_sub hl [] rfl)
  have hb111 : ∀ (v4 : Int32) (v5 : Int32) (s1 : Nat) (s2 : Int32) (s3 : Int32) (M : mwM) (L : mwL) (H : Heap) (locs : List Loc) (ls : Array Slot), fX19_addAct_b111 fu a1 v4 v5 s1 s2 s3 M L = some (r0, M0, L0) → isMc s1 → mw_W G ad NF TF FF M L H locs → lv_has ls 7 [(4, .int v4), (5, .int v5)] → W p l e ({ frames := 3, cells := 0, slots := 0, locals := 69 }) s m [.ref (ad 732), .int a1].toArray below meth c H locs 0 0 (MQ below (mw_Qi G ad NF TF FF (mw_eqI r0 M0 L0)) [.ref (ad 732), .int a1].toArray s 0 0 (mw_fr G)) (F0 m 111 ls [.int s3, .int s2, .ref (ad s1), .ref (ad 732)]) := by
    intro v4 v5 s1 s2 s3 M L H locs ls hD hs1 hw hl
    unfold fX19_addAct_b111 at hD
    refine lv_iload C.1.1 C.1.2.1 dX19_addAct_111 (lv_at hl 0 rfl) ?_
    refine lv_iload C.1.1 C.1.2.1 dX19_addAct_113 (lv_at hl 1 rfl) ?_
    refine lv_i2l C.1.1 C.1.2.1 dX19_addAct_115 rfl ?_
    obtain ⟨r22, M20, L21, h1, hD⟩ := g_b3 hD
    refine md_cvI (As := [.int s2, .int s3, .int v4, .long v5.toInt64]) (rest := [.ref (ad 732)]) C hw (tX13_act l G ad fu s1 s2 s3 v4 v5.toInt64 M L h1 hs1) kc_13 (Mc_N0 hs1) (Mc_T0 hs1) wd_3336 cwX13_act ⟨Nat.le_of_ble_eq_true rfl, Nat.le_of_ble_eq_true rfl⟩ rfl hl.1 (Nat.le_of_ble_eq_true rfl) dX19_addAct_116 rfl rfl ⟨Nat.zero_le _, Nat.zero_le _⟩ rfl (fun H locs hw => ?_)
    obtain ⟨r25, M23, L24, h1, hD⟩ := g_b3 hD
    refine md_cvI (As := [.int r22]) (rest := []) C hw (tX19_fits l G ad fu r22 M20 L21 h1) kc_19 (by decide) tf_732 wd_3272 cwX19_fits ⟨Nat.le_of_ble_eq_true rfl, Nat.le_of_ble_eq_true rfl⟩ rfl hl.1 (Nat.le_of_ble_eq_true rfl) dX19_addAct_119 rfl rfl ⟨Nat.zero_le _, Nat.zero_le _⟩ rfl (fun H locs hw => ?_)
    refine lv_if_eq (tgt := 129) C.1.1 C.1.2.1 dX19_addAct_122 (by decide) (fun c26 => ?_) (fun c26 => ?_)
    · replace hD := g_pos c26 hD
      exact hb129 M23 L24 _ _ ls hD hw (lv_sub hl [] rfl)
    · replace hD := g_neg c26 hD
      refine lv_iconst (v := 1) C.1.1 C.1.2.1 dX19_addAct_125 (by decide) ?_
      refine lv_goto (tgt := 130) C.1.1 C.1.2.1 dX19_addAct_126 (by decide) ?_
      exact hb130 1 M23 L24 _ _ ls hD hw (lv_sub hl [] rfl)
  have hb47 : ∀ (v2 : Int32) (v3 : Int32) (s0 : Int32) (M : mwM) (L : mwL) (H : Heap) (locs : List Loc) (ls : Array Slot), fX19_addAct_b47 fu a1 v2 v3 s0 M L = some (r0, M0, L0) → mw_W G ad NF TF FF M L H locs → lv_has ls 7 [(0, .ref (ad 732)), (1, .int a1), (2, .int v2), (3, .int v3)] → W p l e ({ frames := 3, cells := 0, slots := 0, locals := 69 }) s m [.ref (ad 732), .int a1].toArray below meth c H locs 0 0 (MQ below (mw_Qi G ad NF TF FF (mw_eqI r0 M0 L0)) [.ref (ad 732), .int a1].toArray s 0 0 (mw_fr G)) (F0 m 47 ls [.int s0]) := by
    intro v2 v3 s0 M L H locs ls hD hw hl
    unfold fX19_addAct_b47 at hD
    refine lv_istore (lv' := [(4, .int s0), (0, .ref (ad 732)), (1, .int a1), (2, .int v2), (3, .int v3)]) C.1.1 C.1.2.1 dX19_addAct_47 hl (by decide) rfl (fun ls hl => ?_)
    refine lv_iload C.1.1 C.1.2.1 dX19_addAct_49 (lv_at hl 0 rfl) ?_
    refine lv_if_lt (tgt := 67) C.1.1 C.1.2.1 dX19_addAct_51 (by decide) (fun c5 => ?_) (fun c5 => ?_)
    · replace hD := g_pos c5 hD
      exact hb67 M L _ _ ls hD hw (lv_sub hl [] rfl)
    · replace hD := g_neg c5 hD
      refine lv_aload_n C.1.1 C.1.2.1 dX19_addAct_54 rfl (lv_at hl 1 rfl) ?_
      refine lv_ldcw (v := (-999999999)) C.1.1 C.1.2.1 C.1.2.2.2.1 (C.1.2.2.2.2 _ wd_3324) dX19_addAct_55 ?_
      refine lv_ldcw (v := 999999999) C.1.1 C.1.2.1 C.1.2.2.2.1 (C.1.2.2.2.2 _ wd_3325) dX19_addAct_58 ?_
      obtain ⟨r8, M6, L7, h1, hD⟩ := g_b3 hD
      refine md_cvI (As := [.int ((-999999999)), .int 999999999]) (rest := []) C hw (tX19_number l G ad fu ((-999999999)) 999999999 M L h1) kc_19 (by decide) tf_732 wd_3211 cwX19_number ⟨Nat.le_of_ble_eq_true rfl, Nat.le_of_ble_eq_true rfl⟩ rfl hl.1 (Nat.le_of_ble_eq_true rfl) dX19_addAct_61 rfl rfl ⟨Nat.zero_le _, Nat.zero_le _⟩ rfl (fun H locs hw => ?_)
      refine lv_if_ne (tgt := 69) C.1.1 C.1.2.1 dX19_addAct_64 (by decide) (fun c9 => ?_) (fun c9 => ?_)
      · replace hD := g_neg c9 hD
        refine lv_aload_n C.1.1 C.1.2.1 dX19_addAct_69 rfl (lv_at hl 1 rfl) ?_
        refine mr_getI C hw kc_19 13 (by decide) tf_732 wd_2794 dX19_addAct_70 (by decide) rfl ?_
        obtain ⟨x10, ex10, hD⟩ := g_let hD
        refine W.eq (g2 := F0 m 73 ls (.int x10 :: [])) (by rw [ex10]) ?_
        refine lv_istore (lv' := [(5, .int x10), (4, .int s0), (0, .ref (ad 732)), (1, .int a1), (2, .int v2), (3, .int v3)]) C.1.1 C.1.2.1 dX19_addAct_73 hl (by decide) rfl (fun ls hl => ?_)
        refine lv_aload_n C.1.1 C.1.2.1 dX19_addAct_75 rfl (lv_at hl 2 rfl) ?_
        refine lv_ldc2 (v := 1701998445) C.1.1 C.1.2.1 C.1.2.2.2.1 (C.1.2.2.2.2 _ wd_3335) dX19_addAct_76 ?_
        obtain ⟨r13, M11, L12, h1, hD⟩ := g_b3 hD
        refine md_cvI (As := [.long 1701998445]) (rest := []) C hw (tX19_takes l G ad fu 1701998445 M6 L7 h1) kc_19 (by decide) tf_732 wd_3242 cwX19_takes ⟨Nat.le_of_ble_eq_true rfl, Nat.le_of_ble_eq_true rfl⟩ rfl hl.1 (Nat.le_of_ble_eq_true rfl) dX19_addAct_79 rfl rfl ⟨Nat.zero_le _, Nat.zero_le _⟩ rfl (fun H locs hw => ?_)
        refine lv_istore (lv' := [(6, .int r13), (5, .int x10), (4, .int s0), (0, .ref (ad 732)), (1, .int a1), (2, .int v2), (3, .int v3)]) C.1.1 C.1.2.1 dX19_addAct_82 hl (by decide) rfl (fun ls hl => ?_)
        refine lv_aload_n C.1.1 C.1.2.1 dX19_addAct_84 rfl (lv_at hl 3 rfl) ?_
        obtain ⟨r16, M14, L15, h1, hD⟩ := g_b3 hD
        refine md_cvI (As := []) (rest := []) C hw (tX19_end l G ad fu M11 L12 h1) kc_19 (by decide) tf_732 wd_3194 cwX19_end ⟨Nat.le_of_ble_eq_true rfl, Nat.le_of_ble_eq_true rfl⟩ rfl hl.1 (Nat.le_of_ble_eq_true rfl) dX19_addAct_85 rfl rfl ⟨Nat.zero_le _, Nat.zero_le _⟩ rfl (fun H locs hw => ?_)
        refine lv_if_eq (tgt := 129) C.1.1 C.1.2.1 dX19_addAct_88 (by decide) (fun c17 => ?_) (fun c17 => ?_)
        · replace hD := g_pos c17 hD
          exact hb129 M14 L15 _ _ ls hD hw (lv_sub hl [] rfl)
        · replace hD := g_neg c17 hD
          refine lv_aload_n C.1.1 C.1.2.1 dX19_addAct_91 rfl (lv_at hl 3 rfl) ?_
          refine lv_aload_n C.1.1 C.1.2.1 dX19_addAct_92 rfl (lv_at hl 3 rfl) ?_
          refine mr_getR C hw kc_19 82 (by decide) tf_732 ff_732_82 wd_2863 dX19_addAct_93 (by decide) rfl ?_
          refine lv_iload_n C.1.1 C.1.2.1 dX19_addAct_96 rfl (lv_at hl 5 rfl) ?_
          obtain ⟨q18, hD⟩ := g_ck hD
          refine mr_aald C hw (by decide) tf_922 (by decide) (by decide) rfl rfl q18 (fr_922 _ (g_lt q18)) dX19_addAct_97 ?_
          refine lv_iload_n C.1.1 C.1.2.1 dX19_addAct_98 rfl (lv_at hl 6 rfl) ?_
          refine lv_iload C.1.1 C.1.2.1 dX19_addAct_99 (lv_at hl 0 rfl) ?_
          refine lv_if_eq (tgt := 110) C.1.1 C.1.2.1 dX19_addAct_101 (by decide) (fun c19 => ?_) (fun c19 => ?_)
          · replace hD := g_pos c19 hD
            refine lv_iload_n C.1.1 C.1.2.1 dX19_addAct_110 rfl (lv_at hl 4 rfl) ?_
            exact hb111 s0 x10 (((964 + 53 * v2.toNatClampNeg) + 0)) v3 a1 M14 L15 _ _ ls hD (isMc_of (g_lt q18)) hw (lv_sub hl [2, 1] rfl)
          · replace hD := g_neg c19 hD
            refine lv_iload_n C.1.1 C.1.2.1 dX19_addAct_104 rfl (lv_at hl 4 rfl) ?_
            refine lv_iconst (v := 3) C.1.1 C.1.2.1 dX19_addAct_105 (by decide) ?_
            refine lv_iadd C.1.1 C.1.2.1 dX19_addAct_106 ?_
            refine lv_goto (tgt := 111) C.1.1 C.1.2.1 dX19_addAct_107 (by decide) ?_
            exact hb111 s0 x10 (((964 + 53 * v2.toNatClampNeg) + 0)) v3 (a1 + 3) M14 L15 _ _ ls hD (isMc_of (g_lt q18)) hw (lv_sub hl [2, 1] rfl)
      · replace hD := g_pos c9 hD
        exact hb67 M6 L7 _ _ ls hD hw (lv_sub hl [] rfl)
  have hb33 : ∀ (v2 : Int32) (s0 : Int32) (M : mwM) (L : mwL) (H : Heap) (locs : List Loc) (ls : Array Slot), fX19_addAct_b33 fu a1 v2 s0 M L = some (r0, M0, L0) → mw_W G ad NF TF FF M L H locs → lv_has ls 7 [(0, .ref (ad 732)), (1, .int a1), (2, .int v2)] → W p l e ({ frames := 3, cells := 0, slots := 0, locals := 69 }) s m [.ref (ad 732), .int a1].toArray below meth c H locs 0 0 (MQ below (mw_Qi G ad NF TF FF (mw_eqI r0 M0 L0)) [.ref (ad 732), .int a1].toArray s 0 0 (mw_fr G)) (F0 m 33 ls [.int s0]) := by
    intro v2 s0 M L H locs ls hD hw hl
    unfold fX19_addAct_b33 at hD
    refine lv_istore_n (lv' := [(3, .int s0), (0, .ref (ad 732)), (1, .int a1), (2, .int v2)]) C.1.1 C.1.2.1 dX19_addAct_33 rfl hl (by decide) rfl (fun ls hl => ?_)
    refine lv_iload_n C.1.1 C.1.2.1 dX19_addAct_34 rfl (lv_at hl 0 rfl) ?_
    refine lv_if_ge (tgt := 42) C.1.1 C.1.2.1 dX19_addAct_35 (by decide) (fun c1 => ?_) (fun c1 => ?_)
    · replace hD := g_pos c1 hD
      refine lv_aload_n C.1.1 C.1.2.1 dX19_addAct_42 rfl (lv_at hl 1 rfl) ?_
      refine lv_iload_n C.1.1 C.1.2.1 dX19_addAct_43 rfl (lv_at hl 3 rfl) ?_
      obtain ⟨r4, M2, L3, h1, hD⟩ := g_b3 hD
      refine md_cvI (As := [.int v2]) (rest := []) C hw (tX19_datum l G ad fu v2 M L h1) kc_19 (by decide) tf_732 wd_3287 cwX19_datum ⟨Nat.le_of_ble_eq_true rfl, Nat.le_of_ble_eq_true rfl⟩ rfl hl.1 (Nat.le_of_ble_eq_true rfl) dX19_addAct_44 rfl rfl ⟨Nat.zero_le _, Nat.zero_le _⟩ rfl (fun H locs hw => ?_)
      exact hb47 v2 s0 r4 M2 L3 _ _ ls hD hw (lv_sub hl [1, 2, 3, 0] rfl)
    · replace hD := g_neg c1 hD
      refine lv_iconst (v := (-1)) C.1.1 C.1.2.1 dX19_addAct_38 (by decide) ?_
      refine lv_goto (tgt := 47) C.1.1 C.1.2.1 dX19_addAct_39 (by decide) ?_
      exact hb47 v2 s0 ((-1)) M L _ _ ls hD hw (lv_sub hl [1, 2, 3, 0] rfl)
  unfold DX19_addAct at hD
  refine lv_aload_n C.1.1 C.1.2.1 dX19_addAct_0 rfl (lv_at hl 0 rfl) ?_
  refine lv_iconst (v := 3) C.1.1 C.1.2.1 dX19_addAct_1 (by decide) ?_
  obtain ⟨r30, M28, L29, h1, hD⟩ := g_b3 hD
  refine md_cvI (As := [.int 3]) (rest := []) C hw (tX19_named l G ad fu 3 M L h1) kc_19 (by decide) tf_732 wd_3207 cwX19_named ⟨Nat.le_of_ble_eq_true rfl, Nat.le_of_ble_eq_true rfl⟩ rfl hl.1 (Nat.le_of_ble_eq_true rfl) dX19_addAct_2 rfl rfl ⟨Nat.zero_le _, Nat.zero_le _⟩ rfl (fun H locs hw => ?_)
  refine lv_istore_n (lv' := [(2, .int r30), (0, .ref (ad 732)), (1, .int a1)]) C.1.1 C.1.2.1 dX19_addAct_5 rfl hl (by decide) rfl (fun ls hl => ?_)
  refine lv_iload_n C.1.1 C.1.2.1 dX19_addAct_6 rfl (lv_at hl 0 rfl) ?_
  refine lv_if_ge (tgt := 14) C.1.1 C.1.2.1 dX19_addAct_7 (by decide) (fun c31 => ?_) (fun c31 => ?_)
  · replace hD := g_pos c31 hD
    refine lv_iload_n C.1.1 C.1.2.1 dX19_addAct_14 rfl (lv_at hl 2 rfl) ?_
    refine lv_iconst (v := 2) C.1.1 C.1.2.1 dX19_addAct_15 (by decide) ?_
    refine lv_icmp_ne (tgt := 28) C.1.1 C.1.2.1 dX19_addAct_16 (by decide) (fun c32 => ?_) (fun c32 => ?_)
    · replace hD := g_neg c32 hD
      refine lv_aload_n C.1.1 C.1.2.1 dX19_addAct_28 rfl (lv_at hl 1 rfl) ?_
      refine lv_iload_n C.1.1 C.1.2.1 dX19_addAct_29 rfl (lv_at hl 0 rfl) ?_
      obtain ⟨r35, M33, L34, h1, hD⟩ := g_b3 hD
      refine md_cvI (As := [.int r30]) (rest := []) C hw (tX19_state l G ad fu r30 M28 L29 h1) kc_19 (by decide) tf_732 wd_3246 cwX19_state ⟨Nat.le_of_ble_eq_true rfl, Nat.le_of_ble_eq_true rfl⟩ rfl hl.1 (Nat.le_of_ble_eq_true rfl) dX19_addAct_30 rfl rfl ⟨Nat.zero_le _, Nat.zero_le _⟩ rfl (fun H locs hw => ?_)
      exact hb33 r30 r35 M33 L34 _ _ ls hD hw (lv_sub hl [1, 2, 0] rfl)
    · replace hD := g_pos c32 hD
      refine lv_aload_n C.1.1 C.1.2.1 dX19_addAct_19 rfl (lv_at hl 1 rfl) ?_
      refine mr_getR C hw kc_19 35 (by decide) tf_732 ff_732_35 wd_2816 dX19_addAct_20 (by decide) rfl ?_
      refine lv_iload_n C.1.1 C.1.2.1 dX19_addAct_23 rfl (lv_at hl 0 rfl) ?_
      obtain ⟨q36, hD⟩ := g_ck hD
      refine mr_iald C hw (by decide) tf_750 q36 dX19_addAct_24 ?_
      refine lv_goto (tgt := 33) C.1.1 C.1.2.1 dX19_addAct_25 (by decide) ?_
      exact hb33 r30 (M28 750 r30.toNatClampNeg) M28 L29 _ _ ls hD hw (lv_sub hl [1, 2, 0] rfl)
  · replace hD := g_neg c31 hD
    refine lv_iconst (v := (-1)) C.1.1 C.1.2.1 dX19_addAct_10 (by decide) ?_
    refine lv_goto (tgt := 33) C.1.1 C.1.2.1 dX19_addAct_11 (by decide) ?_
    exact hb33 r30 ((-1)) M28 L29 _ _ ls hD hw (lv_sub hl [1, 2, 0] rfl)

theorem dX19_addSignal_0 : decode cX19_addSignal 0 = .ok (.aload_n 0, 1) := by decide +kernel
theorem dX19_addSignal_1 : decode cX19_addSignal 1 = .ok (.aload_n 0, 1) := by decide +kernel
theorem dX19_addSignal_2 : decode cX19_addSignal 2 = .ok (.getfield 541, 3) := by decide +kernel
theorem dX19_addSignal_5 : decode cX19_addSignal 5 = .ok (.bipush 40, 2) := by decide +kernel
theorem dX19_addSignal_7 : decode cX19_addSignal 7 = .ok (.invokevirtual 438, 3) := by decide +kernel
theorem dX19_addSignal_10 : decode cX19_addSignal 10 = .ok (.ifCond .ne 5, 3) := by decide +kernel
theorem dX19_addSignal_13 : decode cX19_addSignal 13 = .ok (.iconst 0, 1) := by decide +kernel
theorem dX19_addSignal_14 : decode cX19_addSignal 14 = .ok (.ireturn, 1) := by decide +kernel
theorem dX19_addSignal_15 : decode cX19_addSignal 15 = .ok (.aload_n 0, 1) := by decide +kernel
theorem dX19_addSignal_16 : decode cX19_addSignal 16 = .ok (.getfield 311, 3) := by decide +kernel
theorem dX19_addSignal_19 : decode cX19_addSignal 19 = .ok (.istore_n 1, 1) := by decide +kernel
theorem dX19_addSignal_20 : decode cX19_addSignal 20 = .ok (.aload_n 0, 1) := by decide +kernel
theorem dX19_addSignal_21 : decode cX19_addSignal 21 = .ok (.getfield 314, 3) := by decide +kernel
theorem dX19_addSignal_24 : decode cX19_addSignal 24 = .ok (.aload_n 0, 1) := by decide +kernel
theorem dX19_addSignal_25 : decode cX19_addSignal 25 = .ok (.getfield 311, 3) := by decide +kernel
theorem dX19_addSignal_28 : decode cX19_addSignal 28 = .ok (.isub, 1) := by decide +kernel
theorem dX19_addSignal_29 : decode cX19_addSignal 29 = .ok (.istore_n 2, 1) := by decide +kernel
theorem dX19_addSignal_30 : decode cX19_addSignal 30 = .ok (.aload_n 0, 1) := by decide +kernel
theorem dX19_addSignal_31 : decode cX19_addSignal 31 = .ok (.iconst 1, 1) := by decide +kernel
theorem dX19_addSignal_32 : decode cX19_addSignal 32 = .ok (.bipush 64, 2) := by decide +kernel
theorem dX19_addSignal_34 : decode cX19_addSignal 34 = .ok (.invokevirtual 454, 3) := by decide +kernel
theorem dX19_addSignal_37 : decode cX19_addSignal 37 = .ok (.ifCond .ne 5, 3) := by decide +kernel
theorem dX19_addSignal_40 : decode cX19_addSignal 40 = .ok (.iconst 0, 1) := by decide +kernel
theorem dX19_addSignal_41 : decode cX19_addSignal 41 = .ok (.ireturn, 1) := by decide +kernel
theorem dX19_addSignal_42 : decode cX19_addSignal 42 = .ok (.aload_n 0, 1) := by decide +kernel
theorem dX19_addSignal_43 : decode cX19_addSignal 43 = .ok (.getfield 94, 3) := by decide +kernel
theorem dX19_addSignal_46 : decode cX19_addSignal 46 = .ok (.aload_n 0, 1) := by decide +kernel
theorem dX19_addSignal_47 : decode cX19_addSignal 47 = .ok (.getfield 541, 3) := by decide +kernel
theorem dX19_addSignal_50 : decode cX19_addSignal 50 = .ok (.aload_n 0, 1) := by decide +kernel
theorem dX19_addSignal_51 : decode cX19_addSignal 51 = .ok (.getfield 338, 3) := by decide +kernel
theorem dX19_addSignal_54 : decode cX19_addSignal 54 = .ok (.iastore, 1) := by decide +kernel
theorem dX19_addSignal_55 : decode cX19_addSignal 55 = .ok (.aload_n 0, 1) := by decide +kernel
theorem dX19_addSignal_56 : decode cX19_addSignal 56 = .ok (.iconst 3, 1) := by decide +kernel
theorem dX19_addSignal_57 : decode cX19_addSignal 57 = .ok (.invokevirtual 451, 3) := by decide +kernel
theorem dX19_addSignal_60 : decode cX19_addSignal 60 = .ok (.istore_n 3, 1) := by decide +kernel
theorem dX19_addSignal_61 : decode cX19_addSignal 61 = .ok (.iload_n 3, 1) := by decide +kernel
theorem dX19_addSignal_62 : decode cX19_addSignal 62 = .ok (.ifCond .ge 7, 3) := by decide +kernel
theorem dX19_addSignal_65 : decode cX19_addSignal 65 = .ok (.iconst (-1), 1) := by decide +kernel
theorem dX19_addSignal_66 : decode cX19_addSignal 66 = .ok (.goto 8, 3) := by decide +kernel
theorem dX19_addSignal_69 : decode cX19_addSignal 69 = .ok (.aload_n 0, 1) := by decide +kernel
theorem dX19_addSignal_70 : decode cX19_addSignal 70 = .ok (.iload_n 3, 1) := by decide +kernel
theorem dX19_addSignal_71 : decode cX19_addSignal 71 = .ok (.invokevirtual 511, 3) := by decide +kernel
theorem dX19_addSignal_74 : decode cX19_addSignal 74 = .ok (.istore 4, 2) := by decide +kernel
theorem dX19_addSignal_76 : decode cX19_addSignal 76 = .ok (.iload 4, 2) := by decide +kernel
theorem dX19_addSignal_78 : decode cX19_addSignal 78 = .ok (.ifCond .lt 16, 3) := by decide +kernel
theorem dX19_addSignal_81 : decode cX19_addSignal 81 = .ok (.aload_n 0, 1) := by decide +kernel
theorem dX19_addSignal_82 : decode cX19_addSignal 82 = .ok (.sipush 500, 3) := by decide +kernel
theorem dX19_addSignal_85 : decode cX19_addSignal 85 = .ok (.sipush 20000, 3) := by decide +kernel
theorem dX19_addSignal_88 : decode cX19_addSignal 88 = .ok (.invokevirtual 454, 3) := by decide +kernel
theorem dX19_addSignal_91 : decode cX19_addSignal 91 = .ok (.ifCond .ne 5, 3) := by decide +kernel
theorem dX19_addSignal_94 : decode cX19_addSignal 94 = .ok (.iconst 0, 1) := by decide +kernel
theorem dX19_addSignal_95 : decode cX19_addSignal 95 = .ok (.ireturn, 1) := by decide +kernel
theorem dX19_addSignal_96 : decode cX19_addSignal 96 = .ok (.aload_n 0, 1) := by decide +kernel
theorem dX19_addSignal_97 : decode cX19_addSignal 97 = .ok (.getfield 103, 3) := by decide +kernel
theorem dX19_addSignal_100 : decode cX19_addSignal 100 = .ok (.aload_n 0, 1) := by decide +kernel
theorem dX19_addSignal_101 : decode cX19_addSignal 101 = .ok (.getfield 541, 3) := by decide +kernel
theorem dX19_addSignal_104 : decode cX19_addSignal 104 = .ok (.aload_n 0, 1) := by decide +kernel
theorem dX19_addSignal_105 : decode cX19_addSignal 105 = .ok (.getfield 338, 3) := by decide +kernel
theorem dX19_addSignal_108 : decode cX19_addSignal 108 = .ok (.iastore, 1) := by decide +kernel
theorem dX19_addSignal_109 : decode cX19_addSignal 109 = .ok (.aload_n 0, 1) := by decide +kernel
theorem dX19_addSignal_110 : decode cX19_addSignal 110 = .ok (.getfield 106, 3) := by decide +kernel
theorem dX19_addSignal_113 : decode cX19_addSignal 113 = .ok (.aload_n 0, 1) := by decide +kernel
theorem dX19_addSignal_114 : decode cX19_addSignal 114 = .ok (.getfield 541, 3) := by decide +kernel
theorem dX19_addSignal_117 : decode cX19_addSignal 117 = .ok (.aload_n 0, 1) := by decide +kernel
theorem dX19_addSignal_118 : decode cX19_addSignal 118 = .ok (.ldc2_w 544, 3) := by decide +kernel
theorem dX19_addSignal_121 : decode cX19_addSignal 121 = .ok (.invokevirtual 481, 3) := by decide +kernel
theorem dX19_addSignal_124 : decode cX19_addSignal 124 = .ok (.bastore, 1) := by decide +kernel
theorem dX19_addSignal_125 : decode cX19_addSignal 125 = .ok (.aload_n 0, 1) := by decide +kernel
theorem dX19_addSignal_126 : decode cX19_addSignal 126 = .ok (.invokevirtual 441, 3) := by decide +kernel
theorem dX19_addSignal_129 : decode cX19_addSignal 129 = .ok (.ifCond .ne 5, 3) := by decide +kernel
theorem dX19_addSignal_132 : decode cX19_addSignal 132 = .ok (.iconst 0, 1) := by decide +kernel
theorem dX19_addSignal_133 : decode cX19_addSignal 133 = .ok (.ireturn, 1) := by decide +kernel
theorem dX19_addSignal_134 : decode cX19_addSignal 134 = .ok (.aload_n 0, 1) := by decide +kernel
theorem dX19_addSignal_135 : decode cX19_addSignal 135 = .ok (.getfield 91, 3) := by decide +kernel
theorem dX19_addSignal_138 : decode cX19_addSignal 138 = .ok (.aload_n 0, 1) := by decide +kernel
theorem dX19_addSignal_139 : decode cX19_addSignal 139 = .ok (.getfield 541, 3) := by decide +kernel
theorem dX19_addSignal_142 : decode cX19_addSignal 142 = .ok (.iload_n 1, 1) := by decide +kernel
theorem dX19_addSignal_143 : decode cX19_addSignal 143 = .ok (.iastore, 1) := by decide +kernel
theorem dX19_addSignal_144 : decode cX19_addSignal 144 = .ok (.aload_n 0, 1) := by decide +kernel
theorem dX19_addSignal_145 : decode cX19_addSignal 145 = .ok (.getfield 97, 3) := by decide +kernel
theorem dX19_addSignal_148 : decode cX19_addSignal 148 = .ok (.aload_n 0, 1) := by decide +kernel
theorem dX19_addSignal_149 : decode cX19_addSignal 149 = .ok (.getfield 541, 3) := by decide +kernel
theorem dX19_addSignal_152 : decode cX19_addSignal 152 = .ok (.iload_n 3, 1) := by decide +kernel
theorem dX19_addSignal_153 : decode cX19_addSignal 153 = .ok (.iastore, 1) := by decide +kernel
theorem dX19_addSignal_154 : decode cX19_addSignal 154 = .ok (.aload_n 0, 1) := by decide +kernel
theorem dX19_addSignal_155 : decode cX19_addSignal 155 = .ok (.getfield 100, 3) := by decide +kernel
theorem dX19_addSignal_158 : decode cX19_addSignal 158 = .ok (.aload_n 0, 1) := by decide +kernel
theorem dX19_addSignal_159 : decode cX19_addSignal 159 = .ok (.getfield 541, 3) := by decide +kernel
theorem dX19_addSignal_162 : decode cX19_addSignal 162 = .ok (.iload 4, 2) := by decide +kernel
theorem dX19_addSignal_164 : decode cX19_addSignal 164 = .ok (.iastore, 1) := by decide +kernel
theorem dX19_addSignal_165 : decode cX19_addSignal 165 = .ok (.aload_n 0, 1) := by decide +kernel
theorem dX19_addSignal_166 : decode cX19_addSignal 166 = .ok (.iload_n 1, 1) := by decide +kernel
theorem dX19_addSignal_167 : decode cX19_addSignal 167 = .ok (.iload_n 2, 1) := by decide +kernel
theorem dX19_addSignal_168 : decode cX19_addSignal 168 = .ok (.iconst 4, 1) := by decide +kernel
theorem dX19_addSignal_169 : decode cX19_addSignal 169 = .ok (.aload_n 0, 1) := by decide +kernel
theorem dX19_addSignal_170 : decode cX19_addSignal 170 = .ok (.getfield 541, 3) := by decide +kernel
theorem dX19_addSignal_173 : decode cX19_addSignal 173 = .ok (.invokevirtual 444, 3) := by decide +kernel
theorem dX19_addSignal_176 : decode cX19_addSignal 176 = .ok (.aload_n 0, 1) := by decide +kernel
theorem dX19_addSignal_177 : decode cX19_addSignal 177 = .ok (.dup, 1) := by decide +kernel
theorem dX19_addSignal_178 : decode cX19_addSignal 178 = .ok (.getfield 541, 3) := by decide +kernel
theorem dX19_addSignal_181 : decode cX19_addSignal 181 = .ok (.iconst 1, 1) := by decide +kernel
theorem dX19_addSignal_182 : decode cX19_addSignal 182 = .ok (.iadd, 1) := by decide +kernel
theorem dX19_addSignal_183 : decode cX19_addSignal 183 = .ok (.putfield 541, 3) := by decide +kernel
theorem dX19_addSignal_186 : decode cX19_addSignal 186 = .ok (.iconst 1, 1) := by decide +kernel
theorem dX19_addSignal_187 : decode cX19_addSignal 187 = .ok (.ireturn, 1) := by decide +kernel
theorem cwX19_addSignal : mw_cwV yX19_addSignal cX19_addSignal 5 ((some .boolean)) 0 := ⟨⟨wd_13, wd_3346, by decide +kernel⟩, wd_3345, sl_183⟩
set_option maxHeartbeats 4000000 in
set_option maxRecDepth 100000 in
theorem tX19_addSignal (l : Launch) (G : mwG) (ad : Nat → Nat) (fu : Nat) (M : mwM) (L : mwL) {r0 : Int32} {M0 : mwM} {L0 : mwL} (hD : DX19_addSignal fu M L = some (r0, M0, L0)) : Met l yX19_addSignal (Cond.code yX19_addSignal cX19_addSignal 5 ((some .boolean)) :: GT) ({ frames := 3, cells := 0, slots := 0, locals := 69 }) (mw_Pre G ad NF TF FF M L [.ref (ad 732)]) (mw_Qi G ad NF TF FF (mw_eqI r0 M0 L0)) 0 0 (mw_fr G) := by
  refine mw_enter (by decide) (Nat.le_of_ble_eq_true rfl) ?_
  intro p e s m below meth c ls C hr hlocks hnm hw hl
  have hl : lv_has ls 5 [(0, .ref (ad 732))] := hl
  have hb94 : ∀ (M : mwM) (L : mwL) (H : Heap) (locs : List Loc) (ls : Array Slot), fX19_addSignal_b94 fu M L = some (r0, M0, L0) → mw_W G ad NF TF FF M L H locs → lv_has ls 5 [] → W p l e ({ frames := 3, cells := 0, slots := 0, locals := 69 }) s m [.ref (ad 732)].toArray below meth c H locs 0 0 (MQ below (mw_Qi G ad NF TF FF (mw_eqI r0 M0 L0)) [.ref (ad 732)].toArray s 0 0 (mw_fr G)) (F0 m 94 ls []) := by
    intro M L H locs ls hD hw hl
    unfold fX19_addSignal_b94 at hD
    refine lv_iconst (v := 0) C.1.1 C.1.2.1 dX19_addSignal_94 (by decide) ?_
    exact mr_iret C hr hlocks hw (by decide +kernel) (Option.some.inj hD) dX19_addSignal_95
  have hb74 : ∀ (v1 : Int32) (v2 : Int32) (v3 : Int32) (s0 : Int32) (M : mwM) (L : mwL) (H : Heap) (locs : List Loc) (ls : Array Slot), fX19_addSignal_b74 fu v1 v2 v3 s0 M L = some (r0, M0, L0) → mw_W G ad NF TF FF M L H locs → lv_has ls 5 [(0, .ref (ad 732)), (1, .int v1), (2, .int v2), (3, .int v3)] → W p l e ({ frames := 3, cells := 0, slots := 0, locals := 69 }) s m [.ref (ad 732)].toArray below meth c H locs 0 0 (MQ below (mw_Qi G ad NF TF FF (mw_eqI r0 M0 L0)) [.ref (ad 732)].toArray s 0 0 (mw_fr G)) (F0 m 74 ls [.int s0]) := by
    intro v1 v2 v3 s0 M L H locs ls hD hw hl
    unfold fX19_addSignal_b74 at hD
    refine lv_istore (lv' := [(4, .int s0), (0, .ref (ad 732)), (1, .int v1), (2, .int v2), (3, .int v3)]) C.1.1 C.1.2.1 dX19_addSignal_74 hl (by decide) rfl (fun ls hl => ?_)
    refine lv_iload C.1.1 C.1.2.1 dX19_addSignal_76 (lv_at hl 0 rfl) ?_
    refine lv_if_lt (tgt := 94) C.1.1 C.1.2.1 dX19_addSignal_78 (by decide) (fun c1 => ?_) (fun c1 => ?_)
    · replace hD := g_pos c1 hD
      exact hb94 M L _ _ ls hD hw (lv_sub hl [] rfl)
    · replace hD := g_neg c1 hD
      refine lv_aload_n C.1.1 C.1.2.1 dX19_addSignal_81 rfl (lv_at hl 1 rfl) ?_
      refine lv_sipush (v := 500) C.1.1 C.1.2.1 dX19_addSignal_82 (by decide) ?_
      refine lv_sipush (v := 20000) C.1.1 C.1.2.1 dX19_addSignal_85 (by decide) ?_
      obtain ⟨r4, M2, L3, h1, hD⟩ := g_b3 hD
      refine md_cvI (As := [.int 500, .int 20000]) (rest := []) C hw (tX19_number l G ad fu 500 20000 M L h1) kc_19 (by decide) tf_732 wd_3211 cwX19_number ⟨Nat.le_of_ble_eq_true rfl, Nat.le_of_ble_eq_true rfl⟩ rfl hl.1 (Nat.le_of_ble_eq_true rfl) dX19_addSignal_88 rfl rfl ⟨Nat.zero_le _, Nat.zero_le _⟩ rfl (fun H locs hw => ?_)
      refine lv_if_ne (tgt := 96) C.1.1 C.1.2.1 dX19_addSignal_91 (by decide) (fun c5 => ?_) (fun c5 => ?_)
      · replace hD := g_neg c5 hD
        refine lv_aload_n C.1.1 C.1.2.1 dX19_addSignal_96 rfl (lv_at hl 1 rfl) ?_
        refine mr_getR C hw kc_19 50 (by decide) tf_732 ff_732_50 wd_2831 dX19_addSignal_97 (by decide) rfl ?_
        refine lv_aload_n C.1.1 C.1.2.1 dX19_addSignal_100 rfl (lv_at hl 1 rfl) ?_
        refine mr_getI C hw kc_19 45 (by decide) tf_732 wd_2826 dX19_addSignal_101 (by decide) rfl ?_
        refine lv_aload_n C.1.1 C.1.2.1 dX19_addSignal_104 rfl (lv_at hl 1 rfl) ?_
        refine mr_getI C hw kc_19 13 (by decide) tf_732 wd_2794 dX19_addSignal_105 (by decide) rfl ?_
        obtain ⟨q6, hD⟩ := g_ck hD
        obtain ⟨M7, eM7, hD⟩ := g_let hD
        refine mr_iast C hw (by decide) tf_764 q6 dX19_addSignal_108 (fun H locs hw => ?_)
        replace hw : mw_W G ad NF TF FF M7 L3 H locs := by rw [eM7]; exact hw
        refine lv_aload_n C.1.1 C.1.2.1 dX19_addSignal_109 rfl (lv_at hl 1 rfl) ?_
        refine mr_getR C hw kc_19 51 (by decide) tf_732 ff_732_51 wd_2832 dX19_addSignal_110 (by decide) rfl ?_
        refine lv_aload_n C.1.1 C.1.2.1 dX19_addSignal_113 rfl (lv_at hl 1 rfl) ?_
        refine mr_getI C hw kc_19 45 (by decide) tf_732 wd_2826 dX19_addSignal_114 (by decide) rfl ?_
        refine lv_aload_n C.1.1 C.1.2.1 dX19_addSignal_117 rfl (lv_at hl 1 rfl) ?_
        refine lv_ldc2 (v := 110386807469428) C.1.1 C.1.2.1 C.1.2.2.2.1 (C.1.2.2.2.2 _ wd_3347) dX19_addSignal_118 ?_
        obtain ⟨r10, M8, L9, h1, hD⟩ := g_b3 hD
        refine md_cvI (As := [.long 110386807469428]) (rest := [.int (M7 732 45), .ref (ad 765)]) C hw (tX19_takes l G ad fu 110386807469428 M7 L3 h1) kc_19 (by decide) tf_732 wd_3242 cwX19_takes ⟨Nat.le_of_ble_eq_true rfl, Nat.le_of_ble_eq_true rfl⟩ rfl hl.1 (Nat.le_of_ble_eq_true rfl) dX19_addSignal_121 rfl rfl ⟨Nat.zero_le _, Nat.zero_le _⟩ rfl (fun H locs hw => ?_)
        obtain ⟨q11, hD⟩ := g_ck hD
        obtain ⟨M12, eM12, hD⟩ := g_let hD
        refine mr_zast C hw (by decide) tf_765 q11 dX19_addSignal_124 (fun H locs hw => ?_)
        replace hw : mw_W G ad NF TF FF M12 L9 H locs := by rw [eM12]; exact hw
        refine lv_aload_n C.1.1 C.1.2.1 dX19_addSignal_125 rfl (lv_at hl 1 rfl) ?_
        obtain ⟨r15, M13, L14, h1, hD⟩ := g_b3 hD
        refine md_cvI (As := []) (rest := []) C hw (tX19_end l G ad fu M12 L9 h1) kc_19 (by decide) tf_732 wd_3194 cwX19_end ⟨Nat.le_of_ble_eq_true rfl, Nat.le_of_ble_eq_true rfl⟩ rfl hl.1 (Nat.le_of_ble_eq_true rfl) dX19_addSignal_126 rfl rfl ⟨Nat.zero_le _, Nat.zero_le _⟩ rfl (fun H locs hw => ?_)
        refine lv_if_ne (tgt := 134) C.1.1 C.1.2.1 dX19_addSignal_129 (by decide) (fun c16 => ?_) (fun c16 => ?_)
        · replace hD := g_neg c16 hD
          refine lv_aload_n C.1.1 C.1.2.1 dX19_addSignal_134 rfl (lv_at hl 1 rfl) ?_
          refine mr_getR C hw kc_19 46 (by decide) tf_732 ff_732_46 wd_2827 dX19_addSignal_135 (by decide) rfl ?_
          refine lv_aload_n C.1.1 C.1.2.1 dX19_addSignal_138 rfl (lv_at hl 1 rfl) ?_
          refine mr_getI C hw kc_19 45 (by decide) tf_732 wd_2826 dX19_addSignal_139 (by decide) rfl ?_
          refine lv_iload_n C.1.1 C.1.2.1 dX19_addSignal_142 rfl (lv_at hl 2 rfl) ?_
          obtain ⟨q17, hD⟩ := g_ck hD
          obtain ⟨M18, eM18, hD⟩ := g_let hD
          refine mr_iast C hw (by decide) tf_760 q17 dX19_addSignal_143 (fun H locs hw => ?_)
          replace hw : mw_W G ad NF TF FF M18 L14 H locs := by rw [eM18]; exact hw
          refine lv_aload_n C.1.1 C.1.2.1 dX19_addSignal_144 rfl (lv_at hl 1 rfl) ?_
          refine mr_getR C hw kc_19 48 (by decide) tf_732 ff_732_48 wd_2829 dX19_addSignal_145 (by decide) rfl ?_
          refine lv_aload_n C.1.1 C.1.2.1 dX19_addSignal_148 rfl (lv_at hl 1 rfl) ?_
          refine mr_getI C hw kc_19 45 (by decide) tf_732 wd_2826 dX19_addSignal_149 (by decide) rfl ?_
          refine lv_iload_n C.1.1 C.1.2.1 dX19_addSignal_152 rfl (lv_at hl 4 rfl) ?_
          obtain ⟨q19, hD⟩ := g_ck hD
          obtain ⟨M20, eM20, hD⟩ := g_let hD
          refine mr_iast C hw (by decide) tf_762 q19 dX19_addSignal_153 (fun H locs hw => ?_)
          replace hw : mw_W G ad NF TF FF M20 L14 H locs := by rw [eM20]; exact hw
          refine lv_aload_n C.1.1 C.1.2.1 dX19_addSignal_154 rfl (lv_at hl 1 rfl) ?_
          refine mr_getR C hw kc_19 49 (by decide) tf_732 ff_732_49 wd_2830 dX19_addSignal_155 (by decide) rfl ?_
          refine lv_aload_n C.1.1 C.1.2.1 dX19_addSignal_158 rfl (lv_at hl 1 rfl) ?_
          refine mr_getI C hw kc_19 45 (by decide) tf_732 wd_2826 dX19_addSignal_159 (by decide) rfl ?_
          refine lv_iload C.1.1 C.1.2.1 dX19_addSignal_162 (lv_at hl 0 rfl) ?_
          obtain ⟨q21, hD⟩ := g_ck hD
          obtain ⟨M22, eM22, hD⟩ := g_let hD
          refine mr_iast C hw (by decide) tf_763 q21 dX19_addSignal_164 (fun H locs hw => ?_)
          replace hw : mw_W G ad NF TF FF M22 L14 H locs := by rw [eM22]; exact hw
          refine lv_aload_n C.1.1 C.1.2.1 dX19_addSignal_165 rfl (lv_at hl 1 rfl) ?_
          refine lv_iload_n C.1.1 C.1.2.1 dX19_addSignal_166 rfl (lv_at hl 2 rfl) ?_
          refine lv_iload_n C.1.1 C.1.2.1 dX19_addSignal_167 rfl (lv_at hl 3 rfl) ?_
          refine lv_iconst (v := 4) C.1.1 C.1.2.1 dX19_addSignal_168 (by decide) ?_
          refine lv_aload_n C.1.1 C.1.2.1 dX19_addSignal_169 rfl (lv_at hl 1 rfl) ?_
          refine mr_getI C hw kc_19 45 (by decide) tf_732 wd_2826 dX19_addSignal_170 (by decide) rfl ?_
          obtain ⟨M23, L24, h1, hD⟩ := g_b2 hD
          refine md_cvV (As := [.int v1, .int v2, .int 4, .int (M22 732 45)]) (rest := []) C hw (tX19_addName l G ad fu v1 v2 4 (M22 732 45) M22 L14 h1) kc_19 (by decide) tf_732 wd_3198 cwX19_addName ⟨Nat.le_of_ble_eq_true rfl, Nat.le_of_ble_eq_true rfl⟩ rfl hl.1 (Nat.le_of_ble_eq_true rfl) dX19_addSignal_173 rfl rfl ⟨Nat.zero_le _, Nat.zero_le _⟩ rfl (fun H locs hw => ?_)
          refine lv_aload_n C.1.1 C.1.2.1 dX19_addSignal_176 rfl (lv_at hl 1 rfl) ?_
          refine lv_dup C.1.1 C.1.2.1 dX19_addSignal_177 rfl ?_
          refine mr_getI C hw kc_19 45 (by decide) tf_732 wd_2826 dX19_addSignal_178 (by decide) rfl ?_
          refine lv_iconst (v := 1) C.1.1 C.1.2.1 dX19_addSignal_181 (by decide) ?_
          refine lv_iadd C.1.1 C.1.2.1 dX19_addSignal_182 ?_
          obtain ⟨M25, eM25, hD⟩ := g_let hD
          refine mr_putI C hw kc_19 45 (by decide) tf_732 wd_2826 dX19_addSignal_183 (by decide) rfl rfl rfl rfl (fun H locs hw => ?_)
          replace hw : mw_W G ad NF TF FF M25 L24 H locs := by rw [eM25]; exact hw
          refine lv_iconst (v := 1) C.1.1 C.1.2.1 dX19_addSignal_186 (by decide) ?_
          exact mr_iret C hr hlocks hw (by decide +kernel) (Option.some.inj hD) dX19_addSignal_187
        · replace hD := g_pos c16 hD
          refine lv_iconst (v := 0) C.1.1 C.1.2.1 dX19_addSignal_132 (by decide) ?_
          exact mr_iret C hr hlocks hw (by decide +kernel) (Option.some.inj hD) dX19_addSignal_133
      · replace hD := g_pos c5 hD
        exact hb94 M2 L3 _ _ ls hD hw (lv_sub hl [] rfl)
  unfold DX19_addSignal at hD
  refine lv_aload_n C.1.1 C.1.2.1 dX19_addSignal_0 rfl (lv_at hl 0 rfl) ?_
  refine lv_aload_n C.1.1 C.1.2.1 dX19_addSignal_1 rfl (lv_at hl 0 rfl) ?_
  refine mr_getI C hw kc_19 45 (by decide) tf_732 wd_2826 dX19_addSignal_2 (by decide) rfl ?_
  refine lv_bipush (v := 40) C.1.1 C.1.2.1 dX19_addSignal_5 (by decide) ?_
  obtain ⟨r28, M26, L27, h1, hD⟩ := g_b3 hD
  refine md_cvI (As := [.int (M 732 45), .int 40]) (rest := []) C hw (tX19_newName l G ad fu (M 732 45) 40 M L h1) kc_19 (by decide) tf_732 wd_3164 cwX19_newName ⟨Nat.le_of_ble_eq_true rfl, Nat.le_of_ble_eq_true rfl⟩ rfl hl.1 (Nat.le_of_ble_eq_true rfl) dX19_addSignal_7 rfl rfl ⟨Nat.zero_le _, Nat.zero_le _⟩ rfl (fun H locs hw => ?_)
  refine lv_if_ne (tgt := 15) C.1.1 C.1.2.1 dX19_addSignal_10 (by decide) (fun c29 => ?_) (fun c29 => ?_)
  · replace hD := g_neg c29 hD
    refine lv_aload_n C.1.1 C.1.2.1 dX19_addSignal_15 rfl (lv_at hl 0 rfl) ?_
    refine mr_getI C hw kc_19 9 (by decide) tf_732 wd_2790 dX19_addSignal_16 (by decide) rfl ?_
    obtain ⟨x30, ex30, hD⟩ := g_let hD
    refine W.eq (g2 := F0 m 19 ls (.int x30 :: [])) (by rw [ex30]) ?_
    refine lv_istore_n (lv' := [(1, .int x30), (0, .ref (ad 732))]) C.1.1 C.1.2.1 dX19_addSignal_19 rfl hl (by decide) rfl (fun ls hl => ?_)
    refine lv_aload_n C.1.1 C.1.2.1 dX19_addSignal_20 rfl (lv_at hl 1 rfl) ?_
    refine mr_getI C hw kc_19 10 (by decide) tf_732 wd_2791 dX19_addSignal_21 (by decide) rfl ?_
    refine lv_aload_n C.1.1 C.1.2.1 dX19_addSignal_24 rfl (lv_at hl 1 rfl) ?_
    refine mr_getI C hw kc_19 9 (by decide) tf_732 wd_2790 dX19_addSignal_25 (by decide) rfl ?_
    refine lv_isub C.1.1 C.1.2.1 dX19_addSignal_28 ?_
    obtain ⟨x31, ex31, hD⟩ := g_let hD
    refine W.eq (g2 := F0 m 29 ls (.int x31 :: [])) (by rw [ex31]) ?_
    refine lv_istore_n (lv' := [(2, .int x31), (1, .int x30), (0, .ref (ad 732))]) C.1.1 C.1.2.1 dX19_addSignal_29 rfl hl (by decide) rfl (fun ls hl => ?_)
    refine lv_aload_n C.1.1 C.1.2.1 dX19_addSignal_30 rfl (lv_at hl 2 rfl) ?_
    refine lv_iconst (v := 1) C.1.1 C.1.2.1 dX19_addSignal_31 (by decide) ?_
    refine lv_bipush (v := 64) C.1.1 C.1.2.1 dX19_addSignal_32 (by decide) ?_
    obtain ⟨r34, M32, L33, h1, hD⟩ := g_b3 hD
    refine md_cvI (As := [.int 1, .int 64]) (rest := []) C hw (tX19_number l G ad fu 1 64 M26 L27 h1) kc_19 (by decide) tf_732 wd_3211 cwX19_number ⟨Nat.le_of_ble_eq_true rfl, Nat.le_of_ble_eq_true rfl⟩ rfl hl.1 (Nat.le_of_ble_eq_true rfl) dX19_addSignal_34 rfl rfl ⟨Nat.zero_le _, Nat.zero_le _⟩ rfl (fun H locs hw => ?_)
    refine lv_if_ne (tgt := 42) C.1.1 C.1.2.1 dX19_addSignal_37 (by decide) (fun c35 => ?_) (fun c35 => ?_)
    · replace hD := g_neg c35 hD
      refine lv_aload_n C.1.1 C.1.2.1 dX19_addSignal_42 rfl (lv_at hl 2 rfl) ?_
      refine mr_getR C hw kc_19 47 (by decide) tf_732 ff_732_47 wd_2828 dX19_addSignal_43 (by decide) rfl ?_
      refine lv_aload_n C.1.1 C.1.2.1 dX19_addSignal_46 rfl (lv_at hl 2 rfl) ?_
      refine mr_getI C hw kc_19 45 (by decide) tf_732 wd_2826 dX19_addSignal_47 (by decide) rfl ?_
      refine lv_aload_n C.1.1 C.1.2.1 dX19_addSignal_50 rfl (lv_at hl 2 rfl) ?_
      refine mr_getI C hw kc_19 13 (by decide) tf_732 wd_2794 dX19_addSignal_51 (by decide) rfl ?_
      obtain ⟨q36, hD⟩ := g_ck hD
      obtain ⟨M37, eM37, hD⟩ := g_let hD
      refine mr_iast C hw (by decide) tf_761 q36 dX19_addSignal_54 (fun H locs hw => ?_)
      replace hw : mw_W G ad NF TF FF M37 L33 H locs := by rw [eM37]; exact hw
      refine lv_aload_n C.1.1 C.1.2.1 dX19_addSignal_55 rfl (lv_at hl 2 rfl) ?_
      refine lv_iconst (v := 3) C.1.1 C.1.2.1 dX19_addSignal_56 (by decide) ?_
      obtain ⟨r40, M38, L39, h1, hD⟩ := g_b3 hD
      refine md_cvI (As := [.int 3]) (rest := []) C hw (tX19_named l G ad fu 3 M37 L33 h1) kc_19 (by decide) tf_732 wd_3207 cwX19_named ⟨Nat.le_of_ble_eq_true rfl, Nat.le_of_ble_eq_true rfl⟩ rfl hl.1 (Nat.le_of_ble_eq_true rfl) dX19_addSignal_57 rfl rfl ⟨Nat.zero_le _, Nat.zero_le _⟩ rfl (fun H locs hw => ?_)
      refine lv_istore_n (lv' := [(3, .int r40), (2, .int x31), (1, .int x30), (0, .ref (ad 732))]) C.1.1 C.1.2.1 dX19_addSignal_60 rfl hl (by decide) rfl (fun ls hl => ?_)
      refine lv_iload_n C.1.1 C.1.2.1 dX19_addSignal_61 rfl (lv_at hl 0 rfl) ?_
      refine lv_if_ge (tgt := 69) C.1.1 C.1.2.1 dX19_addSignal_62 (by decide) (fun c41 => ?_) (fun c41 => ?_)
      · replace hD := g_pos c41 hD
        refine lv_aload_n C.1.1 C.1.2.1 dX19_addSignal_69 rfl (lv_at hl 3 rfl) ?_
        refine lv_iload_n C.1.1 C.1.2.1 dX19_addSignal_70 rfl (lv_at hl 0 rfl) ?_
        obtain ⟨r44, M42, L43, h1, hD⟩ := g_b3 hD
        refine md_cvI (As := [.int r40]) (rest := []) C hw (tX19_datum l G ad fu r40 M38 L39 h1) kc_19 (by decide) tf_732 wd_3287 cwX19_datum ⟨Nat.le_of_ble_eq_true rfl, Nat.le_of_ble_eq_true rfl⟩ rfl hl.1 (Nat.le_of_ble_eq_true rfl) dX19_addSignal_71 rfl rfl ⟨Nat.zero_le _, Nat.zero_le _⟩ rfl (fun H locs hw => ?_)
        exact hb74 x30 x31 r40 r44 M42 L43 _ _ ls hD hw (lv_sub hl [3, 2, 1, 0] rfl)
      · replace hD := g_neg c41 hD
        refine lv_iconst (v := (-1)) C.1.1 C.1.2.1 dX19_addSignal_65 (by decide) ?_
        refine lv_goto (tgt := 74) C.1.1 C.1.2.1 dX19_addSignal_66 (by decide) ?_
        exact hb74 x30 x31 r40 ((-1)) M38 L39 _ _ ls hD hw (lv_sub hl [3, 2, 1, 0] rfl)
    · replace hD := g_pos c35 hD
      refine lv_iconst (v := 0) C.1.1 C.1.2.1 dX19_addSignal_40 (by decide) ?_
      exact mr_iret C hr hlocks hw (by decide +kernel) (Option.some.inj hD) dX19_addSignal_41
  · replace hD := g_pos c29 hD
    refine lv_iconst (v := 0) C.1.1 C.1.2.1 dX19_addSignal_13 (by decide) ?_
    exact mr_iret C hr hlocks hw (by decide +kernel) (Option.some.inj hD) dX19_addSignal_14

theorem dX19_keyOf_0 : decode cX19_keyOf 0 = .ok (.iconst 0, 1) := by decide +kernel
theorem dX19_keyOf_1 : decode cX19_keyOf 1 = .ok (.istore_n 3, 1) := by decide +kernel
theorem dX19_keyOf_2 : decode cX19_keyOf 2 = .ok (.iload_n 3, 1) := by decide +kernel
theorem dX19_keyOf_3 : decode cX19_keyOf 3 = .ok (.aload_n 0, 1) := by decide +kernel
theorem dX19_keyOf_4 : decode cX19_keyOf 4 = .ok (.getfield 546, 3) := by decide +kernel
theorem dX19_keyOf_7 : decode cX19_keyOf 7 = .ok (.if_icmp .ge 36, 3) := by decide +kernel
theorem dX19_keyOf_10 : decode cX19_keyOf 10 = .ok (.aload_n 0, 1) := by decide +kernel
theorem dX19_keyOf_11 : decode cX19_keyOf 11 = .ok (.getfield 25, 3) := by decide +kernel
theorem dX19_keyOf_14 : decode cX19_keyOf 14 = .ok (.iload_n 3, 1) := by decide +kernel
theorem dX19_keyOf_15 : decode cX19_keyOf 15 = .ok (.iaload, 1) := by decide +kernel
theorem dX19_keyOf_16 : decode cX19_keyOf 16 = .ok (.iload_n 1, 1) := by decide +kernel
theorem dX19_keyOf_17 : decode cX19_keyOf 17 = .ok (.if_icmp .ne 20, 3) := by decide +kernel
theorem dX19_keyOf_20 : decode cX19_keyOf 20 = .ok (.aload_n 0, 1) := by decide +kernel
theorem dX19_keyOf_21 : decode cX19_keyOf 21 = .ok (.getfield 28, 3) := by decide +kernel
theorem dX19_keyOf_24 : decode cX19_keyOf 24 = .ok (.iload_n 3, 1) := by decide +kernel
theorem dX19_keyOf_25 : decode cX19_keyOf 25 = .ok (.iaload, 1) := by decide +kernel
theorem dX19_keyOf_26 : decode cX19_keyOf 26 = .ok (.iload_n 2, 1) := by decide +kernel
theorem dX19_keyOf_27 : decode cX19_keyOf 27 = .ok (.if_icmp .ne 10, 3) := by decide +kernel
theorem dX19_keyOf_30 : decode cX19_keyOf 30 = .ok (.aload_n 0, 1) := by decide +kernel
theorem dX19_keyOf_31 : decode cX19_keyOf 31 = .ok (.getfield 31, 3) := by decide +kernel
theorem dX19_keyOf_34 : decode cX19_keyOf 34 = .ok (.iload_n 3, 1) := by decide +kernel
theorem dX19_keyOf_35 : decode cX19_keyOf 35 = .ok (.iaload, 1) := by decide +kernel
theorem dX19_keyOf_36 : decode cX19_keyOf 36 = .ok (.ireturn, 1) := by decide +kernel
theorem dX19_keyOf_37 : decode cX19_keyOf 37 = .ok (.iinc 3 1, 3) := by decide +kernel
theorem dX19_keyOf_40 : decode cX19_keyOf 40 = .ok (.goto (-38), 3) := by decide +kernel
theorem dX19_keyOf_43 : decode cX19_keyOf 43 = .ok (.iconst 0, 1) := by decide +kernel
theorem dX19_keyOf_44 : decode cX19_keyOf 44 = .ok (.ireturn, 1) := by decide +kernel
theorem cwX19_keyOf : mw_cwV yX19_keyOf cX19_keyOf 4 ((some .int)) 2 := ⟨⟨wd_13, wd_3356, by decide +kernel⟩, wd_3355, sl_185⟩
set_option maxHeartbeats 4000000 in
set_option maxRecDepth 100000 in
theorem tX19_keyOf (l : Launch) (G : mwG) (ad : Nat → Nat) (fu : Nat) (a1 : Int32) (a2 : Int32) (M : mwM) (L : mwL) {r0 : Int32} {M0 : mwM} {L0 : mwL} (hD : DX19_keyOf fu a1 a2 M L = some (r0, M0, L0)) : Met l yX19_keyOf (Cond.code yX19_keyOf cX19_keyOf 4 ((some .int)) :: GT) ({ frames := 0, cells := 0, slots := 0, locals := 0 }) (mw_Pre G ad NF TF FF M L [.ref (ad 732), .int a1, .int a2]) (mw_Qi G ad NF TF FF (mw_eqI r0 M0 L0)) 0 0 (mw_fr G) := by
  refine mw_enter (by decide) (Nat.le_of_ble_eq_true rfl) ?_
  intro p e s m below meth c ls C hr hlocks hnm hw hl
  have hl : lv_has ls 4 [(0, .ref (ad 732)), (1, .int a1), (2, .int a2)] := hl
  have hh2 : ∀ (f : Nat) (v3 : Int32) (M : mwM) (L : mwL) (H : Heap) (locs : List Loc) (ls : Array Slot), fX19_keyOf_h2 fu a1 a2 f (v3, M, L) = some (r0, M0, L0) → mw_W G ad NF TF FF M L H locs → lv_has ls 4 [(0, .ref (ad 732)), (1, .int a1), (2, .int a2), (3, .int v3)] → W p l e ({ frames := 0, cells := 0, slots := 0, locals := 0 }) s m [.ref (ad 732), .int a1, .int a2].toArray below meth c H locs 0 0 (MQ below (mw_Qi G ad NF TF FF (mw_eqI r0 M0 L0)) [.ref (ad 732), .int a1, .int a2].toArray s 0 0 (mw_fr G)) (F0 m 2 ls []) := by
    intro f
    induction f with
    | zero => intro v3 M L H locs ls hD; cases hD
    | succ f2 ih2 =>
      intro v3 M L H locs ls hD hw hl
      replace hD : fX19_keyOf_i2 fu a1 a2 (fX19_keyOf_h2 fu a1 a2 f2) v3 M L = some (r0, M0, L0) := hD
      have hb37 : ∀ (v3 : Int32) (M : mwM) (L : mwL) (H : Heap) (locs : List Loc) (ls : Array Slot), fX19_keyOf_b37 fu a1 a2 (fX19_keyOf_h2 fu a1 a2 f2) v3 M L = some (r0, M0, L0) → mw_W G ad NF TF FF M L H locs → lv_has ls 4 [(0, .ref (ad 732)), (1, .int a1), (2, .int a2), (3, .int v3)] → W p l e ({ frames := 0, cells := 0, slots := 0, locals := 0 }) s m [.ref (ad 732), .int a1, .int a2].toArray below meth c H locs 0 0 (MQ below (mw_Qi G ad NF TF FF (mw_eqI r0 M0 L0)) [.ref (ad 732), .int a1, .int a2].toArray s 0 0 (mw_fr G)) (F0 m 37 ls []) := by
        intro v3 M L H locs ls hD hw hl
        unfold fX19_keyOf_b37 at hD
        obtain ⟨x7, ex7, hD⟩ := g_let hD
        refine lv_iinc (v := x7) (lv' := [(3, .int x7), (0, .ref (ad 732)), (1, .int a1), (2, .int a2)]) C.1.1 C.1.2.1 dX19_keyOf_37 hl (k := 3) rfl (by rw [ex7]; rfl) (by decide) rfl (fun ls hl => ?_)
        refine lv_goto (tgt := 2) C.1.1 C.1.2.1 dX19_keyOf_40 (by decide) ?_
        exact ih2 x7 M L _ _ ls hD hw (lv_sub hl [1, 2, 3, 0] rfl)
      unfold fX19_keyOf_i2 at hD
      refine lv_iload_n C.1.1 C.1.2.1 dX19_keyOf_2 rfl (lv_at hl 3 rfl) ?_
      refine lv_aload_n C.1.1 C.1.2.1 dX19_keyOf_3 rfl (lv_at hl 0 rfl) ?_
      refine mr_getI C hw kc_19 20 (by decide) tf_732 wd_2801 dX19_keyOf_4 (by decide) rfl ?_
      refine lv_icmp_ge (tgt := 43) C.1.1 C.1.2.1 dX19_keyOf_7 (by decide) (fun c1 => ?_) (fun c1 => ?_)
      · replace hD := g_pos c1 hD
        refine lv_iconst (v := 0) C.1.1 C.1.2.1 dX19_keyOf_43 (by decide) ?_
        exact mr_iret C hr hlocks hw rfl (Option.some.inj hD) dX19_keyOf_44
      · replace hD := g_neg c1 hD
        refine lv_aload_n C.1.1 C.1.2.1 dX19_keyOf_10 rfl (lv_at hl 0 rfl) ?_
        refine mr_getR C hw kc_19 21 (by decide) tf_732 ff_732_21 wd_2802 dX19_keyOf_11 (by decide) rfl ?_
        refine lv_iload_n C.1.1 C.1.2.1 dX19_keyOf_14 rfl (lv_at hl 3 rfl) ?_
        obtain ⟨q2, hD⟩ := g_ck hD
        refine mr_iald C hw (by decide) tf_738 q2 dX19_keyOf_15 ?_
        refine lv_iload_n C.1.1 C.1.2.1 dX19_keyOf_16 rfl (lv_at hl 1 rfl) ?_
        refine lv_icmp_ne (tgt := 37) C.1.1 C.1.2.1 dX19_keyOf_17 (by decide) (fun c3 => ?_) (fun c3 => ?_)
        · replace hD := g_neg c3 hD
          exact hb37 v3 M L _ _ ls hD hw (lv_sub hl [0, 1, 2, 3] rfl)
        · replace hD := g_pos c3 hD
          refine lv_aload_n C.1.1 C.1.2.1 dX19_keyOf_20 rfl (lv_at hl 0 rfl) ?_
          refine mr_getR C hw kc_19 22 (by decide) tf_732 ff_732_22 wd_2803 dX19_keyOf_21 (by decide) rfl ?_
          refine lv_iload_n C.1.1 C.1.2.1 dX19_keyOf_24 rfl (lv_at hl 3 rfl) ?_
          obtain ⟨q4, hD⟩ := g_ck hD
          refine mr_iald C hw (by decide) tf_739 q4 dX19_keyOf_25 ?_
          refine lv_iload_n C.1.1 C.1.2.1 dX19_keyOf_26 rfl (lv_at hl 2 rfl) ?_
          refine lv_icmp_ne (tgt := 37) C.1.1 C.1.2.1 dX19_keyOf_27 (by decide) (fun c5 => ?_) (fun c5 => ?_)
          · replace hD := g_neg c5 hD
            exact hb37 v3 M L _ _ ls hD hw (lv_sub hl [0, 1, 2, 3] rfl)
          · replace hD := g_pos c5 hD
            refine lv_aload_n C.1.1 C.1.2.1 dX19_keyOf_30 rfl (lv_at hl 0 rfl) ?_
            refine mr_getR C hw kc_19 23 (by decide) tf_732 ff_732_23 wd_2804 dX19_keyOf_31 (by decide) rfl ?_
            refine lv_iload_n C.1.1 C.1.2.1 dX19_keyOf_34 rfl (lv_at hl 3 rfl) ?_
            obtain ⟨q6, hD⟩ := g_ck hD
            refine mr_iald C hw (by decide) tf_740 q6 dX19_keyOf_35 ?_
            exact mr_iret C hr hlocks hw rfl (Option.some.inj hD) dX19_keyOf_36
  unfold DX19_keyOf at hD
  refine lv_iconst (v := 0) C.1.1 C.1.2.1 dX19_keyOf_0 (by decide) ?_
  refine lv_istore_n (lv' := [(3, .int 0), (0, .ref (ad 732)), (1, .int a1), (2, .int a2)]) C.1.1 C.1.2.1 dX19_keyOf_1 rfl hl (by decide) rfl (fun ls hl => ?_)
  exact hh2 fu 0 M L _ _ ls hD hw (lv_sub hl [1, 2, 3, 0] rfl)

theorem dX19_addKey_0 : decode cX19_addKey 0 = .ok (.aload_n 0, 1) := by decide +kernel
theorem dX19_addKey_1 : decode cX19_addKey 1 = .ok (.iconst 1, 1) := by decide +kernel
theorem dX19_addKey_2 : decode cX19_addKey 2 = .ok (.invokevirtual 451, 3) := by decide +kernel
theorem dX19_addKey_5 : decode cX19_addKey 5 = .ok (.istore_n 1, 1) := by decide +kernel
theorem dX19_addKey_6 : decode cX19_addKey 6 = .ok (.iload_n 1, 1) := by decide +kernel
theorem dX19_addKey_7 : decode cX19_addKey 7 = .ok (.ifCond .lt 16, 3) := by decide +kernel
theorem dX19_addKey_10 : decode cX19_addKey 10 = .ok (.aload_n 0, 1) := by decide +kernel
theorem dX19_addKey_11 : decode cX19_addKey 11 = .ok (.sipush 500, 3) := by decide +kernel
theorem dX19_addKey_14 : decode cX19_addKey 14 = .ok (.sipush 20000, 3) := by decide +kernel
theorem dX19_addKey_17 : decode cX19_addKey 17 = .ok (.invokevirtual 454, 3) := by decide +kernel
theorem dX19_addKey_20 : decode cX19_addKey 20 = .ok (.ifCond .ne 5, 3) := by decide +kernel
theorem dX19_addKey_23 : decode cX19_addKey 23 = .ok (.iconst 0, 1) := by decide +kernel
theorem dX19_addKey_24 : decode cX19_addKey 24 = .ok (.ireturn, 1) := by decide +kernel
theorem dX19_addKey_25 : decode cX19_addKey 25 = .ok (.aload_n 0, 1) := by decide +kernel
theorem dX19_addKey_26 : decode cX19_addKey 26 = .ok (.getfield 338, 3) := by decide +kernel
theorem dX19_addKey_29 : decode cX19_addKey 29 = .ok (.istore_n 2, 1) := by decide +kernel
theorem dX19_addKey_30 : decode cX19_addKey 30 = .ok (.aload_n 0, 1) := by decide +kernel
theorem dX19_addKey_31 : decode cX19_addKey 31 = .ok (.getfield 311, 3) := by decide +kernel
theorem dX19_addKey_34 : decode cX19_addKey 34 = .ok (.istore_n 3, 1) := by decide +kernel
theorem dX19_addKey_35 : decode cX19_addKey 35 = .ok (.aload_n 0, 1) := by decide +kernel
theorem dX19_addKey_36 : decode cX19_addKey 36 = .ok (.iconst 1, 1) := by decide +kernel
theorem dX19_addKey_37 : decode cX19_addKey 37 = .ok (.bipush 16, 2) := by decide +kernel
theorem dX19_addKey_39 : decode cX19_addKey 39 = .ok (.invokevirtual 454, 3) := by decide +kernel
theorem dX19_addKey_42 : decode cX19_addKey 42 = .ok (.ifCond .eq 10, 3) := by decide +kernel
theorem dX19_addKey_45 : decode cX19_addKey 45 = .ok (.aload_n 0, 1) := by decide +kernel
theorem dX19_addKey_46 : decode cX19_addKey 46 = .ok (.invokevirtual 441, 3) := by decide +kernel
theorem dX19_addKey_49 : decode cX19_addKey 49 = .ok (.ifCond .ne 5, 3) := by decide +kernel
theorem dX19_addKey_52 : decode cX19_addKey 52 = .ok (.iconst 0, 1) := by decide +kernel
theorem dX19_addKey_53 : decode cX19_addKey 53 = .ok (.ireturn, 1) := by decide +kernel
theorem dX19_addKey_54 : decode cX19_addKey 54 = .ok (.aload_n 0, 1) := by decide +kernel
theorem dX19_addKey_55 : decode cX19_addKey 55 = .ok (.iload_n 1, 1) := by decide +kernel
theorem dX19_addKey_56 : decode cX19_addKey 56 = .ok (.iload_n 2, 1) := by decide +kernel
theorem dX19_addKey_57 : decode cX19_addKey 57 = .ok (.invokevirtual 549, 3) := by decide +kernel
theorem dX19_addKey_60 : decode cX19_addKey 60 = .ok (.ifCond .le 10, 3) := by decide +kernel
theorem dX19_addKey_63 : decode cX19_addKey 63 = .ok (.aload_n 0, 1) := by decide +kernel
theorem dX19_addKey_64 : decode cX19_addKey 64 = .ok (.iconst 3, 1) := by decide +kernel
theorem dX19_addKey_65 : decode cX19_addKey 65 = .ok (.iload_n 3, 1) := by decide +kernel
theorem dX19_addKey_66 : decode cX19_addKey 66 = .ok (.invokevirtual 321, 3) := by decide +kernel
theorem dX19_addKey_69 : decode cX19_addKey 69 = .ok (.ireturn, 1) := by decide +kernel
theorem dX19_addKey_70 : decode cX19_addKey 70 = .ok (.aload_n 0, 1) := by decide +kernel
theorem dX19_addKey_71 : decode cX19_addKey 71 = .ok (.getfield 25, 3) := by decide +kernel
theorem dX19_addKey_74 : decode cX19_addKey 74 = .ok (.aload_n 0, 1) := by decide +kernel
theorem dX19_addKey_75 : decode cX19_addKey 75 = .ok (.getfield 546, 3) := by decide +kernel
theorem dX19_addKey_78 : decode cX19_addKey 78 = .ok (.iload_n 1, 1) := by decide +kernel
theorem dX19_addKey_79 : decode cX19_addKey 79 = .ok (.iastore, 1) := by decide +kernel
theorem dX19_addKey_80 : decode cX19_addKey 80 = .ok (.aload_n 0, 1) := by decide +kernel
theorem dX19_addKey_81 : decode cX19_addKey 81 = .ok (.getfield 28, 3) := by decide +kernel
theorem dX19_addKey_84 : decode cX19_addKey 84 = .ok (.aload_n 0, 1) := by decide +kernel
theorem dX19_addKey_85 : decode cX19_addKey 85 = .ok (.getfield 546, 3) := by decide +kernel
theorem dX19_addKey_88 : decode cX19_addKey 88 = .ok (.iload_n 2, 1) := by decide +kernel
theorem dX19_addKey_89 : decode cX19_addKey 89 = .ok (.iastore, 1) := by decide +kernel
theorem dX19_addKey_90 : decode cX19_addKey 90 = .ok (.aload_n 0, 1) := by decide +kernel
theorem dX19_addKey_91 : decode cX19_addKey 91 = .ok (.getfield 31, 3) := by decide +kernel
theorem dX19_addKey_94 : decode cX19_addKey 94 = .ok (.aload_n 0, 1) := by decide +kernel
theorem dX19_addKey_95 : decode cX19_addKey 95 = .ok (.getfield 546, 3) := by decide +kernel
theorem dX19_addKey_98 : decode cX19_addKey 98 = .ok (.aload_n 0, 1) := by decide +kernel
theorem dX19_addKey_99 : decode cX19_addKey 99 = .ok (.getfield 338, 3) := by decide +kernel
theorem dX19_addKey_102 : decode cX19_addKey 102 = .ok (.iastore, 1) := by decide +kernel
theorem dX19_addKey_103 : decode cX19_addKey 103 = .ok (.aload_n 0, 1) := by decide +kernel
theorem dX19_addKey_104 : decode cX19_addKey 104 = .ok (.dup, 1) := by decide +kernel
theorem dX19_addKey_105 : decode cX19_addKey 105 = .ok (.getfield 546, 3) := by decide +kernel
theorem dX19_addKey_108 : decode cX19_addKey 108 = .ok (.iconst 1, 1) := by decide +kernel
theorem dX19_addKey_109 : decode cX19_addKey 109 = .ok (.iadd, 1) := by decide +kernel
theorem dX19_addKey_110 : decode cX19_addKey 110 = .ok (.putfield 546, 3) := by decide +kernel
theorem dX19_addKey_113 : decode cX19_addKey 113 = .ok (.iconst 1, 1) := by decide +kernel
theorem dX19_addKey_114 : decode cX19_addKey 114 = .ok (.ireturn, 1) := by decide +kernel
theorem cwX19_addKey : mw_cwV yX19_addKey cX19_addKey 4 ((some .boolean)) 0 := ⟨⟨wd_13, wd_3352, by decide +kernel⟩, wd_3351, sl_184⟩
set_option maxHeartbeats 4000000 in
set_option maxRecDepth 100000 in
theorem tX19_addKey (l : Launch) (G : mwG) (ad : Nat → Nat) (fu : Nat) (M : mwM) (L : mwL) {r0 : Int32} {M0 : mwM} {L0 : mwL} (hD : DX19_addKey fu M L = some (r0, M0, L0)) : Met l yX19_addKey (Cond.code yX19_addKey cX19_addKey 4 ((some .boolean)) :: GT) ({ frames := 3, cells := 0, slots := 0, locals := 68 }) (mw_Pre G ad NF TF FF M L [.ref (ad 732)]) (mw_Qi G ad NF TF FF (mw_eqI r0 M0 L0)) 0 0 (mw_fr G) := by
  refine mw_enter (by decide) (Nat.le_of_ble_eq_true rfl) ?_
  intro p e s m below meth c ls C hr hlocks hnm hw hl
  have hl : lv_has ls 4 [(0, .ref (ad 732))] := hl
  have hb23 : ∀ (M : mwM) (L : mwL) (H : Heap) (locs : List Loc) (ls : Array Slot), fX19_addKey_b23 fu M L = some (r0, M0, L0) → mw_W G ad NF TF FF M L H locs → lv_has ls 4 [] → W p l e ({ frames := 3, cells := 0, slots := 0, locals := 68 }) s m [.ref (ad 732)].toArray below meth c H locs 0 0 (MQ below (mw_Qi G ad NF TF FF (mw_eqI r0 M0 L0)) [.ref (ad 732)].toArray s 0 0 (mw_fr G)) (F0 m 23 ls []) := by
    intro M L H locs ls hD hw hl
    unfold fX19_addKey_b23 at hD
    refine lv_iconst (v := 0) C.1.1 C.1.2.1 dX19_addKey_23 (by decide) ?_
    exact mr_iret C hr hlocks hw (by decide +kernel) (Option.some.inj hD) dX19_addKey_24
  have hb52 : ∀ (M : mwM) (L : mwL) (H : Heap) (locs : List Loc) (ls : Array Slot), fX19_addKey_b52 fu M L = some (r0, M0, L0) → mw_W G ad NF TF FF M L H locs → lv_has ls 4 [] → W p l e ({ frames := 3, cells := 0, slots := 0, locals := 68 }) s m [.ref (ad 732)].toArray below meth c H locs 0 0 (MQ below (mw_Qi G ad NF TF FF (mw_eqI r0 M0 L0)) [.ref (ad 732)].toArray s 0 0 (mw_fr G)) (F0 m 52 ls []) := by
    intro M L H locs ls hD hw hl
    unfold fX19_addKey_b52 at hD
    refine lv_iconst (v := 0) C.1.1 C.1.2.1 dX19_addKey_52 (by decide) ?_
    exact mr_iret C hr hlocks hw (by decide +kernel) (Option.some.inj hD) dX19_addKey_53
  unfold DX19_addKey at hD
  refine lv_aload_n C.1.1 C.1.2.1 dX19_addKey_0 rfl (lv_at hl 0 rfl) ?_
  refine lv_iconst (v := 1) C.1.1 C.1.2.1 dX19_addKey_1 (by decide) ?_
  obtain ⟨r3, M1, L2, h1, hD⟩ := g_b3 hD
  refine md_cvI (As := [.int 1]) (rest := []) C hw (tX19_named l G ad fu 1 M L h1) kc_19 (by decide) tf_732 wd_3207 cwX19_named ⟨Nat.le_of_ble_eq_true rfl, Nat.le_of_ble_eq_true rfl⟩ rfl hl.1 (Nat.le_of_ble_eq_true rfl) dX19_addKey_2 rfl rfl ⟨Nat.zero_le _, Nat.zero_le _⟩ rfl (fun H locs hw => ?_)
  refine lv_istore_n (lv' := [(1, .int r3), (0, .ref (ad 732))]) C.1.1 C.1.2.1 dX19_addKey_5 rfl hl (by decide) rfl (fun ls hl => ?_)
  refine lv_iload_n C.1.1 C.1.2.1 dX19_addKey_6 rfl (lv_at hl 0 rfl) ?_
  refine lv_if_lt (tgt := 23) C.1.1 C.1.2.1 dX19_addKey_7 (by decide) (fun c4 => ?_) (fun c4 => ?_)
  · replace hD := g_pos c4 hD
    exact hb23 M1 L2 _ _ ls hD hw (lv_sub hl [] rfl)
  · replace hD := g_neg c4 hD
    refine lv_aload_n C.1.1 C.1.2.1 dX19_addKey_10 rfl (lv_at hl 1 rfl) ?_
    refine lv_sipush (v := 500) C.1.1 C.1.2.1 dX19_addKey_11 (by decide) ?_
    refine lv_sipush (v := 20000) C.1.1 C.1.2.1 dX19_addKey_14 (by decide) ?_
    obtain ⟨r7, M5, L6, h1, hD⟩ := g_b3 hD
    refine md_cvI (As := [.int 500, .int 20000]) (rest := []) C hw (tX19_number l G ad fu 500 20000 M1 L2 h1) kc_19 (by decide) tf_732 wd_3211 cwX19_number ⟨Nat.le_of_ble_eq_true rfl, Nat.le_of_ble_eq_true rfl⟩ rfl hl.1 (Nat.le_of_ble_eq_true rfl) dX19_addKey_17 rfl rfl ⟨Nat.zero_le _, Nat.zero_le _⟩ rfl (fun H locs hw => ?_)
    refine lv_if_ne (tgt := 25) C.1.1 C.1.2.1 dX19_addKey_20 (by decide) (fun c8 => ?_) (fun c8 => ?_)
    · replace hD := g_neg c8 hD
      refine lv_aload_n C.1.1 C.1.2.1 dX19_addKey_25 rfl (lv_at hl 1 rfl) ?_
      refine mr_getI C hw kc_19 13 (by decide) tf_732 wd_2794 dX19_addKey_26 (by decide) rfl ?_
      obtain ⟨x9, ex9, hD⟩ := g_let hD
      refine W.eq (g2 := F0 m 29 ls (.int x9 :: [])) (by rw [ex9]) ?_
      refine lv_istore_n (lv' := [(2, .int x9), (1, .int r3), (0, .ref (ad 732))]) C.1.1 C.1.2.1 dX19_addKey_29 rfl hl (by decide) rfl (fun ls hl => ?_)
      refine lv_aload_n C.1.1 C.1.2.1 dX19_addKey_30 rfl (lv_at hl 2 rfl) ?_
      refine mr_getI C hw kc_19 9 (by decide) tf_732 wd_2790 dX19_addKey_31 (by decide) rfl ?_
      obtain ⟨x10, ex10, hD⟩ := g_let hD
      refine W.eq (g2 := F0 m 34 ls (.int x10 :: [])) (by rw [ex10]) ?_
      refine lv_istore_n (lv' := [(3, .int x10), (2, .int x9), (1, .int r3), (0, .ref (ad 732))]) C.1.1 C.1.2.1 dX19_addKey_34 rfl hl (by decide) rfl (fun ls hl => ?_)
      refine lv_aload_n C.1.1 C.1.2.1 dX19_addKey_35 rfl (lv_at hl 3 rfl) ?_
      refine lv_iconst (v := 1) C.1.1 C.1.2.1 dX19_addKey_36 (by decide) ?_
      refine lv_bipush (v := 16) C.1.1 C.1.2.1 dX19_addKey_37 (by decide) ?_
      obtain ⟨r13, M11, L12, h1, hD⟩ := g_b3 hD
      refine md_cvI (As := [.int 1, .int 16]) (rest := []) C hw (tX19_number l G ad fu 1 16 M5 L6 h1) kc_19 (by decide) tf_732 wd_3211 cwX19_number ⟨Nat.le_of_ble_eq_true rfl, Nat.le_of_ble_eq_true rfl⟩ rfl hl.1 (Nat.le_of_ble_eq_true rfl) dX19_addKey_39 rfl rfl ⟨Nat.zero_le _, Nat.zero_le _⟩ rfl (fun H locs hw => ?_)
      refine lv_if_eq (tgt := 52) C.1.1 C.1.2.1 dX19_addKey_42 (by decide) (fun c14 => ?_) (fun c14 => ?_)
      · replace hD := g_pos c14 hD
        exact hb52 M11 L12 _ _ ls hD hw (lv_sub hl [] rfl)
      · replace hD := g_neg c14 hD
        refine lv_aload_n C.1.1 C.1.2.1 dX19_addKey_45 rfl (lv_at hl 3 rfl) ?_
        obtain ⟨r17, M15, L16, h1, hD⟩ := g_b3 hD
        refine md_cvI (As := []) (rest := []) C hw (tX19_end l G ad fu M11 L12 h1) kc_19 (by decide) tf_732 wd_3194 cwX19_end ⟨Nat.le_of_ble_eq_true rfl, Nat.le_of_ble_eq_true rfl⟩ rfl hl.1 (Nat.le_of_ble_eq_true rfl) dX19_addKey_46 rfl rfl ⟨Nat.zero_le _, Nat.zero_le _⟩ rfl (fun H locs hw => ?_)
        refine lv_if_ne (tgt := 54) C.1.1 C.1.2.1 dX19_addKey_49 (by decide) (fun c18 => ?_) (fun c18 => ?_)
        · replace hD := g_neg c18 hD
          refine lv_aload_n C.1.1 C.1.2.1 dX19_addKey_54 rfl (lv_at hl 3 rfl) ?_
          refine lv_iload_n C.1.1 C.1.2.1 dX19_addKey_55 rfl (lv_at hl 2 rfl) ?_
          refine lv_iload_n C.1.1 C.1.2.1 dX19_addKey_56 rfl (lv_at hl 1 rfl) ?_
          obtain ⟨r21, M19, L20, h1, hD⟩ := g_b3 hD
          refine md_cvI (As := [.int r3, .int x9]) (rest := []) C hw (tX19_keyOf l G ad fu r3 x9 M15 L16 h1) kc_19 (by decide) tf_732 wd_3353 cwX19_keyOf ⟨Nat.le_of_ble_eq_true rfl, Nat.le_of_ble_eq_true rfl⟩ rfl hl.1 (Nat.le_of_ble_eq_true rfl) dX19_addKey_57 rfl rfl ⟨Nat.zero_le _, Nat.zero_le _⟩ rfl (fun H locs hw => ?_)
          refine lv_if_le (tgt := 70) C.1.1 C.1.2.1 dX19_addKey_60 (by decide) (fun c22 => ?_) (fun c22 => ?_)
          · replace hD := g_pos c22 hD
            refine lv_aload_n C.1.1 C.1.2.1 dX19_addKey_70 rfl (lv_at hl 3 rfl) ?_
            refine mr_getR C hw kc_19 21 (by decide) tf_732 ff_732_21 wd_2802 dX19_addKey_71 (by decide) rfl ?_
            refine lv_aload_n C.1.1 C.1.2.1 dX19_addKey_74 rfl (lv_at hl 3 rfl) ?_
            refine mr_getI C hw kc_19 20 (by decide) tf_732 wd_2801 dX19_addKey_75 (by decide) rfl ?_
            refine lv_iload_n C.1.1 C.1.2.1 dX19_addKey_78 rfl (lv_at hl 2 rfl) ?_
            obtain ⟨q23, hD⟩ := g_ck hD
            obtain ⟨M24, eM24, hD⟩ := g_let hD
            refine mr_iast C hw (by decide) tf_738 q23 dX19_addKey_79 (fun H locs hw => ?_)
            replace hw : mw_W G ad NF TF FF M24 L20 H locs := by rw [eM24]; exact hw
            refine lv_aload_n C.1.1 C.1.2.1 dX19_addKey_80 rfl (lv_at hl 3 rfl) ?_
            refine mr_getR C hw kc_19 22 (by decide) tf_732 ff_732_22 wd_2803 dX19_addKey_81 (by decide) rfl ?_
            refine lv_aload_n C.1.1 C.1.2.1 dX19_addKey_84 rfl (lv_at hl 3 rfl) ?_
            refine mr_getI C hw kc_19 20 (by decide) tf_732 wd_2801 dX19_addKey_85 (by decide) rfl ?_
            refine lv_iload_n C.1.1 C.1.2.1 dX19_addKey_88 rfl (lv_at hl 1 rfl) ?_
            obtain ⟨q25, hD⟩ := g_ck hD
            obtain ⟨M26, eM26, hD⟩ := g_let hD
            refine mr_iast C hw (by decide) tf_739 q25 dX19_addKey_89 (fun H locs hw => ?_)
            replace hw : mw_W G ad NF TF FF M26 L20 H locs := by rw [eM26]; exact hw
            refine lv_aload_n C.1.1 C.1.2.1 dX19_addKey_90 rfl (lv_at hl 3 rfl) ?_
            refine mr_getR C hw kc_19 23 (by decide) tf_732 ff_732_23 wd_2804 dX19_addKey_91 (by decide) rfl ?_
            refine lv_aload_n C.1.1 C.1.2.1 dX19_addKey_94 rfl (lv_at hl 3 rfl) ?_
            refine mr_getI C hw kc_19 20 (by decide) tf_732 wd_2801 dX19_addKey_95 (by decide) rfl ?_
            refine lv_aload_n C.1.1 C.1.2.1 dX19_addKey_98 rfl (lv_at hl 3 rfl) ?_
            refine mr_getI C hw kc_19 13 (by decide) tf_732 wd_2794 dX19_addKey_99 (by decide) rfl ?_
            obtain ⟨q27, hD⟩ := g_ck hD
            obtain ⟨M28, eM28, hD⟩ := g_let hD
            refine mr_iast C hw (by decide) tf_740 q27 dX19_addKey_102 (fun H locs hw => ?_)
            replace hw : mw_W G ad NF TF FF M28 L20 H locs := by rw [eM28]; exact hw
            refine lv_aload_n C.1.1 C.1.2.1 dX19_addKey_103 rfl (lv_at hl 3 rfl) ?_
            refine lv_dup C.1.1 C.1.2.1 dX19_addKey_104 rfl ?_
            refine mr_getI C hw kc_19 20 (by decide) tf_732 wd_2801 dX19_addKey_105 (by decide) rfl ?_
            refine lv_iconst (v := 1) C.1.1 C.1.2.1 dX19_addKey_108 (by decide) ?_
            refine lv_iadd C.1.1 C.1.2.1 dX19_addKey_109 ?_
            obtain ⟨M29, eM29, hD⟩ := g_let hD
            refine mr_putI C hw kc_19 20 (by decide) tf_732 wd_2801 dX19_addKey_110 (by decide) rfl rfl rfl rfl (fun H locs hw => ?_)
            replace hw : mw_W G ad NF TF FF M29 L20 H locs := by rw [eM29]; exact hw
            refine lv_iconst (v := 1) C.1.1 C.1.2.1 dX19_addKey_113 (by decide) ?_
            exact mr_iret C hr hlocks hw (by decide +kernel) (Option.some.inj hD) dX19_addKey_114
          · replace hD := g_neg c22 hD
            refine lv_aload_n C.1.1 C.1.2.1 dX19_addKey_63 rfl (lv_at hl 3 rfl) ?_
            refine lv_iconst (v := 3) C.1.1 C.1.2.1 dX19_addKey_64 (by decide) ?_
            refine lv_iload_n C.1.1 C.1.2.1 dX19_addKey_65 rfl (lv_at hl 0 rfl) ?_
            obtain ⟨r32, M30, L31, h1, hD⟩ := g_b3 hD
            refine md_cvI (As := [.int 3, .int x10]) (rest := []) C hw (tX19_fail l G ad fu 3 x10 M19 L20 h1) kc_19 (by decide) tf_732 wd_3172 cwX19_fail ⟨Nat.le_of_ble_eq_true rfl, Nat.le_of_ble_eq_true rfl⟩ rfl hl.1 (Nat.le_of_ble_eq_true rfl) dX19_addKey_66 rfl rfl ⟨Nat.zero_le _, Nat.zero_le _⟩ rfl (fun H locs hw => ?_)
            obtain ⟨z33, hD⟩ := g_zz hD
            exact mr_iret C hr hlocks hw (nz_zz z33) (Option.some.inj hD) dX19_addKey_69
        · replace hD := g_pos c18 hD
          exact hb52 M15 L16 _ _ ls hD hw (lv_sub hl [] rfl)
    · replace hD := g_pos c8 hD
      exact hb23 M5 L6 _ _ ls hD hw (lv_sub hl [] rfl)

theorem dX19_senderOf_0 : decode cX19_senderOf 0 = .ok (.aload_n 0, 1) := by decide +kernel
theorem dX19_senderOf_1 : decode cX19_senderOf 1 = .ok (.getfield 37, 3) := by decide +kernel
theorem dX19_senderOf_4 : decode cX19_senderOf 4 = .ok (.aload_n 0, 1) := by decide +kernel
theorem dX19_senderOf_5 : decode cX19_senderOf 5 = .ok (.getfield 58, 3) := by decide +kernel
theorem dX19_senderOf_8 : decode cX19_senderOf 8 = .ok (.aload_n 0, 1) := by decide +kernel
theorem dX19_senderOf_9 : decode cX19_senderOf 9 = .ok (.getfield 97, 3) := by decide +kernel
theorem dX19_senderOf_12 : decode cX19_senderOf 12 = .ok (.iload_n 1, 1) := by decide +kernel
theorem dX19_senderOf_13 : decode cX19_senderOf 13 = .ok (.iaload, 1) := by decide +kernel
theorem dX19_senderOf_14 : decode cX19_senderOf 14 = .ok (.iaload, 1) := by decide +kernel
theorem dX19_senderOf_15 : decode cX19_senderOf 15 = .ok (.iaload, 1) := by decide +kernel
theorem dX19_senderOf_16 : decode cX19_senderOf 16 = .ok (.ireturn, 1) := by decide +kernel
theorem cwX19_senderOf : mw_cwV yX19_senderOf cX19_senderOf 2 ((some .int)) 1 := ⟨⟨wd_13, wd_3365, by decide +kernel⟩, wd_3364, sl_187⟩
set_option maxHeartbeats 4000000 in
set_option maxRecDepth 100000 in
theorem tX19_senderOf (l : Launch) (G : mwG) (ad : Nat → Nat) (fu : Nat) (a1 : Int32) (M : mwM) (L : mwL) {r0 : Int32} {M0 : mwM} {L0 : mwL} (hD : DX19_senderOf fu a1 M L = some (r0, M0, L0)) : Met l yX19_senderOf (Cond.code yX19_senderOf cX19_senderOf 2 ((some .int)) :: GT) ({ frames := 0, cells := 0, slots := 0, locals := 0 }) (mw_Pre G ad NF TF FF M L [.ref (ad 732), .int a1]) (mw_Qi G ad NF TF FF (mw_eqI r0 M0 L0)) 0 0 (mw_fr G) := by
  refine mw_enter (by decide) (Nat.le_of_ble_eq_true rfl) ?_
  intro p e s m below meth c ls C hr hlocks hnm hw hl
  have hl : lv_has ls 2 [(0, .ref (ad 732)), (1, .int a1)] := hl
  unfold DX19_senderOf at hD
  refine lv_aload_n C.1.1 C.1.2.1 dX19_senderOf_0 rfl (lv_at hl 0 rfl) ?_
  refine mr_getR C hw kc_19 26 (by decide) tf_732 ff_732_26 wd_2807 dX19_senderOf_1 (by decide) rfl ?_
  refine lv_aload_n C.1.1 C.1.2.1 dX19_senderOf_4 rfl (lv_at hl 0 rfl) ?_
  refine mr_getR C hw kc_19 34 (by decide) tf_732 ff_732_34 wd_2815 dX19_senderOf_5 (by decide) rfl ?_
  refine lv_aload_n C.1.1 C.1.2.1 dX19_senderOf_8 rfl (lv_at hl 0 rfl) ?_
  refine mr_getR C hw kc_19 48 (by decide) tf_732 ff_732_48 wd_2829 dX19_senderOf_9 (by decide) rfl ?_
  refine lv_iload_n C.1.1 C.1.2.1 dX19_senderOf_12 rfl (lv_at hl 1 rfl) ?_
  obtain ⟨q1, hD⟩ := g_ck hD
  refine mr_iald C hw (by decide) tf_762 q1 dX19_senderOf_13 ?_
  obtain ⟨q2, hD⟩ := g_ck hD
  refine mr_iald C hw (by decide) tf_749 q2 dX19_senderOf_14 ?_
  obtain ⟨q3, hD⟩ := g_ck hD
  refine mr_iald C hw (by decide) tf_742 q3 dX19_senderOf_15 ?_
  exact mr_iret C hr hlocks hw rfl (Option.some.inj hD) dX19_senderOf_16

theorem dX19_addRead_0 : decode cX19_addRead 0 = .ok (.aload_n 0, 1) := by decide +kernel
theorem dX19_addRead_1 : decode cX19_addRead 1 = .ok (.iconst 4, 1) := by decide +kernel
theorem dX19_addRead_2 : decode cX19_addRead 2 = .ok (.invokevirtual 451, 3) := by decide +kernel
theorem dX19_addRead_5 : decode cX19_addRead 5 = .ok (.istore_n 1, 1) := by decide +kernel
theorem dX19_addRead_6 : decode cX19_addRead 6 = .ok (.iload_n 1, 1) := by decide +kernel
theorem dX19_addRead_7 : decode cX19_addRead 7 = .ok (.ifCond .ge 7, 3) := by decide +kernel
theorem dX19_addRead_10 : decode cX19_addRead 10 = .ok (.iconst (-1), 1) := by decide +kernel
theorem dX19_addRead_11 : decode cX19_addRead 11 = .ok (.goto 8, 3) := by decide +kernel
theorem dX19_addRead_14 : decode cX19_addRead 14 = .ok (.aload_n 0, 1) := by decide +kernel
theorem dX19_addRead_15 : decode cX19_addRead 15 = .ok (.iconst 3, 1) := by decide +kernel
theorem dX19_addRead_16 : decode cX19_addRead 16 = .ok (.invokevirtual 451, 3) := by decide +kernel
theorem dX19_addRead_19 : decode cX19_addRead 19 = .ok (.istore_n 2, 1) := by decide +kernel
theorem dX19_addRead_20 : decode cX19_addRead 20 = .ok (.iload_n 2, 1) := by decide +kernel
theorem dX19_addRead_21 : decode cX19_addRead 21 = .ok (.ifCond .ge 7, 3) := by decide +kernel
theorem dX19_addRead_24 : decode cX19_addRead 24 = .ok (.iconst (-1), 1) := by decide +kernel
theorem dX19_addRead_25 : decode cX19_addRead 25 = .ok (.goto 8, 3) := by decide +kernel
theorem dX19_addRead_28 : decode cX19_addRead 28 = .ok (.aload_n 0, 1) := by decide +kernel
theorem dX19_addRead_29 : decode cX19_addRead 29 = .ok (.iload_n 2, 1) := by decide +kernel
theorem dX19_addRead_30 : decode cX19_addRead 30 = .ok (.invokevirtual 511, 3) := by decide +kernel
theorem dX19_addRead_33 : decode cX19_addRead 33 = .ok (.istore_n 3, 1) := by decide +kernel
theorem dX19_addRead_34 : decode cX19_addRead 34 = .ok (.iload_n 3, 1) := by decide +kernel
theorem dX19_addRead_35 : decode cX19_addRead 35 = .ok (.ifCond .lt 20, 3) := by decide +kernel
theorem dX19_addRead_38 : decode cX19_addRead 38 = .ok (.aload_n 0, 1) := by decide +kernel
theorem dX19_addRead_39 : decode cX19_addRead 39 = .ok (.iconst 0, 1) := by decide +kernel
theorem dX19_addRead_40 : decode cX19_addRead 40 = .ok (.bipush 99, 2) := by decide +kernel
theorem dX19_addRead_42 : decode cX19_addRead 42 = .ok (.invokevirtual 454, 3) := by decide +kernel
theorem dX19_addRead_45 : decode cX19_addRead 45 = .ok (.ifCond .eq 10, 3) := by decide +kernel
theorem dX19_addRead_48 : decode cX19_addRead 48 = .ok (.aload_n 0, 1) := by decide +kernel
theorem dX19_addRead_49 : decode cX19_addRead 49 = .ok (.invokevirtual 441, 3) := by decide +kernel
theorem dX19_addRead_52 : decode cX19_addRead 52 = .ok (.ifCond .ne 5, 3) := by decide +kernel
theorem dX19_addRead_55 : decode cX19_addRead 55 = .ok (.iconst 0, 1) := by decide +kernel
theorem dX19_addRead_56 : decode cX19_addRead 56 = .ok (.ireturn, 1) := by decide +kernel
theorem dX19_addRead_57 : decode cX19_addRead 57 = .ok (.aload_n 0, 1) := by decide +kernel
theorem dX19_addRead_58 : decode cX19_addRead 58 = .ok (.getfield 37, 3) := by decide +kernel
theorem dX19_addRead_61 : decode cX19_addRead 61 = .ok (.aload_n 0, 1) := by decide +kernel
theorem dX19_addRead_62 : decode cX19_addRead 62 = .ok (.getfield 58, 3) := by decide +kernel
theorem dX19_addRead_65 : decode cX19_addRead 65 = .ok (.iload_n 2, 1) := by decide +kernel
theorem dX19_addRead_66 : decode cX19_addRead 66 = .ok (.iaload, 1) := by decide +kernel
theorem dX19_addRead_67 : decode cX19_addRead 67 = .ok (.iaload, 1) := by decide +kernel
theorem dX19_addRead_68 : decode cX19_addRead 68 = .ok (.aload_n 0, 1) := by decide +kernel
theorem dX19_addRead_69 : decode cX19_addRead 69 = .ok (.iload_n 1, 1) := by decide +kernel
theorem dX19_addRead_70 : decode cX19_addRead 70 = .ok (.invokevirtual 552, 3) := by decide +kernel
theorem dX19_addRead_73 : decode cX19_addRead 73 = .ok (.if_icmp .ne 14, 3) := by decide +kernel
theorem dX19_addRead_76 : decode cX19_addRead 76 = .ok (.aload_n 0, 1) := by decide +kernel
theorem dX19_addRead_77 : decode cX19_addRead 77 = .ok (.bipush 7, 2) := by decide +kernel
theorem dX19_addRead_79 : decode cX19_addRead 79 = .ok (.aload_n 0, 1) := by decide +kernel
theorem dX19_addRead_80 : decode cX19_addRead 80 = .ok (.getfield 366, 3) := by decide +kernel
theorem dX19_addRead_83 : decode cX19_addRead 83 = .ok (.invokevirtual 321, 3) := by decide +kernel
theorem dX19_addRead_86 : decode cX19_addRead 86 = .ok (.ireturn, 1) := by decide +kernel
theorem dX19_addRead_87 : decode cX19_addRead 87 = .ok (.aload_n 0, 1) := by decide +kernel
theorem dX19_addRead_88 : decode cX19_addRead 88 = .ok (.getfield 555, 3) := by decide +kernel
theorem dX19_addRead_91 : decode cX19_addRead 91 = .ok (.bipush 60, 2) := by decide +kernel
theorem dX19_addRead_93 : decode cX19_addRead 93 = .ok (.if_icmp .ne 14, 3) := by decide +kernel
theorem dX19_addRead_96 : decode cX19_addRead 96 = .ok (.aload_n 0, 1) := by decide +kernel
theorem dX19_addRead_97 : decode cX19_addRead 97 = .ok (.bipush 6, 2) := by decide +kernel
theorem dX19_addRead_99 : decode cX19_addRead 99 = .ok (.aload_n 0, 1) := by decide +kernel
theorem dX19_addRead_100 : decode cX19_addRead 100 = .ok (.getfield 366, 3) := by decide +kernel
theorem dX19_addRead_103 : decode cX19_addRead 103 = .ok (.invokevirtual 321, 3) := by decide +kernel
theorem dX19_addRead_106 : decode cX19_addRead 106 = .ok (.ireturn, 1) := by decide +kernel
theorem dX19_addRead_107 : decode cX19_addRead 107 = .ok (.aload_n 0, 1) := by decide +kernel
theorem dX19_addRead_108 : decode cX19_addRead 108 = .ok (.getfield 119, 3) := by decide +kernel
theorem dX19_addRead_111 : decode cX19_addRead 111 = .ok (.aload_n 0, 1) := by decide +kernel
theorem dX19_addRead_112 : decode cX19_addRead 112 = .ok (.getfield 555, 3) := by decide +kernel
theorem dX19_addRead_115 : decode cX19_addRead 115 = .ok (.iload_n 1, 1) := by decide +kernel
theorem dX19_addRead_116 : decode cX19_addRead 116 = .ok (.iastore, 1) := by decide +kernel
theorem dX19_addRead_117 : decode cX19_addRead 117 = .ok (.aload_n 0, 1) := by decide +kernel
theorem dX19_addRead_118 : decode cX19_addRead 118 = .ok (.getfield 122, 3) := by decide +kernel
theorem dX19_addRead_121 : decode cX19_addRead 121 = .ok (.aload_n 0, 1) := by decide +kernel
theorem dX19_addRead_122 : decode cX19_addRead 122 = .ok (.getfield 555, 3) := by decide +kernel
theorem dX19_addRead_125 : decode cX19_addRead 125 = .ok (.iload_n 2, 1) := by decide +kernel
theorem dX19_addRead_126 : decode cX19_addRead 126 = .ok (.iastore, 1) := by decide +kernel
theorem dX19_addRead_127 : decode cX19_addRead 127 = .ok (.aload_n 0, 1) := by decide +kernel
theorem dX19_addRead_128 : decode cX19_addRead 128 = .ok (.getfield 125, 3) := by decide +kernel
theorem dX19_addRead_131 : decode cX19_addRead 131 = .ok (.aload_n 0, 1) := by decide +kernel
theorem dX19_addRead_132 : decode cX19_addRead 132 = .ok (.getfield 555, 3) := by decide +kernel
theorem dX19_addRead_135 : decode cX19_addRead 135 = .ok (.iload_n 3, 1) := by decide +kernel
theorem dX19_addRead_136 : decode cX19_addRead 136 = .ok (.iastore, 1) := by decide +kernel
theorem dX19_addRead_137 : decode cX19_addRead 137 = .ok (.aload_n 0, 1) := by decide +kernel
theorem dX19_addRead_138 : decode cX19_addRead 138 = .ok (.getfield 128, 3) := by decide +kernel
theorem dX19_addRead_141 : decode cX19_addRead 141 = .ok (.aload_n 0, 1) := by decide +kernel
theorem dX19_addRead_142 : decode cX19_addRead 142 = .ok (.getfield 555, 3) := by decide +kernel
theorem dX19_addRead_145 : decode cX19_addRead 145 = .ok (.aload_n 0, 1) := by decide +kernel
theorem dX19_addRead_146 : decode cX19_addRead 146 = .ok (.getfield 338, 3) := by decide +kernel
theorem dX19_addRead_149 : decode cX19_addRead 149 = .ok (.iastore, 1) := by decide +kernel
theorem dX19_addRead_150 : decode cX19_addRead 150 = .ok (.aload_n 0, 1) := by decide +kernel
theorem dX19_addRead_151 : decode cX19_addRead 151 = .ok (.getfield 131, 3) := by decide +kernel
theorem dX19_addRead_154 : decode cX19_addRead 154 = .ok (.aload_n 0, 1) := by decide +kernel
theorem dX19_addRead_155 : decode cX19_addRead 155 = .ok (.getfield 555, 3) := by decide +kernel
theorem dX19_addRead_158 : decode cX19_addRead 158 = .ok (.iconst 0, 1) := by decide +kernel
theorem dX19_addRead_159 : decode cX19_addRead 159 = .ok (.bastore, 1) := by decide +kernel
theorem dX19_addRead_160 : decode cX19_addRead 160 = .ok (.aload_n 0, 1) := by decide +kernel
theorem dX19_addRead_161 : decode cX19_addRead 161 = .ok (.dup, 1) := by decide +kernel
theorem dX19_addRead_162 : decode cX19_addRead 162 = .ok (.getfield 555, 3) := by decide +kernel
theorem dX19_addRead_165 : decode cX19_addRead 165 = .ok (.iconst 1, 1) := by decide +kernel
theorem dX19_addRead_166 : decode cX19_addRead 166 = .ok (.iadd, 1) := by decide +kernel
theorem dX19_addRead_167 : decode cX19_addRead 167 = .ok (.putfield 555, 3) := by decide +kernel
theorem dX19_addRead_170 : decode cX19_addRead 170 = .ok (.iconst 1, 1) := by decide +kernel
theorem dX19_addRead_171 : decode cX19_addRead 171 = .ok (.ireturn, 1) := by decide +kernel
theorem cwX19_addRead : mw_cwV yX19_addRead cX19_addRead 4 ((some .boolean)) 0 := ⟨⟨wd_13, wd_3361, by decide +kernel⟩, wd_3360, sl_186⟩
set_option maxHeartbeats 4000000 in
set_option maxRecDepth 100000 in
theorem tX19_addRead (l : Launch) (G : mwG) (ad : Nat → Nat) (fu : Nat) (M : mwM) (L : mwL) {r0 : Int32} {M0 : mwM} {L0 : mwL} (hD : DX19_addRead fu M L = some (r0, M0, L0)) : Met l yX19_addRead (Cond.code yX19_addRead cX19_addRead 4 ((some .boolean)) :: GT) ({ frames := 3, cells := 0, slots := 0, locals := 69 }) (mw_Pre G ad NF TF FF M L [.ref (ad 732)]) (mw_Qi G ad NF TF FF (mw_eqI r0 M0 L0)) 0 0 (mw_fr G) := by
  refine mw_enter (by decide) (Nat.le_of_ble_eq_true rfl) ?_
  intro p e s m below meth c ls C hr hlocks hnm hw hl
  have hl : lv_has ls 4 [(0, .ref (ad 732))] := hl
  have hb55 : ∀ (M : mwM) (L : mwL) (H : Heap) (locs : List Loc) (ls : Array Slot), fX19_addRead_b55 fu M L = some (r0, M0, L0) → mw_W G ad NF TF FF M L H locs → lv_has ls 4 [] → W p l e ({ frames := 3, cells := 0, slots := 0, locals := 69 }) s m [.ref (ad 732)].toArray below meth c H locs 0 0 (MQ below (mw_Qi G ad NF TF FF (mw_eqI r0 M0 L0)) [.ref (ad 732)].toArray s 0 0 (mw_fr G)) (F0 m 55 ls []) := by
    intro M L H locs ls hD hw hl
    unfold fX19_addRead_b55 at hD
    refine lv_iconst (v := 0) C.1.1 C.1.2.1 dX19_addRead_55 (by decide) ?_
    exact mr_iret C hr hlocks hw (by decide +kernel) (Option.some.inj hD) dX19_addRead_56
  have hb33 : ∀ (v1 : Int32) (v2 : Int32) (s0 : Int32) (M : mwM) (L : mwL) (H : Heap) (locs : List Loc) (ls : Array Slot), fX19_addRead_b33 fu v1 v2 s0 M L = some (r0, M0, L0) → mw_W G ad NF TF FF M L H locs → lv_has ls 4 [(0, .ref (ad 732)), (1, .int v1), (2, .int v2)] → W p l e ({ frames := 3, cells := 0, slots := 0, locals := 69 }) s m [.ref (ad 732)].toArray below meth c H locs 0 0 (MQ below (mw_Qi G ad NF TF FF (mw_eqI r0 M0 L0)) [.ref (ad 732)].toArray s 0 0 (mw_fr G)) (F0 m 33 ls [.int s0]) := by
    intro v1 v2 s0 M L H locs ls hD hw hl
    unfold fX19_addRead_b33 at hD
    refine lv_istore_n (lv' := [(3, .int s0), (0, .ref (ad 732)), (1, .int v1), (2, .int v2)]) C.1.1 C.1.2.1 dX19_addRead_33 rfl hl (by decide) rfl (fun ls hl => ?_)
    refine lv_iload_n C.1.1 C.1.2.1 dX19_addRead_34 rfl (lv_at hl 0 rfl) ?_
    refine lv_if_lt (tgt := 55) C.1.1 C.1.2.1 dX19_addRead_35 (by decide) (fun c5 => ?_) (fun c5 => ?_)
    · replace hD := g_pos c5 hD
      exact hb55 M L _ _ ls hD hw (lv_sub hl [] rfl)
    · replace hD := g_neg c5 hD
      refine lv_aload_n C.1.1 C.1.2.1 dX19_addRead_38 rfl (lv_at hl 1 rfl) ?_
      refine lv_iconst (v := 0) C.1.1 C.1.2.1 dX19_addRead_39 (by decide) ?_
      refine lv_bipush (v := 99) C.1.1 C.1.2.1 dX19_addRead_40 (by decide) ?_
      obtain ⟨r8, M6, L7, h1, hD⟩ := g_b3 hD
      refine md_cvI (As := [.int 0, .int 99]) (rest := []) C hw (tX19_number l G ad fu 0 99 M L h1) kc_19 (by decide) tf_732 wd_3211 cwX19_number ⟨Nat.le_of_ble_eq_true rfl, Nat.le_of_ble_eq_true rfl⟩ rfl hl.1 (Nat.le_of_ble_eq_true rfl) dX19_addRead_42 rfl rfl ⟨Nat.zero_le _, Nat.zero_le _⟩ rfl (fun H locs hw => ?_)
      refine lv_if_eq (tgt := 55) C.1.1 C.1.2.1 dX19_addRead_45 (by decide) (fun c9 => ?_) (fun c9 => ?_)
      · replace hD := g_pos c9 hD
        exact hb55 M6 L7 _ _ ls hD hw (lv_sub hl [] rfl)
      · replace hD := g_neg c9 hD
        refine lv_aload_n C.1.1 C.1.2.1 dX19_addRead_48 rfl (lv_at hl 1 rfl) ?_
        obtain ⟨r12, M10, L11, h1, hD⟩ := g_b3 hD
        refine md_cvI (As := []) (rest := []) C hw (tX19_end l G ad fu M6 L7 h1) kc_19 (by decide) tf_732 wd_3194 cwX19_end ⟨Nat.le_of_ble_eq_true rfl, Nat.le_of_ble_eq_true rfl⟩ rfl hl.1 (Nat.le_of_ble_eq_true rfl) dX19_addRead_49 rfl rfl ⟨Nat.zero_le _, Nat.zero_le _⟩ rfl (fun H locs hw => ?_)
        refine lv_if_ne (tgt := 57) C.1.1 C.1.2.1 dX19_addRead_52 (by decide) (fun c13 => ?_) (fun c13 => ?_)
        · replace hD := g_neg c13 hD
          refine lv_aload_n C.1.1 C.1.2.1 dX19_addRead_57 rfl (lv_at hl 1 rfl) ?_
          refine mr_getR C hw kc_19 26 (by decide) tf_732 ff_732_26 wd_2807 dX19_addRead_58 (by decide) rfl ?_
          refine lv_aload_n C.1.1 C.1.2.1 dX19_addRead_61 rfl (lv_at hl 1 rfl) ?_
          refine mr_getR C hw kc_19 34 (by decide) tf_732 ff_732_34 wd_2815 dX19_addRead_62 (by decide) rfl ?_
          refine lv_iload_n C.1.1 C.1.2.1 dX19_addRead_65 rfl (lv_at hl 3 rfl) ?_
          obtain ⟨q14, hD⟩ := g_ck hD
          refine mr_iald C hw (by decide) tf_749 q14 dX19_addRead_66 ?_
          obtain ⟨q15, hD⟩ := g_ck hD
          refine mr_iald C hw (by decide) tf_742 q15 dX19_addRead_67 ?_
          refine lv_aload_n C.1.1 C.1.2.1 dX19_addRead_68 rfl (lv_at hl 1 rfl) ?_
          refine lv_iload_n C.1.1 C.1.2.1 dX19_addRead_69 rfl (lv_at hl 2 rfl) ?_
          obtain ⟨r18, M16, L17, h1, hD⟩ := g_b3 hD
          refine md_cvI (As := [.int v1]) (rest := [.int (M10 742 (M10 749 v2.toNatClampNeg).toNatClampNeg)]) C hw (tX19_senderOf l G ad fu v1 M10 L11 h1) kc_19 (by decide) tf_732 wd_3362 cwX19_senderOf ⟨Nat.le_of_ble_eq_true rfl, Nat.le_of_ble_eq_true rfl⟩ rfl hl.1 (Nat.le_of_ble_eq_true rfl) dX19_addRead_70 rfl rfl ⟨Nat.zero_le _, Nat.zero_le _⟩ rfl (fun H locs hw => ?_)
          refine lv_icmp_ne (tgt := 87) C.1.1 C.1.2.1 dX19_addRead_73 (by decide) (fun c19 => ?_) (fun c19 => ?_)
          · replace hD := g_neg c19 hD
            refine lv_aload_n C.1.1 C.1.2.1 dX19_addRead_87 rfl (lv_at hl 1 rfl) ?_
            refine mr_getI C hw kc_19 55 (by decide) tf_732 wd_2836 dX19_addRead_88 (by decide) rfl ?_
            refine lv_bipush (v := 60) C.1.1 C.1.2.1 dX19_addRead_91 (by decide) ?_
            refine lv_icmp_ne (tgt := 107) C.1.1 C.1.2.1 dX19_addRead_93 (by decide) (fun c20 => ?_) (fun c20 => ?_)
            · replace hD := g_neg c20 hD
              refine lv_aload_n C.1.1 C.1.2.1 dX19_addRead_107 rfl (lv_at hl 1 rfl) ?_
              refine mr_getR C hw kc_19 56 (by decide) tf_732 ff_732_56 wd_2837 dX19_addRead_108 (by decide) rfl ?_
              refine lv_aload_n C.1.1 C.1.2.1 dX19_addRead_111 rfl (lv_at hl 1 rfl) ?_
              refine mr_getI C hw kc_19 55 (by decide) tf_732 wd_2836 dX19_addRead_112 (by decide) rfl ?_
              refine lv_iload_n C.1.1 C.1.2.1 dX19_addRead_115 rfl (lv_at hl 2 rfl) ?_
              obtain ⟨q21, hD⟩ := g_ck hD
              obtain ⟨M22, eM22, hD⟩ := g_let hD
              refine mr_iast C hw (by decide) tf_769 q21 dX19_addRead_116 (fun H locs hw => ?_)
              replace hw : mw_W G ad NF TF FF M22 L17 H locs := by rw [eM22]; exact hw
              refine lv_aload_n C.1.1 C.1.2.1 dX19_addRead_117 rfl (lv_at hl 1 rfl) ?_
              refine mr_getR C hw kc_19 57 (by decide) tf_732 ff_732_57 wd_2838 dX19_addRead_118 (by decide) rfl ?_
              refine lv_aload_n C.1.1 C.1.2.1 dX19_addRead_121 rfl (lv_at hl 1 rfl) ?_
              refine mr_getI C hw kc_19 55 (by decide) tf_732 wd_2836 dX19_addRead_122 (by decide) rfl ?_
              refine lv_iload_n C.1.1 C.1.2.1 dX19_addRead_125 rfl (lv_at hl 3 rfl) ?_
              obtain ⟨q23, hD⟩ := g_ck hD
              obtain ⟨M24, eM24, hD⟩ := g_let hD
              refine mr_iast C hw (by decide) tf_770 q23 dX19_addRead_126 (fun H locs hw => ?_)
              replace hw : mw_W G ad NF TF FF M24 L17 H locs := by rw [eM24]; exact hw
              refine lv_aload_n C.1.1 C.1.2.1 dX19_addRead_127 rfl (lv_at hl 1 rfl) ?_
              refine mr_getR C hw kc_19 58 (by decide) tf_732 ff_732_58 wd_2839 dX19_addRead_128 (by decide) rfl ?_
              refine lv_aload_n C.1.1 C.1.2.1 dX19_addRead_131 rfl (lv_at hl 1 rfl) ?_
              refine mr_getI C hw kc_19 55 (by decide) tf_732 wd_2836 dX19_addRead_132 (by decide) rfl ?_
              refine lv_iload_n C.1.1 C.1.2.1 dX19_addRead_135 rfl (lv_at hl 0 rfl) ?_
              obtain ⟨q25, hD⟩ := g_ck hD
              obtain ⟨M26, eM26, hD⟩ := g_let hD
              refine mr_iast C hw (by decide) tf_771 q25 dX19_addRead_136 (fun H locs hw => ?_)
              replace hw : mw_W G ad NF TF FF M26 L17 H locs := by rw [eM26]; exact hw
              refine lv_aload_n C.1.1 C.1.2.1 dX19_addRead_137 rfl (lv_at hl 1 rfl) ?_
              refine mr_getR C hw kc_19 59 (by decide) tf_732 ff_732_59 wd_2840 dX19_addRead_138 (by decide) rfl ?_
              refine lv_aload_n C.1.1 C.1.2.1 dX19_addRead_141 rfl (lv_at hl 1 rfl) ?_
              refine mr_getI C hw kc_19 55 (by decide) tf_732 wd_2836 dX19_addRead_142 (by decide) rfl ?_
              refine lv_aload_n C.1.1 C.1.2.1 dX19_addRead_145 rfl (lv_at hl 1 rfl) ?_
              refine mr_getI C hw kc_19 13 (by decide) tf_732 wd_2794 dX19_addRead_146 (by decide) rfl ?_
              obtain ⟨q27, hD⟩ := g_ck hD
              obtain ⟨M28, eM28, hD⟩ := g_let hD
              refine mr_iast C hw (by decide) tf_772 q27 dX19_addRead_149 (fun H locs hw => ?_)
              replace hw : mw_W G ad NF TF FF M28 L17 H locs := by rw [eM28]; exact hw
              refine lv_aload_n C.1.1 C.1.2.1 dX19_addRead_150 rfl (lv_at hl 1 rfl) ?_
              refine mr_getR C hw kc_19 60 (by decide) tf_732 ff_732_60 wd_2841 dX19_addRead_151 (by decide) rfl ?_
              refine lv_aload_n C.1.1 C.1.2.1 dX19_addRead_154 rfl (lv_at hl 1 rfl) ?_
              refine mr_getI C hw kc_19 55 (by decide) tf_732 wd_2836 dX19_addRead_155 (by decide) rfl ?_
              refine lv_iconst (v := 0) C.1.1 C.1.2.1 dX19_addRead_158 (by decide) ?_
              obtain ⟨q29, hD⟩ := g_ck hD
              obtain ⟨M30, eM30, hD⟩ := g_let hD
              refine mr_zast C hw (by decide) tf_773 q29 dX19_addRead_159 (fun H locs hw => ?_)
              replace hw : mw_W G ad NF TF FF M30 L17 H locs := by rw [eM30]; exact hw
              refine lv_aload_n C.1.1 C.1.2.1 dX19_addRead_160 rfl (lv_at hl 1 rfl) ?_
              refine lv_dup C.1.1 C.1.2.1 dX19_addRead_161 rfl ?_
              refine mr_getI C hw kc_19 55 (by decide) tf_732 wd_2836 dX19_addRead_162 (by decide) rfl ?_
              refine lv_iconst (v := 1) C.1.1 C.1.2.1 dX19_addRead_165 (by decide) ?_
              refine lv_iadd C.1.1 C.1.2.1 dX19_addRead_166 ?_
              obtain ⟨M31, eM31, hD⟩ := g_let hD
              refine mr_putI C hw kc_19 55 (by decide) tf_732 wd_2836 dX19_addRead_167 (by decide) rfl rfl rfl rfl (fun H locs hw => ?_)
              replace hw : mw_W G ad NF TF FF M31 L17 H locs := by rw [eM31]; exact hw
              refine lv_iconst (v := 1) C.1.1 C.1.2.1 dX19_addRead_170 (by decide) ?_
              exact mr_iret C hr hlocks hw (by decide +kernel) (Option.some.inj hD) dX19_addRead_171
            · replace hD := g_pos c20 hD
              refine lv_aload_n C.1.1 C.1.2.1 dX19_addRead_96 rfl (lv_at hl 1 rfl) ?_
              refine lv_bipush (v := 6) C.1.1 C.1.2.1 dX19_addRead_97 (by decide) ?_
              refine lv_aload_n C.1.1 C.1.2.1 dX19_addRead_99 rfl (lv_at hl 1 rfl) ?_
              refine mr_getI C hw kc_19 8 (by decide) tf_732 wd_2789 dX19_addRead_100 (by decide) rfl ?_
              obtain ⟨r34, M32, L33, h1, hD⟩ := g_b3 hD
              refine md_cvI (As := [.int 6, .int (M16 732 8)]) (rest := []) C hw (tX19_fail l G ad fu 6 (M16 732 8) M16 L17 h1) kc_19 (by decide) tf_732 wd_3172 cwX19_fail ⟨Nat.le_of_ble_eq_true rfl, Nat.le_of_ble_eq_true rfl⟩ rfl hl.1 (Nat.le_of_ble_eq_true rfl) dX19_addRead_103 rfl rfl ⟨Nat.zero_le _, Nat.zero_le _⟩ rfl (fun H locs hw => ?_)
              obtain ⟨z35, hD⟩ := g_zz hD
              exact mr_iret C hr hlocks hw (nz_zz z35) (Option.some.inj hD) dX19_addRead_106
          · replace hD := g_pos c19 hD
            refine lv_aload_n C.1.1 C.1.2.1 dX19_addRead_76 rfl (lv_at hl 1 rfl) ?_
            refine lv_bipush (v := 7) C.1.1 C.1.2.1 dX19_addRead_77 (by decide) ?_
            refine lv_aload_n C.1.1 C.1.2.1 dX19_addRead_79 rfl (lv_at hl 1 rfl) ?_
            refine mr_getI C hw kc_19 8 (by decide) tf_732 wd_2789 dX19_addRead_80 (by decide) rfl ?_
            obtain ⟨r38, M36, L37, h1, hD⟩ := g_b3 hD
            refine md_cvI (As := [.int 7, .int (M16 732 8)]) (rest := []) C hw (tX19_fail l G ad fu 7 (M16 732 8) M16 L17 h1) kc_19 (by decide) tf_732 wd_3172 cwX19_fail ⟨Nat.le_of_ble_eq_true rfl, Nat.le_of_ble_eq_true rfl⟩ rfl hl.1 (Nat.le_of_ble_eq_true rfl) dX19_addRead_83 rfl rfl ⟨Nat.zero_le _, Nat.zero_le _⟩ rfl (fun H locs hw => ?_)
            obtain ⟨z39, hD⟩ := g_zz hD
            exact mr_iret C hr hlocks hw (nz_zz z39) (Option.some.inj hD) dX19_addRead_86
        · replace hD := g_pos c13 hD
          exact hb55 M10 L11 _ _ ls hD hw (lv_sub hl [] rfl)
  have hb19 : ∀ (v1 : Int32) (s0 : Int32) (M : mwM) (L : mwL) (H : Heap) (locs : List Loc) (ls : Array Slot), fX19_addRead_b19 fu v1 s0 M L = some (r0, M0, L0) → mw_W G ad NF TF FF M L H locs → lv_has ls 4 [(0, .ref (ad 732)), (1, .int v1)] → W p l e ({ frames := 3, cells := 0, slots := 0, locals := 69 }) s m [.ref (ad 732)].toArray below meth c H locs 0 0 (MQ below (mw_Qi G ad NF TF FF (mw_eqI r0 M0 L0)) [.ref (ad 732)].toArray s 0 0 (mw_fr G)) (F0 m 19 ls [.int s0]) := by
    intro v1 s0 M L H locs ls hD hw hl
    unfold fX19_addRead_b19 at hD
    refine lv_istore_n (lv' := [(2, .int s0), (0, .ref (ad 732)), (1, .int v1)]) C.1.1 C.1.2.1 dX19_addRead_19 rfl hl (by decide) rfl (fun ls hl => ?_)
    refine lv_iload_n C.1.1 C.1.2.1 dX19_addRead_20 rfl (lv_at hl 0 rfl) ?_
    refine lv_if_ge (tgt := 28) C.1.1 C.1.2.1 dX19_addRead_21 (by decide) (fun c1 => ?_) (fun c1 => ?_)
    · replace hD := g_pos c1 hD
      refine lv_aload_n C.1.1 C.1.2.1 dX19_addRead_28 rfl (lv_at hl 1 rfl) ?_
      refine lv_iload_n C.1.1 C.1.2.1 dX19_addRead_29 rfl (lv_at hl 0 rfl) ?_
      obtain ⟨r4, M2, L3, h1, hD⟩ := g_b3 hD
      refine md_cvI (As := [.int s0]) (rest := []) C hw (tX19_datum l G ad fu s0 M L h1) kc_19 (by decide) tf_732 wd_3287 cwX19_datum ⟨Nat.le_of_ble_eq_true rfl, Nat.le_of_ble_eq_true rfl⟩ rfl hl.1 (Nat.le_of_ble_eq_true rfl) dX19_addRead_30 rfl rfl ⟨Nat.zero_le _, Nat.zero_le _⟩ rfl (fun H locs hw => ?_)
      exact hb33 v1 s0 r4 M2 L3 _ _ ls hD hw (lv_sub hl [1, 2, 0] rfl)
    · replace hD := g_neg c1 hD
      refine lv_iconst (v := (-1)) C.1.1 C.1.2.1 dX19_addRead_24 (by decide) ?_
      refine lv_goto (tgt := 33) C.1.1 C.1.2.1 dX19_addRead_25 (by decide) ?_
      exact hb33 v1 s0 ((-1)) M L _ _ ls hD hw (lv_sub hl [1, 2, 0] rfl)
  unfold DX19_addRead at hD
  refine lv_aload_n C.1.1 C.1.2.1 dX19_addRead_0 rfl (lv_at hl 0 rfl) ?_
  refine lv_iconst (v := 4) C.1.1 C.1.2.1 dX19_addRead_1 (by decide) ?_
  obtain ⟨r42, M40, L41, h1, hD⟩ := g_b3 hD
  refine md_cvI (As := [.int 4]) (rest := []) C hw (tX19_named l G ad fu 4 M L h1) kc_19 (by decide) tf_732 wd_3207 cwX19_named ⟨Nat.le_of_ble_eq_true rfl, Nat.le_of_ble_eq_true rfl⟩ rfl hl.1 (Nat.le_of_ble_eq_true rfl) dX19_addRead_2 rfl rfl ⟨Nat.zero_le _, Nat.zero_le _⟩ rfl (fun H locs hw => ?_)
  refine lv_istore_n (lv' := [(1, .int r42), (0, .ref (ad 732))]) C.1.1 C.1.2.1 dX19_addRead_5 rfl hl (by decide) rfl (fun ls hl => ?_)
  refine lv_iload_n C.1.1 C.1.2.1 dX19_addRead_6 rfl (lv_at hl 0 rfl) ?_
  refine lv_if_ge (tgt := 14) C.1.1 C.1.2.1 dX19_addRead_7 (by decide) (fun c43 => ?_) (fun c43 => ?_)
  · replace hD := g_pos c43 hD
    refine lv_aload_n C.1.1 C.1.2.1 dX19_addRead_14 rfl (lv_at hl 1 rfl) ?_
    refine lv_iconst (v := 3) C.1.1 C.1.2.1 dX19_addRead_15 (by decide) ?_
    obtain ⟨r46, M44, L45, h1, hD⟩ := g_b3 hD
    refine md_cvI (As := [.int 3]) (rest := []) C hw (tX19_named l G ad fu 3 M40 L41 h1) kc_19 (by decide) tf_732 wd_3207 cwX19_named ⟨Nat.le_of_ble_eq_true rfl, Nat.le_of_ble_eq_true rfl⟩ rfl hl.1 (Nat.le_of_ble_eq_true rfl) dX19_addRead_16 rfl rfl ⟨Nat.zero_le _, Nat.zero_le _⟩ rfl (fun H locs hw => ?_)
    exact hb19 r42 r46 M44 L45 _ _ ls hD hw (lv_sub hl [1, 0] rfl)
  · replace hD := g_neg c43 hD
    refine lv_iconst (v := (-1)) C.1.1 C.1.2.1 dX19_addRead_10 (by decide) ?_
    refine lv_goto (tgt := 19) C.1.1 C.1.2.1 dX19_addRead_11 (by decide) ?_
    exact hb19 r42 ((-1)) M40 L41 _ _ ls hD hw (lv_sub hl [1, 0] rfl)

theorem dX19_addWatch_0 : decode cX19_addWatch 0 = .ok (.aload_n 0, 1) := by decide +kernel
theorem dX19_addWatch_1 : decode cX19_addWatch 1 = .ok (.iconst 4, 1) := by decide +kernel
theorem dX19_addWatch_2 : decode cX19_addWatch 2 = .ok (.invokevirtual 451, 3) := by decide +kernel
theorem dX19_addWatch_5 : decode cX19_addWatch 5 = .ok (.istore_n 1, 1) := by decide +kernel
theorem dX19_addWatch_6 : decode cX19_addWatch 6 = .ok (.iload_n 1, 1) := by decide +kernel
theorem dX19_addWatch_7 : decode cX19_addWatch 7 = .ok (.ifCond .ge 7, 3) := by decide +kernel
theorem dX19_addWatch_10 : decode cX19_addWatch 10 = .ok (.iconst (-1), 1) := by decide +kernel
theorem dX19_addWatch_11 : decode cX19_addWatch 11 = .ok (.goto 8, 3) := by decide +kernel
theorem dX19_addWatch_14 : decode cX19_addWatch 14 = .ok (.aload_n 0, 1) := by decide +kernel
theorem dX19_addWatch_15 : decode cX19_addWatch 15 = .ok (.iconst 1, 1) := by decide +kernel
theorem dX19_addWatch_16 : decode cX19_addWatch 16 = .ok (.invokevirtual 451, 3) := by decide +kernel
theorem dX19_addWatch_19 : decode cX19_addWatch 19 = .ok (.istore_n 2, 1) := by decide +kernel
theorem dX19_addWatch_20 : decode cX19_addWatch 20 = .ok (.iload_n 2, 1) := by decide +kernel
theorem dX19_addWatch_21 : decode cX19_addWatch 21 = .ok (.ifCond .lt 21, 3) := by decide +kernel
theorem dX19_addWatch_24 : decode cX19_addWatch 24 = .ok (.aload_n 0, 1) := by decide +kernel
theorem dX19_addWatch_25 : decode cX19_addWatch 25 = .ok (.iconst 1, 1) := by decide +kernel
theorem dX19_addWatch_26 : decode cX19_addWatch 26 = .ok (.sipush 255, 3) := by decide +kernel
theorem dX19_addWatch_29 : decode cX19_addWatch 29 = .ok (.invokevirtual 454, 3) := by decide +kernel
theorem dX19_addWatch_32 : decode cX19_addWatch 32 = .ok (.ifCond .eq 10, 3) := by decide +kernel
theorem dX19_addWatch_35 : decode cX19_addWatch 35 = .ok (.aload_n 0, 1) := by decide +kernel
theorem dX19_addWatch_36 : decode cX19_addWatch 36 = .ok (.invokevirtual 441, 3) := by decide +kernel
theorem dX19_addWatch_39 : decode cX19_addWatch 39 = .ok (.ifCond .ne 5, 3) := by decide +kernel
theorem dX19_addWatch_42 : decode cX19_addWatch 42 = .ok (.iconst 0, 1) := by decide +kernel
theorem dX19_addWatch_43 : decode cX19_addWatch 43 = .ok (.ireturn, 1) := by decide +kernel
theorem dX19_addWatch_44 : decode cX19_addWatch 44 = .ok (.iload_n 2, 1) := by decide +kernel
theorem dX19_addWatch_45 : decode cX19_addWatch 45 = .ok (.aload_n 0, 1) := by decide +kernel
theorem dX19_addWatch_46 : decode cX19_addWatch 46 = .ok (.iload_n 1, 1) := by decide +kernel
theorem dX19_addWatch_47 : decode cX19_addWatch 47 = .ok (.invokevirtual 552, 3) := by decide +kernel
theorem dX19_addWatch_50 : decode cX19_addWatch 50 = .ok (.if_icmp .ne 14, 3) := by decide +kernel
theorem dX19_addWatch_53 : decode cX19_addWatch 53 = .ok (.aload_n 0, 1) := by decide +kernel
theorem dX19_addWatch_54 : decode cX19_addWatch 54 = .ok (.bipush 7, 2) := by decide +kernel
theorem dX19_addWatch_56 : decode cX19_addWatch 56 = .ok (.aload_n 0, 1) := by decide +kernel
theorem dX19_addWatch_57 : decode cX19_addWatch 57 = .ok (.getfield 366, 3) := by decide +kernel
theorem dX19_addWatch_60 : decode cX19_addWatch 60 = .ok (.invokevirtual 321, 3) := by decide +kernel
theorem dX19_addWatch_63 : decode cX19_addWatch 63 = .ok (.ireturn, 1) := by decide +kernel
theorem dX19_addWatch_64 : decode cX19_addWatch 64 = .ok (.aload_n 0, 1) := by decide +kernel
theorem dX19_addWatch_65 : decode cX19_addWatch 65 = .ok (.getfield 558, 3) := by decide +kernel
theorem dX19_addWatch_68 : decode cX19_addWatch 68 = .ok (.bipush 30, 2) := by decide +kernel
theorem dX19_addWatch_70 : decode cX19_addWatch 70 = .ok (.if_icmp .ne 14, 3) := by decide +kernel
theorem dX19_addWatch_73 : decode cX19_addWatch 73 = .ok (.aload_n 0, 1) := by decide +kernel
theorem dX19_addWatch_74 : decode cX19_addWatch 74 = .ok (.bipush 6, 2) := by decide +kernel
theorem dX19_addWatch_76 : decode cX19_addWatch 76 = .ok (.aload_n 0, 1) := by decide +kernel
theorem dX19_addWatch_77 : decode cX19_addWatch 77 = .ok (.getfield 366, 3) := by decide +kernel
theorem dX19_addWatch_80 : decode cX19_addWatch 80 = .ok (.invokevirtual 321, 3) := by decide +kernel
theorem dX19_addWatch_83 : decode cX19_addWatch 83 = .ok (.ireturn, 1) := by decide +kernel
theorem dX19_addWatch_84 : decode cX19_addWatch 84 = .ok (.aload_n 0, 1) := by decide +kernel
theorem dX19_addWatch_85 : decode cX19_addWatch 85 = .ok (.getfield 138, 3) := by decide +kernel
theorem dX19_addWatch_88 : decode cX19_addWatch 88 = .ok (.aload_n 0, 1) := by decide +kernel
theorem dX19_addWatch_89 : decode cX19_addWatch 89 = .ok (.getfield 558, 3) := by decide +kernel
theorem dX19_addWatch_92 : decode cX19_addWatch 92 = .ok (.iload_n 1, 1) := by decide +kernel
theorem dX19_addWatch_93 : decode cX19_addWatch 93 = .ok (.iastore, 1) := by decide +kernel
theorem dX19_addWatch_94 : decode cX19_addWatch 94 = .ok (.aload_n 0, 1) := by decide +kernel
theorem dX19_addWatch_95 : decode cX19_addWatch 95 = .ok (.getfield 141, 3) := by decide +kernel
theorem dX19_addWatch_98 : decode cX19_addWatch 98 = .ok (.aload_n 0, 1) := by decide +kernel
theorem dX19_addWatch_99 : decode cX19_addWatch 99 = .ok (.getfield 558, 3) := by decide +kernel
theorem dX19_addWatch_102 : decode cX19_addWatch 102 = .ok (.iload_n 2, 1) := by decide +kernel
theorem dX19_addWatch_103 : decode cX19_addWatch 103 = .ok (.iastore, 1) := by decide +kernel
theorem dX19_addWatch_104 : decode cX19_addWatch 104 = .ok (.aload_n 0, 1) := by decide +kernel
theorem dX19_addWatch_105 : decode cX19_addWatch 105 = .ok (.getfield 144, 3) := by decide +kernel
theorem dX19_addWatch_108 : decode cX19_addWatch 108 = .ok (.aload_n 0, 1) := by decide +kernel
theorem dX19_addWatch_109 : decode cX19_addWatch 109 = .ok (.getfield 558, 3) := by decide +kernel
theorem dX19_addWatch_112 : decode cX19_addWatch 112 = .ok (.aload_n 0, 1) := by decide +kernel
theorem dX19_addWatch_113 : decode cX19_addWatch 113 = .ok (.getfield 205, 3) := by decide +kernel
theorem dX19_addWatch_116 : decode cX19_addWatch 116 = .ok (.aload_n 0, 1) := by decide +kernel
theorem dX19_addWatch_117 : decode cX19_addWatch 117 = .ok (.getfield 338, 3) := by decide +kernel
theorem dX19_addWatch_120 : decode cX19_addWatch 120 = .ok (.bipush 64, 2) := by decide +kernel
theorem dX19_addWatch_122 : decode cX19_addWatch 122 = .ok (.bipush 127, 2) := by decide +kernel
theorem dX19_addWatch_124 : decode cX19_addWatch 124 = .ok (.invokevirtual 561, 3) := by decide +kernel
theorem dX19_addWatch_127 : decode cX19_addWatch 127 = .ok (.iastore, 1) := by decide +kernel
theorem dX19_addWatch_128 : decode cX19_addWatch 128 = .ok (.aload_n 0, 1) := by decide +kernel
theorem dX19_addWatch_129 : decode cX19_addWatch 129 = .ok (.getfield 147, 3) := by decide +kernel
theorem dX19_addWatch_132 : decode cX19_addWatch 132 = .ok (.aload_n 0, 1) := by decide +kernel
theorem dX19_addWatch_133 : decode cX19_addWatch 133 = .ok (.getfield 558, 3) := by decide +kernel
theorem dX19_addWatch_136 : decode cX19_addWatch 136 = .ok (.lconst 0, 1) := by decide +kernel
theorem dX19_addWatch_137 : decode cX19_addWatch 137 = .ok (.lastore, 1) := by decide +kernel
theorem dX19_addWatch_138 : decode cX19_addWatch 138 = .ok (.aload_n 0, 1) := by decide +kernel
theorem dX19_addWatch_139 : decode cX19_addWatch 139 = .ok (.dup, 1) := by decide +kernel
theorem dX19_addWatch_140 : decode cX19_addWatch 140 = .ok (.getfield 558, 3) := by decide +kernel
theorem dX19_addWatch_143 : decode cX19_addWatch 143 = .ok (.iconst 1, 1) := by decide +kernel
theorem dX19_addWatch_144 : decode cX19_addWatch 144 = .ok (.iadd, 1) := by decide +kernel
theorem dX19_addWatch_145 : decode cX19_addWatch 145 = .ok (.putfield 558, 3) := by decide +kernel
theorem dX19_addWatch_148 : decode cX19_addWatch 148 = .ok (.iconst 1, 1) := by decide +kernel
theorem dX19_addWatch_149 : decode cX19_addWatch 149 = .ok (.ireturn, 1) := by decide +kernel
theorem cwX19_addWatch : mw_cwV yX19_addWatch cX19_addWatch 3 ((some .boolean)) 0 := ⟨⟨wd_13, wd_3370, by decide +kernel⟩, wd_3369, sl_188⟩
set_option maxHeartbeats 4000000 in
set_option maxRecDepth 100000 in
theorem tX19_addWatch (l : Launch) (G : mwG) (ad : Nat → Nat) (fu : Nat) (M : mwM) (L : mwL) {r0 : Int32} {M0 : mwM} {L0 : mwL} (hD : DX19_addWatch fu M L = some (r0, M0, L0)) : Met l yX19_addWatch (Cond.code yX19_addWatch cX19_addWatch 3 ((some .boolean)) :: GT) ({ frames := 3, cells := 0, slots := 0, locals := 68 }) (mw_Pre G ad NF TF FF M L [.ref (ad 732)]) (mw_Qi G ad NF TF FF (mw_eqI r0 M0 L0)) 0 0 (mw_fr G) := by
  refine mw_enter (by decide) (Nat.le_of_ble_eq_true rfl) ?_
  intro p e s m below meth c ls C hr hlocks hnm hw hl
  have hl : lv_has ls 3 [(0, .ref (ad 732))] := hl
  have hb42 : ∀ (M : mwM) (L : mwL) (H : Heap) (locs : List Loc) (ls : Array Slot), fX19_addWatch_b42 fu M L = some (r0, M0, L0) → mw_W G ad NF TF FF M L H locs → lv_has ls 3 [] → W p l e ({ frames := 3, cells := 0, slots := 0, locals := 68 }) s m [.ref (ad 732)].toArray below meth c H locs 0 0 (MQ below (mw_Qi G ad NF TF FF (mw_eqI r0 M0 L0)) [.ref (ad 732)].toArray s 0 0 (mw_fr G)) (F0 m 42 ls []) := by
    intro M L H locs ls hD hw hl
    unfold fX19_addWatch_b42 at hD
    refine lv_iconst (v := 0) C.1.1 C.1.2.1 dX19_addWatch_42 (by decide) ?_
    exact mr_iret C hr hlocks hw (by decide +kernel) (Option.some.inj hD) dX19_addWatch_43
  have hb19 : ∀ (v1 : Int32) (s0 : Int32) (M : mwM) (L : mwL) (H : Heap) (locs : List Loc) (ls : Array Slot), fX19_addWatch_b19 fu v1 s0 M L = some (r0, M0, L0) → mw_W G ad NF TF FF M L H locs → lv_has ls 3 [(0, .ref (ad 732)), (1, .int v1)] → W p l e ({ frames := 3, cells := 0, slots := 0, locals := 68 }) s m [.ref (ad 732)].toArray below meth c H locs 0 0 (MQ below (mw_Qi G ad NF TF FF (mw_eqI r0 M0 L0)) [.ref (ad 732)].toArray s 0 0 (mw_fr G)) (F0 m 19 ls [.int s0]) := by
    intro v1 s0 M L H locs ls hD hw hl
    unfold fX19_addWatch_b19 at hD
    refine lv_istore_n (lv' := [(2, .int s0), (0, .ref (ad 732)), (1, .int v1)]) C.1.1 C.1.2.1 dX19_addWatch_19 rfl hl (by decide) rfl (fun ls hl => ?_)
    refine lv_iload_n C.1.1 C.1.2.1 dX19_addWatch_20 rfl (lv_at hl 0 rfl) ?_
    refine lv_if_lt (tgt := 42) C.1.1 C.1.2.1 dX19_addWatch_21 (by decide) (fun c1 => ?_) (fun c1 => ?_)
    · replace hD := g_pos c1 hD
      exact hb42 M L _ _ ls hD hw (lv_sub hl [] rfl)
    · replace hD := g_neg c1 hD
      refine lv_aload_n C.1.1 C.1.2.1 dX19_addWatch_24 rfl (lv_at hl 1 rfl) ?_
      refine lv_iconst (v := 1) C.1.1 C.1.2.1 dX19_addWatch_25 (by decide) ?_
      refine lv_sipush (v := 255) C.1.1 C.1.2.1 dX19_addWatch_26 (by decide) ?_
      obtain ⟨r4, M2, L3, h1, hD⟩ := g_b3 hD
      refine md_cvI (As := [.int 1, .int 255]) (rest := []) C hw (tX19_number l G ad fu 1 255 M L h1) kc_19 (by decide) tf_732 wd_3211 cwX19_number ⟨Nat.le_of_ble_eq_true rfl, Nat.le_of_ble_eq_true rfl⟩ rfl hl.1 (Nat.le_of_ble_eq_true rfl) dX19_addWatch_29 rfl rfl ⟨Nat.zero_le _, Nat.zero_le _⟩ rfl (fun H locs hw => ?_)
      refine lv_if_eq (tgt := 42) C.1.1 C.1.2.1 dX19_addWatch_32 (by decide) (fun c5 => ?_) (fun c5 => ?_)
      · replace hD := g_pos c5 hD
        exact hb42 M2 L3 _ _ ls hD hw (lv_sub hl [] rfl)
      · replace hD := g_neg c5 hD
        refine lv_aload_n C.1.1 C.1.2.1 dX19_addWatch_35 rfl (lv_at hl 1 rfl) ?_
        obtain ⟨r8, M6, L7, h1, hD⟩ := g_b3 hD
        refine md_cvI (As := []) (rest := []) C hw (tX19_end l G ad fu M2 L3 h1) kc_19 (by decide) tf_732 wd_3194 cwX19_end ⟨Nat.le_of_ble_eq_true rfl, Nat.le_of_ble_eq_true rfl⟩ rfl hl.1 (Nat.le_of_ble_eq_true rfl) dX19_addWatch_36 rfl rfl ⟨Nat.zero_le _, Nat.zero_le _⟩ rfl (fun H locs hw => ?_)
        refine lv_if_ne (tgt := 44) C.1.1 C.1.2.1 dX19_addWatch_39 (by decide) (fun c9 => ?_) (fun c9 => ?_)
        · replace hD := g_neg c9 hD
          refine lv_iload_n C.1.1 C.1.2.1 dX19_addWatch_44 rfl (lv_at hl 0 rfl) ?_
          refine lv_aload_n C.1.1 C.1.2.1 dX19_addWatch_45 rfl (lv_at hl 1 rfl) ?_
          refine lv_iload_n C.1.1 C.1.2.1 dX19_addWatch_46 rfl (lv_at hl 2 rfl) ?_
          obtain ⟨r12, M10, L11, h1, hD⟩ := g_b3 hD
          refine md_cvI (As := [.int v1]) (rest := [.int s0]) C hw (tX19_senderOf l G ad fu v1 M6 L7 h1) kc_19 (by decide) tf_732 wd_3362 cwX19_senderOf ⟨Nat.le_of_ble_eq_true rfl, Nat.le_of_ble_eq_true rfl⟩ rfl hl.1 (Nat.le_of_ble_eq_true rfl) dX19_addWatch_47 rfl rfl ⟨Nat.zero_le _, Nat.zero_le _⟩ rfl (fun H locs hw => ?_)
          refine lv_icmp_ne (tgt := 64) C.1.1 C.1.2.1 dX19_addWatch_50 (by decide) (fun c13 => ?_) (fun c13 => ?_)
          · replace hD := g_neg c13 hD
            refine lv_aload_n C.1.1 C.1.2.1 dX19_addWatch_64 rfl (lv_at hl 1 rfl) ?_
            refine mr_getI C hw kc_19 62 (by decide) tf_732 wd_2843 dX19_addWatch_65 (by decide) rfl ?_
            refine lv_bipush (v := 30) C.1.1 C.1.2.1 dX19_addWatch_68 (by decide) ?_
            refine lv_icmp_ne (tgt := 84) C.1.1 C.1.2.1 dX19_addWatch_70 (by decide) (fun c14 => ?_) (fun c14 => ?_)
            · replace hD := g_neg c14 hD
              refine lv_aload_n C.1.1 C.1.2.1 dX19_addWatch_84 rfl (lv_at hl 1 rfl) ?_
              refine mr_getR C hw kc_19 63 (by decide) tf_732 ff_732_63 wd_2844 dX19_addWatch_85 (by decide) rfl ?_
              refine lv_aload_n C.1.1 C.1.2.1 dX19_addWatch_88 rfl (lv_at hl 1 rfl) ?_
              refine mr_getI C hw kc_19 62 (by decide) tf_732 wd_2843 dX19_addWatch_89 (by decide) rfl ?_
              refine lv_iload_n C.1.1 C.1.2.1 dX19_addWatch_92 rfl (lv_at hl 2 rfl) ?_
              obtain ⟨q15, hD⟩ := g_ck hD
              obtain ⟨M16, eM16, hD⟩ := g_let hD
              refine mr_iast C hw (by decide) tf_775 q15 dX19_addWatch_93 (fun H locs hw => ?_)
              replace hw : mw_W G ad NF TF FF M16 L11 H locs := by rw [eM16]; exact hw
              refine lv_aload_n C.1.1 C.1.2.1 dX19_addWatch_94 rfl (lv_at hl 1 rfl) ?_
              refine mr_getR C hw kc_19 64 (by decide) tf_732 ff_732_64 wd_2845 dX19_addWatch_95 (by decide) rfl ?_
              refine lv_aload_n C.1.1 C.1.2.1 dX19_addWatch_98 rfl (lv_at hl 1 rfl) ?_
              refine mr_getI C hw kc_19 62 (by decide) tf_732 wd_2843 dX19_addWatch_99 (by decide) rfl ?_
              refine lv_iload_n C.1.1 C.1.2.1 dX19_addWatch_102 rfl (lv_at hl 0 rfl) ?_
              obtain ⟨q17, hD⟩ := g_ck hD
              obtain ⟨M18, eM18, hD⟩ := g_let hD
              refine mr_iast C hw (by decide) tf_776 q17 dX19_addWatch_103 (fun H locs hw => ?_)
              replace hw : mw_W G ad NF TF FF M18 L11 H locs := by rw [eM18]; exact hw
              refine lv_aload_n C.1.1 C.1.2.1 dX19_addWatch_104 rfl (lv_at hl 1 rfl) ?_
              refine mr_getR C hw kc_19 65 (by decide) tf_732 ff_732_65 wd_2846 dX19_addWatch_105 (by decide) rfl ?_
              refine lv_aload_n C.1.1 C.1.2.1 dX19_addWatch_108 rfl (lv_at hl 1 rfl) ?_
              refine mr_getI C hw kc_19 62 (by decide) tf_732 wd_2843 dX19_addWatch_109 (by decide) rfl ?_
              refine lv_aload_n C.1.1 C.1.2.1 dX19_addWatch_112 rfl (lv_at hl 1 rfl) ?_
              refine mr_getR C hw kc_19 80 (by decide) tf_732 ff_732_80 wd_2861 dX19_addWatch_113 (by decide) rfl ?_
              refine lv_aload_n C.1.1 C.1.2.1 dX19_addWatch_116 rfl (lv_at hl 1 rfl) ?_
              refine mr_getI C hw kc_19 13 (by decide) tf_732 wd_2794 dX19_addWatch_117 (by decide) rfl ?_
              refine lv_bipush (v := 64) C.1.1 C.1.2.1 dX19_addWatch_120 (by decide) ?_
              refine lv_bipush (v := 127) C.1.1 C.1.2.1 dX19_addWatch_122 (by decide) ?_
              obtain ⟨r21, M19, L20, h1, hD⟩ := g_b3 hD
              refine md_cvI (As := [.int (M18 732 13), .int 64, .int 127]) (rest := [.int (M18 732 62), .ref (ad 777)]) C hw (tX18_code l G ad fu (M18 732 13) 64 127 M18 L11 h1) kc_18 (by decide) tf_902 wd_3371 cwX18_code ⟨Nat.le_of_ble_eq_true rfl, Nat.le_of_ble_eq_true rfl⟩ rfl hl.1 (Nat.le_of_ble_eq_true rfl) dX19_addWatch_124 rfl rfl ⟨Nat.zero_le _, Nat.zero_le _⟩ rfl (fun H locs hw => ?_)
              obtain ⟨q22, hD⟩ := g_ck hD
              obtain ⟨M23, eM23, hD⟩ := g_let hD
              refine mr_iast C hw (by decide) tf_777 q22 dX19_addWatch_127 (fun H locs hw => ?_)
              replace hw : mw_W G ad NF TF FF M23 L20 H locs := by rw [eM23]; exact hw
              refine lv_aload_n C.1.1 C.1.2.1 dX19_addWatch_128 rfl (lv_at hl 1 rfl) ?_
              refine mr_getR C hw kc_19 66 (by decide) tf_732 ff_732_66 wd_2847 dX19_addWatch_129 (by decide) rfl ?_
              refine lv_aload_n C.1.1 C.1.2.1 dX19_addWatch_132 rfl (lv_at hl 1 rfl) ?_
              refine mr_getI C hw kc_19 62 (by decide) tf_732 wd_2843 dX19_addWatch_133 (by decide) rfl ?_
              refine lv_lconst (v := 0) C.1.1 C.1.2.1 dX19_addWatch_136 (by decide) ?_
              obtain ⟨q24, hD⟩ := g_ck hD
              obtain ⟨L25, eL25, hD⟩ := g_let hD
              refine mr_last C hw (by decide) tf_778 q24 dX19_addWatch_137 (fun H locs hw => ?_)
              replace hw : mw_W G ad NF TF FF M23 L25 H locs := by rw [eL25]; exact hw
              refine lv_aload_n C.1.1 C.1.2.1 dX19_addWatch_138 rfl (lv_at hl 1 rfl) ?_
              refine lv_dup C.1.1 C.1.2.1 dX19_addWatch_139 rfl ?_
              refine mr_getI C hw kc_19 62 (by decide) tf_732 wd_2843 dX19_addWatch_140 (by decide) rfl ?_
              refine lv_iconst (v := 1) C.1.1 C.1.2.1 dX19_addWatch_143 (by decide) ?_
              refine lv_iadd C.1.1 C.1.2.1 dX19_addWatch_144 ?_
              obtain ⟨M26, eM26, hD⟩ := g_let hD
              refine mr_putI C hw kc_19 62 (by decide) tf_732 wd_2843 dX19_addWatch_145 (by decide) rfl rfl rfl rfl (fun H locs hw => ?_)
              replace hw : mw_W G ad NF TF FF M26 L25 H locs := by rw [eM26]; exact hw
              refine lv_iconst (v := 1) C.1.1 C.1.2.1 dX19_addWatch_148 (by decide) ?_
              exact mr_iret C hr hlocks hw (by decide +kernel) (Option.some.inj hD) dX19_addWatch_149
            · replace hD := g_pos c14 hD
              refine lv_aload_n C.1.1 C.1.2.1 dX19_addWatch_73 rfl (lv_at hl 1 rfl) ?_
              refine lv_bipush (v := 6) C.1.1 C.1.2.1 dX19_addWatch_74 (by decide) ?_
              refine lv_aload_n C.1.1 C.1.2.1 dX19_addWatch_76 rfl (lv_at hl 1 rfl) ?_
              refine mr_getI C hw kc_19 8 (by decide) tf_732 wd_2789 dX19_addWatch_77 (by decide) rfl ?_
              obtain ⟨r29, M27, L28, h1, hD⟩ := g_b3 hD
              refine md_cvI (As := [.int 6, .int (M10 732 8)]) (rest := []) C hw (tX19_fail l G ad fu 6 (M10 732 8) M10 L11 h1) kc_19 (by decide) tf_732 wd_3172 cwX19_fail ⟨Nat.le_of_ble_eq_true rfl, Nat.le_of_ble_eq_true rfl⟩ rfl hl.1 (Nat.le_of_ble_eq_true rfl) dX19_addWatch_80 rfl rfl ⟨Nat.zero_le _, Nat.zero_le _⟩ rfl (fun H locs hw => ?_)
              obtain ⟨z30, hD⟩ := g_zz hD
              exact mr_iret C hr hlocks hw (nz_zz z30) (Option.some.inj hD) dX19_addWatch_83
          · replace hD := g_pos c13 hD
            refine lv_aload_n C.1.1 C.1.2.1 dX19_addWatch_53 rfl (lv_at hl 1 rfl) ?_
            refine lv_bipush (v := 7) C.1.1 C.1.2.1 dX19_addWatch_54 (by decide) ?_
            refine lv_aload_n C.1.1 C.1.2.1 dX19_addWatch_56 rfl (lv_at hl 1 rfl) ?_
            refine mr_getI C hw kc_19 8 (by decide) tf_732 wd_2789 dX19_addWatch_57 (by decide) rfl ?_
            obtain ⟨r33, M31, L32, h1, hD⟩ := g_b3 hD
            refine md_cvI (As := [.int 7, .int (M10 732 8)]) (rest := []) C hw (tX19_fail l G ad fu 7 (M10 732 8) M10 L11 h1) kc_19 (by decide) tf_732 wd_3172 cwX19_fail ⟨Nat.le_of_ble_eq_true rfl, Nat.le_of_ble_eq_true rfl⟩ rfl hl.1 (Nat.le_of_ble_eq_true rfl) dX19_addWatch_60 rfl rfl ⟨Nat.zero_le _, Nat.zero_le _⟩ rfl (fun H locs hw => ?_)
            obtain ⟨z34, hD⟩ := g_zz hD
            exact mr_iret C hr hlocks hw (nz_zz z34) (Option.some.inj hD) dX19_addWatch_63
        · replace hD := g_pos c9 hD
          exact hb42 M6 L7 _ _ ls hD hw (lv_sub hl [] rfl)
  unfold DX19_addWatch at hD
  refine lv_aload_n C.1.1 C.1.2.1 dX19_addWatch_0 rfl (lv_at hl 0 rfl) ?_
  refine lv_iconst (v := 4) C.1.1 C.1.2.1 dX19_addWatch_1 (by decide) ?_
  obtain ⟨r37, M35, L36, h1, hD⟩ := g_b3 hD
  refine md_cvI (As := [.int 4]) (rest := []) C hw (tX19_named l G ad fu 4 M L h1) kc_19 (by decide) tf_732 wd_3207 cwX19_named ⟨Nat.le_of_ble_eq_true rfl, Nat.le_of_ble_eq_true rfl⟩ rfl hl.1 (Nat.le_of_ble_eq_true rfl) dX19_addWatch_2 rfl rfl ⟨Nat.zero_le _, Nat.zero_le _⟩ rfl (fun H locs hw => ?_)
  refine lv_istore_n (lv' := [(1, .int r37), (0, .ref (ad 732))]) C.1.1 C.1.2.1 dX19_addWatch_5 rfl hl (by decide) rfl (fun ls hl => ?_)
  refine lv_iload_n C.1.1 C.1.2.1 dX19_addWatch_6 rfl (lv_at hl 0 rfl) ?_
  refine lv_if_ge (tgt := 14) C.1.1 C.1.2.1 dX19_addWatch_7 (by decide) (fun c38 => ?_) (fun c38 => ?_)
  · replace hD := g_pos c38 hD
    refine lv_aload_n C.1.1 C.1.2.1 dX19_addWatch_14 rfl (lv_at hl 1 rfl) ?_
    refine lv_iconst (v := 1) C.1.1 C.1.2.1 dX19_addWatch_15 (by decide) ?_
    obtain ⟨r41, M39, L40, h1, hD⟩ := g_b3 hD
    refine md_cvI (As := [.int 1]) (rest := []) C hw (tX19_named l G ad fu 1 M35 L36 h1) kc_19 (by decide) tf_732 wd_3207 cwX19_named ⟨Nat.le_of_ble_eq_true rfl, Nat.le_of_ble_eq_true rfl⟩ rfl hl.1 (Nat.le_of_ble_eq_true rfl) dX19_addWatch_16 rfl rfl ⟨Nat.zero_le _, Nat.zero_le _⟩ rfl (fun H locs hw => ?_)
    exact hb19 r37 r41 M39 L40 _ _ ls hD hw (lv_sub hl [1, 0] rfl)
  · replace hD := g_neg c38 hD
    refine lv_iconst (v := (-1)) C.1.1 C.1.2.1 dX19_addWatch_10 (by decide) ?_
    refine lv_goto (tgt := 19) C.1.1 C.1.2.1 dX19_addWatch_11 (by decide) ?_
    exact hb19 r37 ((-1)) M35 L36 _ _ ls hD hw (lv_sub hl [1, 0] rfl)
