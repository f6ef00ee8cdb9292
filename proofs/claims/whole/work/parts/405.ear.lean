theorem dX5_nextCheck_0 : decode cX5_nextCheck 0 = .ok (.iload_n 0, 1) := by decide +kernel
theorem dX5_nextCheck_1 : decode cX5_nextCheck 1 = .ok (.iconst 1, 1) := by decide +kernel
theorem dX5_nextCheck_2 : decode cX5_nextCheck 2 = .ok (.ishl, 1) := by decide +kernel
theorem dX5_nextCheck_3 : decode cX5_nextCheck 3 = .ok (.iconst 1, 1) := by decide +kernel
theorem dX5_nextCheck_4 : decode cX5_nextCheck 4 = .ok (.iload_n 2, 1) := by decide +kernel
theorem dX5_nextCheck_5 : decode cX5_nextCheck 5 = .ok (.ishl, 1) := by decide +kernel
theorem dX5_nextCheck_6 : decode cX5_nextCheck 6 = .ok (.iconst 1, 1) := by decide +kernel
theorem dX5_nextCheck_7 : decode cX5_nextCheck 7 = .ok (.isub, 1) := by decide +kernel
theorem dX5_nextCheck_8 : decode cX5_nextCheck 8 = .ok (.iand, 1) := by decide +kernel
theorem dX5_nextCheck_9 : decode cX5_nextCheck 9 = .ok (.istore 4, 2) := by decide +kernel
theorem dX5_nextCheck_11 : decode cX5_nextCheck 11 = .ok (.iload_n 0, 1) := by decide +kernel
theorem dX5_nextCheck_12 : decode cX5_nextCheck 12 = .ok (.iload_n 2, 1) := by decide +kernel
theorem dX5_nextCheck_13 : decode cX5_nextCheck 13 = .ok (.iconst 1, 1) := by decide +kernel
theorem dX5_nextCheck_14 : decode cX5_nextCheck 14 = .ok (.isub, 1) := by decide +kernel
theorem dX5_nextCheck_15 : decode cX5_nextCheck 15 = .ok (.ishr, 1) := by decide +kernel
theorem dX5_nextCheck_16 : decode cX5_nextCheck 16 = .ok (.iconst 1, 1) := by decide +kernel
theorem dX5_nextCheck_17 : decode cX5_nextCheck 17 = .ok (.iand, 1) := by decide +kernel
theorem dX5_nextCheck_18 : decode cX5_nextCheck 18 = .ok (.iload_n 1, 1) := by decide +kernel
theorem dX5_nextCheck_19 : decode cX5_nextCheck 19 = .ok (.if_icmp .eq 10, 3) := by decide +kernel
theorem dX5_nextCheck_22 : decode cX5_nextCheck 22 = .ok (.iload 4, 2) := by decide +kernel
theorem dX5_nextCheck_24 : decode cX5_nextCheck 24 = .ok (.iload_n 3, 1) := by decide +kernel
theorem dX5_nextCheck_25 : decode cX5_nextCheck 25 = .ok (.ixor, 1) := by decide +kernel
theorem dX5_nextCheck_26 : decode cX5_nextCheck 26 = .ok (.goto 5, 3) := by decide +kernel
theorem dX5_nextCheck_29 : decode cX5_nextCheck 29 = .ok (.iload 4, 2) := by decide +kernel
theorem dX5_nextCheck_31 : decode cX5_nextCheck 31 = .ok (.ireturn, 1) := by decide +kernel
theorem cwX5_nextCheck : mw_cwS yX5_nextCheck cX5_nextCheck 5 ((some .int)) 4 := ⟨⟨wd_6, wd_1364, by decide +kernel⟩, wd_1363⟩
set_option maxHeartbeats 4000000 in
set_option maxRecDepth 100000 in
theorem tX5_nextCheck (l : Launch) (G : mwG) (ad : Nat → Nat) (fu : Nat) (a1 : Int32) (a2 : Int32) (a3 : Int32) (a4 : Int32) (M : mwM) (L : mwL) {r0 : Int32} {M0 : mwM} {L0 : mwL} (hD : DX5_nextCheck fu a1 a2 a3 a4 M L = some (r0, M0, L0)) : Met l yX5_nextCheck (Cond.code yX5_nextCheck cX5_nextCheck 5 ((some .int)) :: GT) ({ frames := 0, cells := 0, slots := 0, locals := 0 }) (mw_Pre G ad NF TF FF M L [.int a1, .int a2, .int a3, .int a4]) (mw_Qi G ad NF TF FF (mw_eqI r0 M0 L0)) 0 0 (mw_fr G) := by
  refine mw_enter (by decide) (Nat.le_of_ble_eq_true rfl) ?_
  intro p e s m below meth c ls C hr hlocks hnm hw hl
  have hl : lv_has ls 5 [(0, .int a1), (1, .int a2), (2, .int a3), (3, .int a4)] := hl
  have hb31 : ∀ (s0 : Int32) (M : mwM) (L : mwL) (H : Heap) (locs : List Loc) (ls : Array Slot), fX5_nextCheck_b31 fu a1 a2 a3 a4 s0 M L = some (r0, M0, L0) → mw_W G ad NF TF FF M L H locs → lv_has ls 5 [] → W p l e ({ frames := 0, cells := 0, slots := 0, locals := 0 }) s m [.int a1, .int a2, .int a3, .int a4].toArray below meth c H locs 0 0 (MQ below (mw_Qi G ad NF TF FF (mw_eqI r0 M0 L0)) [.int a1, .int a2, .int a3, .int a4].toArray s 0 0 (mw_fr G)) (F0 m 31 ls [.int s0]) := by
    intro s0 M L H locs ls hD hw hl
    unfold fX5_nextCheck_b31 at hD
    exact mr_iret C hr hlocks hw rfl (Option.some.inj hD) dX5_nextCheck_31
  unfold DX5_nextCheck at hD
  refine lv_iload_n C.1.1 C.1.2.1 dX5_nextCheck_0 rfl (lv_at hl 0 rfl) ?_
  refine lv_iconst (v := 1) C.1.1 C.1.2.1 dX5_nextCheck_1 (by decide) ?_
  refine lv_ishl C.1.1 C.1.2.1 dX5_nextCheck_2 ?_
  refine lv_iconst (v := 1) C.1.1 C.1.2.1 dX5_nextCheck_3 (by decide) ?_
  refine lv_iload_n C.1.1 C.1.2.1 dX5_nextCheck_4 rfl (lv_at hl 2 rfl) ?_
  refine lv_ishl C.1.1 C.1.2.1 dX5_nextCheck_5 ?_
  refine lv_iconst (v := 1) C.1.1 C.1.2.1 dX5_nextCheck_6 (by decide) ?_
  refine lv_isub C.1.1 C.1.2.1 dX5_nextCheck_7 ?_
  refine lv_iand C.1.1 C.1.2.1 dX5_nextCheck_8 ?_
  obtain ⟨x1, ex1, hD⟩ := g_let hD
  refine W.eq (g2 := F0 m 9 ls (.int x1 :: [])) (by rw [ex1]) ?_
  refine lv_istore (lv' := [(4, .int x1), (0, .int a1), (1, .int a2), (2, .int a3), (3, .int a4)]) C.1.1 C.1.2.1 dX5_nextCheck_9 hl (by decide) rfl (fun ls hl => ?_)
  refine lv_iload_n C.1.1 C.1.2.1 dX5_nextCheck_11 rfl (lv_at hl 1 rfl) ?_
  refine lv_iload_n C.1.1 C.1.2.1 dX5_nextCheck_12 rfl (lv_at hl 3 rfl) ?_
  refine lv_iconst (v := 1) C.1.1 C.1.2.1 dX5_nextCheck_13 (by decide) ?_
  refine lv_isub C.1.1 C.1.2.1 dX5_nextCheck_14 ?_
  refine lv_ishr C.1.1 C.1.2.1 dX5_nextCheck_15 ?_
  refine lv_iconst (v := 1) C.1.1 C.1.2.1 dX5_nextCheck_16 (by decide) ?_
  refine lv_iand C.1.1 C.1.2.1 dX5_nextCheck_17 ?_
  refine lv_iload_n C.1.1 C.1.2.1 dX5_nextCheck_18 rfl (lv_at hl 2 rfl) ?_
  refine lv_icmp_eq (tgt := 29) C.1.1 C.1.2.1 dX5_nextCheck_19 (by decide) (fun c2 => ?_) (fun c2 => ?_)
  · replace hD := g_pos c2 hD
    refine lv_iload C.1.1 C.1.2.1 dX5_nextCheck_29 (lv_at hl 0 rfl) ?_
    exact hb31 x1 M L _ _ ls hD hw (lv_sub hl [] rfl)
  · replace hD := g_neg c2 hD
    refine lv_iload C.1.1 C.1.2.1 dX5_nextCheck_22 (lv_at hl 0 rfl) ?_
    refine lv_iload_n C.1.1 C.1.2.1 dX5_nextCheck_24 rfl (lv_at hl 4 rfl) ?_
    refine lv_ixor C.1.1 C.1.2.1 dX5_nextCheck_25 ?_
    refine lv_goto (tgt := 31) C.1.1 C.1.2.1 dX5_nextCheck_26 (by decide) ?_
    exact hb31 (x1 ^^^ a4) M L _ _ ls hD hw (lv_sub hl [] rfl)

theorem dX5_begin_0 : decode cX5_begin 0 = .ok (.aload_n 0, 1) := by decide +kernel
theorem dX5_begin_1 : decode cX5_begin 1 = .ok (.iconst 0, 1) := by decide +kernel
theorem dX5_begin_2 : decode cX5_begin 2 = .ok (.putfield 13, 3) := by decide +kernel
theorem dX5_begin_5 : decode cX5_begin 5 = .ok (.aload_n 0, 1) := by decide +kernel
theorem dX5_begin_6 : decode cX5_begin 6 = .ok (.iconst 0, 1) := by decide +kernel
theorem dX5_begin_7 : decode cX5_begin 7 = .ok (.putfield 17, 3) := by decide +kernel
theorem dX5_begin_10 : decode cX5_begin 10 = .ok (.aload_n 0, 1) := by decide +kernel
theorem dX5_begin_11 : decode cX5_begin 11 = .ok (.iconst 1, 1) := by decide +kernel
theorem dX5_begin_12 : decode cX5_begin 12 = .ok (.putfield 20, 3) := by decide +kernel
theorem dX5_begin_15 : decode cX5_begin 15 = .ok (.aload_n 0, 1) := by decide +kernel
theorem dX5_begin_16 : decode cX5_begin 16 = .ok (.iconst 0, 1) := by decide +kernel
theorem dX5_begin_17 : decode cX5_begin 17 = .ok (.putfield 23, 3) := by decide +kernel
theorem dX5_begin_20 : decode cX5_begin 20 = .ok (.aload_n 0, 1) := by decide +kernel
theorem dX5_begin_21 : decode cX5_begin 21 = .ok (.iconst 1, 1) := by decide +kernel
theorem dX5_begin_22 : decode cX5_begin 22 = .ok (.putfield 26, 3) := by decide +kernel
theorem dX5_begin_25 : decode cX5_begin 25 = .ok (.aload_n 0, 1) := by decide +kernel
theorem dX5_begin_26 : decode cX5_begin 26 = .ok (.iconst 0, 1) := by decide +kernel
theorem dX5_begin_27 : decode cX5_begin 27 = .ok (.putfield 29, 3) := by decide +kernel
theorem dX5_begin_30 : decode cX5_begin 30 = .ok (.aload_n 0, 1) := by decide +kernel
theorem dX5_begin_31 : decode cX5_begin 31 = .ok (.iconst 0, 1) := by decide +kernel
theorem dX5_begin_32 : decode cX5_begin 32 = .ok (.iconst 0, 1) := by decide +kernel
theorem dX5_begin_33 : decode cX5_begin 33 = .ok (.bipush 15, 2) := by decide +kernel
theorem dX5_begin_35 : decode cX5_begin 35 = .ok (.sipush 17817, 3) := by decide +kernel
theorem dX5_begin_38 : decode cX5_begin 38 = .ok (.invokestatic 32, 3) := by decide +kernel
theorem dX5_begin_41 : decode cX5_begin 41 = .ok (.putfield 36, 3) := by decide +kernel
theorem dX5_begin_44 : decode cX5_begin 44 = .ok (.aload_n 0, 1) := by decide +kernel
theorem dX5_begin_45 : decode cX5_begin 45 = .ok (.ldc 39, 2) := by decide +kernel
theorem dX5_begin_47 : decode cX5_begin 47 = .ok (.iconst 0, 1) := by decide +kernel
theorem dX5_begin_48 : decode cX5_begin 48 = .ok (.bipush 17, 2) := by decide +kernel
theorem dX5_begin_50 : decode cX5_begin 50 = .ok (.ldc 40, 2) := by decide +kernel
theorem dX5_begin_52 : decode cX5_begin 52 = .ok (.invokestatic 32, 3) := by decide +kernel
theorem dX5_begin_55 : decode cX5_begin 55 = .ok (.putfield 41, 3) := by decide +kernel
theorem dX5_begin_58 : decode cX5_begin 58 = .ok (.aload_n 0, 1) := by decide +kernel
theorem dX5_begin_59 : decode cX5_begin 59 = .ok (.ldc 44, 2) := by decide +kernel
theorem dX5_begin_61 : decode cX5_begin 61 = .ok (.iconst 0, 1) := by decide +kernel
theorem dX5_begin_62 : decode cX5_begin 62 = .ok (.bipush 21, 2) := by decide +kernel
theorem dX5_begin_64 : decode cX5_begin 64 = .ok (.ldc 45, 2) := by decide +kernel
theorem dX5_begin_66 : decode cX5_begin 66 = .ok (.invokestatic 32, 3) := by decide +kernel
theorem dX5_begin_69 : decode cX5_begin 69 = .ok (.putfield 46, 3) := by decide +kernel
theorem dX5_begin_72 : decode cX5_begin 72 = .ok (.aload_n 0, 1) := by decide +kernel
theorem dX5_begin_73 : decode cX5_begin 73 = .ok (.iconst 0, 1) := by decide +kernel
theorem dX5_begin_74 : decode cX5_begin 74 = .ok (.putfield 49, 3) := by decide +kernel
theorem dX5_begin_77 : decode cX5_begin 77 = .ok (.aload_n 0, 1) := by decide +kernel
theorem dX5_begin_78 : decode cX5_begin 78 = .ok (.iconst 0, 1) := by decide +kernel
theorem dX5_begin_79 : decode cX5_begin 79 = .ok (.putfield 52, 3) := by decide +kernel
theorem dX5_begin_82 : decode cX5_begin 82 = .ok (.aload_n 0, 1) := by decide +kernel
theorem dX5_begin_83 : decode cX5_begin 83 = .ok (.iconst 0, 1) := by decide +kernel
theorem dX5_begin_84 : decode cX5_begin 84 = .ok (.putfield 55, 3) := by decide +kernel
theorem dX5_begin_87 : decode cX5_begin 87 = .ok (.aload_n 0, 1) := by decide +kernel
theorem dX5_begin_88 : decode cX5_begin 88 = .ok (.iconst 0, 1) := by decide +kernel
theorem dX5_begin_89 : decode cX5_begin 89 = .ok (.putfield 58, 3) := by decide +kernel
theorem dX5_begin_92 : decode cX5_begin 92 = .ok (.aload_n 0, 1) := by decide +kernel
theorem dX5_begin_93 : decode cX5_begin 93 = .ok (.iconst 0, 1) := by decide +kernel
theorem dX5_begin_94 : decode cX5_begin 94 = .ok (.putfield 61, 3) := by decide +kernel
theorem dX5_begin_97 : decode cX5_begin 97 = .ok (.aload_n 0, 1) := by decide +kernel
theorem dX5_begin_98 : decode cX5_begin 98 = .ok (.ldc 64, 2) := by decide +kernel
theorem dX5_begin_100 : decode cX5_begin 100 = .ok (.putfield 65, 3) := by decide +kernel
theorem dX5_begin_103 : decode cX5_begin 103 = .ok (.aload_n 0, 1) := by decide +kernel
theorem dX5_begin_104 : decode cX5_begin 104 = .ok (.iconst 0, 1) := by decide +kernel
theorem dX5_begin_105 : decode cX5_begin 105 = .ok (.putfield 68, 3) := by decide +kernel
theorem dX5_begin_108 : decode cX5_begin 108 = .ok (.aload_n 0, 1) := by decide +kernel
theorem dX5_begin_109 : decode cX5_begin 109 = .ok (.ldc 64, 2) := by decide +kernel
theorem dX5_begin_111 : decode cX5_begin 111 = .ok (.putfield 71, 3) := by decide +kernel
theorem dX5_begin_114 : decode cX5_begin 114 = .ok (.aload_n 0, 1) := by decide +kernel
theorem dX5_begin_115 : decode cX5_begin 115 = .ok (.iconst 0, 1) := by decide +kernel
theorem dX5_begin_116 : decode cX5_begin 116 = .ok (.putfield 74, 3) := by decide +kernel
theorem dX5_begin_119 : decode cX5_begin 119 = .ok (.aload_n 0, 1) := by decide +kernel
theorem dX5_begin_120 : decode cX5_begin 120 = .ok (.iconst 0, 1) := by decide +kernel
theorem dX5_begin_121 : decode cX5_begin 121 = .ok (.putfield 77, 3) := by decide +kernel
theorem dX5_begin_124 : decode cX5_begin 124 = .ok (.return_, 1) := by decide +kernel
theorem cwX5_begin : mw_cwV yX5_begin cX5_begin 1 (none) 0 := ⟨⟨wd_6, wd_1384, by decide +kernel⟩, wd_1382, wd_1383⟩
set_option maxHeartbeats 4000000 in
set_option maxRecDepth 100000 in
theorem tX5_begin (l : Launch) (G : mwG) (ad : Nat → Nat) (fu : Nat) (k : Nat) (M : mwM) (L : mwL) {M0 : mwM} {L0 : mwL} (hD : DX5_begin fu k M L = some (M0, L0)) (hk0 : isEa k) : Met l yX5_begin (Cond.code yX5_begin cX5_begin 1 (none) :: GT) ({ frames := 1, cells := 0, slots := 0, locals := 24 }) (mw_Pre G ad NF TF FF M L [.ref (ad k)]) (mw_Qv G ad NF TF FF (mw_eqV M0 L0)) 0 0 (mw_fr G) := by
  refine mw_enter (by decide) (Nat.le_of_ble_eq_true rfl) ?_
  intro p e s m below meth c ls C hr hlocks hnm hw hl
  have hl : lv_has ls 1 [(0, .ref (ad k))] := hl
  unfold DX5_begin at hD
  refine lv_aload_n C.1.1 C.1.2.1 dX5_begin_0 rfl (lv_at hl 0 rfl) ?_
  refine lv_iconst (v := 0) C.1.1 C.1.2.1 dX5_begin_1 (by decide) ?_
  obtain ⟨M1, eM1, hD⟩ := g_let hD
  refine mr_putI C hw kc_5 1 (Ea_N0 hk0) (Ea_T0 hk0) wd_108 dX5_begin_2 (by decide) rfl rfl rfl rfl (fun H locs hw => ?_)
  replace hw : mw_W G ad NF TF FF M1 L H locs := by rw [eM1]; exact hw
  refine lv_aload_n C.1.1 C.1.2.1 dX5_begin_5 rfl (lv_at hl 0 rfl) ?_
  refine lv_iconst (v := 0) C.1.1 C.1.2.1 dX5_begin_6 (by decide) ?_
  obtain ⟨M2, eM2, hD⟩ := g_let hD
  refine mr_putI C hw kc_5 2 (Ea_N0 hk0) (Ea_T0 hk0) wd_109 dX5_begin_7 (by decide) rfl rfl rfl rfl (fun H locs hw => ?_)
  replace hw : mw_W G ad NF TF FF M2 L H locs := by rw [eM2]; exact hw
  refine lv_aload_n C.1.1 C.1.2.1 dX5_begin_10 rfl (lv_at hl 0 rfl) ?_
  refine lv_iconst (v := 1) C.1.1 C.1.2.1 dX5_begin_11 (by decide) ?_
  obtain ⟨M3, eM3, hD⟩ := g_let hD
  refine mr_putI C hw kc_5 3 (Ea_N0 hk0) (Ea_T0 hk0) wd_110 dX5_begin_12 (by decide) rfl rfl rfl rfl (fun H locs hw => ?_)
  replace hw : mw_W G ad NF TF FF M3 L H locs := by rw [eM3]; exact hw
  refine lv_aload_n C.1.1 C.1.2.1 dX5_begin_15 rfl (lv_at hl 0 rfl) ?_
  refine lv_iconst (v := 0) C.1.1 C.1.2.1 dX5_begin_16 (by decide) ?_
  obtain ⟨M4, eM4, hD⟩ := g_let hD
  refine mr_putI C hw kc_5 4 (Ea_N0 hk0) (Ea_T0 hk0) wd_111 dX5_begin_17 (by decide) rfl rfl rfl rfl (fun H locs hw => ?_)
  replace hw : mw_W G ad NF TF FF M4 L H locs := by rw [eM4]; exact hw
  refine lv_aload_n C.1.1 C.1.2.1 dX5_begin_20 rfl (lv_at hl 0 rfl) ?_
  refine lv_iconst (v := 1) C.1.1 C.1.2.1 dX5_begin_21 (by decide) ?_
  obtain ⟨M5, eM5, hD⟩ := g_let hD
  refine mr_putI C hw kc_5 5 (Ea_N0 hk0) (Ea_T0 hk0) wd_112 dX5_begin_22 (by decide) rfl rfl rfl rfl (fun H locs hw => ?_)
  replace hw : mw_W G ad NF TF FF M5 L H locs := by rw [eM5]; exact hw
  refine lv_aload_n C.1.1 C.1.2.1 dX5_begin_25 rfl (lv_at hl 0 rfl) ?_
  refine lv_iconst (v := 0) C.1.1 C.1.2.1 dX5_begin_26 (by decide) ?_
  obtain ⟨M6, eM6, hD⟩ := g_let hD
  refine mr_putI C hw kc_5 6 (Ea_N0 hk0) (Ea_T0 hk0) wd_113 dX5_begin_27 (by decide) rfl rfl rfl rfl (fun H locs hw => ?_)
  replace hw : mw_W G ad NF TF FF M6 L H locs := by rw [eM6]; exact hw
  refine lv_aload_n C.1.1 C.1.2.1 dX5_begin_30 rfl (lv_at hl 0 rfl) ?_
  refine lv_iconst (v := 0) C.1.1 C.1.2.1 dX5_begin_31 (by decide) ?_
  refine lv_iconst (v := 0) C.1.1 C.1.2.1 dX5_begin_32 (by decide) ?_
  refine lv_bipush (v := 15) C.1.1 C.1.2.1 dX5_begin_33 (by decide) ?_
  refine lv_sipush (v := 17817) C.1.1 C.1.2.1 dX5_begin_35 (by decide) ?_
  obtain ⟨r9, M7, L8, h1, hD⟩ := g_b3 hD
  refine md_csI (As := [.int 0, .int 0, .int 15, .int 17817]) (rest := [.ref (ad k)]) C hw (tX5_nextCheck l G ad fu 0 0 15 17817 M6 L h1) wd_1385 cwX5_nextCheck ⟨Nat.le_of_ble_eq_true rfl, Nat.le_of_ble_eq_true rfl⟩ rfl hl.1 (Nat.le_of_ble_eq_true rfl) dX5_begin_38 rfl rfl ⟨Nat.zero_le _, Nat.zero_le _⟩ rfl (fun H locs hw => ?_)
  obtain ⟨M10, eM10, hD⟩ := g_let hD
  refine mr_putI C hw kc_5 7 (Ea_N0 hk0) (Ea_T0 hk0) wd_114 dX5_begin_41 (by decide) rfl rfl rfl rfl (fun H locs hw => ?_)
  replace hw : mw_W G ad NF TF FF M10 L8 H locs := by rw [eM10]; exact hw
  refine lv_aload_n C.1.1 C.1.2.1 dX5_begin_44 rfl (lv_at hl 0 rfl) ?_
  refine lv_ldc (v := 65536) C.1.1 C.1.2.1 C.1.2.2.2.1 (C.1.2.2.2.2 _ wd_1386) dX5_begin_45 ?_
  refine lv_iconst (v := 0) C.1.1 C.1.2.1 dX5_begin_47 (by decide) ?_
  refine lv_bipush (v := 17) C.1.1 C.1.2.1 dX5_begin_48 (by decide) ?_
  refine lv_ldc (v := 92251) C.1.1 C.1.2.1 C.1.2.2.2.1 (C.1.2.2.2.2 _ wd_1387) dX5_begin_50 ?_
  obtain ⟨r13, M11, L12, h1, hD⟩ := g_b3 hD
  refine md_csI (As := [.int 65536, .int 0, .int 17, .int 92251]) (rest := [.ref (ad k)]) C hw (tX5_nextCheck l G ad fu 65536 0 17 92251 M10 L8 h1) wd_1385 cwX5_nextCheck ⟨Nat.le_of_ble_eq_true rfl, Nat.le_of_ble_eq_true rfl⟩ rfl hl.1 (Nat.le_of_ble_eq_true rfl) dX5_begin_52 rfl rfl ⟨Nat.zero_le _, Nat.zero_le _⟩ rfl (fun H locs hw => ?_)
  obtain ⟨M14, eM14, hD⟩ := g_let hD
  refine mr_putI C hw kc_5 8 (Ea_N0 hk0) (Ea_T0 hk0) wd_115 dX5_begin_55 (by decide) rfl rfl rfl rfl (fun H locs hw => ?_)
  replace hw : mw_W G ad NF TF FF M14 L12 H locs := by rw [eM14]; exact hw
  refine lv_aload_n C.1.1 C.1.2.1 dX5_begin_58 rfl (lv_at hl 0 rfl) ?_
  refine lv_ldc (v := 1048576) C.1.1 C.1.2.1 C.1.2.2.2.1 (C.1.2.2.2.2 _ wd_1388) dX5_begin_59 ?_
  refine lv_iconst (v := 0) C.1.1 C.1.2.1 dX5_begin_61 (by decide) ?_
  refine lv_bipush (v := 21) C.1.1 C.1.2.1 dX5_begin_62 (by decide) ?_
  refine lv_ldc (v := 1058969) C.1.1 C.1.2.1 C.1.2.2.2.1 (C.1.2.2.2.2 _ wd_1389) dX5_begin_64 ?_
  obtain ⟨r17, M15, L16, h1, hD⟩ := g_b3 hD
  refine md_csI (As := [.int 1048576, .int 0, .int 21, .int 1058969]) (rest := [.ref (ad k)]) C hw (tX5_nextCheck l G ad fu 1048576 0 21 1058969 M14 L12 h1) wd_1385 cwX5_nextCheck ⟨Nat.le_of_ble_eq_true rfl, Nat.le_of_ble_eq_true rfl⟩ rfl hl.1 (Nat.le_of_ble_eq_true rfl) dX5_begin_66 rfl rfl ⟨Nat.zero_le _, Nat.zero_le _⟩ rfl (fun H locs hw => ?_)
  obtain ⟨M18, eM18, hD⟩ := g_let hD
  refine mr_putI C hw kc_5 9 (Ea_N0 hk0) (Ea_T0 hk0) wd_116 dX5_begin_69 (by decide) rfl rfl rfl rfl (fun H locs hw => ?_)
  replace hw : mw_W G ad NF TF FF M18 L16 H locs := by rw [eM18]; exact hw
  refine lv_aload_n C.1.1 C.1.2.1 dX5_begin_72 rfl (lv_at hl 0 rfl) ?_
  refine lv_iconst (v := 0) C.1.1 C.1.2.1 dX5_begin_73 (by decide) ?_
  obtain ⟨M19, eM19, hD⟩ := g_let hD
  refine mr_putI C hw kc_5 10 (Ea_N0 hk0) (Ea_T0 hk0) wd_117 dX5_begin_74 (by decide) rfl rfl rfl rfl (fun H locs hw => ?_)
  replace hw : mw_W G ad NF TF FF M19 L16 H locs := by rw [eM19]; exact hw
  refine lv_aload_n C.1.1 C.1.2.1 dX5_begin_77 rfl (lv_at hl 0 rfl) ?_
  refine lv_iconst (v := 0) C.1.1 C.1.2.1 dX5_begin_78 (by decide) ?_
  obtain ⟨M20, eM20, hD⟩ := g_let hD
  refine mr_putI C hw kc_5 11 (Ea_N0 hk0) (Ea_T0 hk0) wd_119 dX5_begin_79 (by decide) rfl rfl rfl rfl (fun H locs hw => ?_)
  replace hw : mw_W G ad NF TF FF M20 L16 H locs := by rw [eM20]; exact hw
  refine lv_aload_n C.1.1 C.1.2.1 dX5_begin_82 rfl (lv_at hl 0 rfl) ?_
  refine lv_iconst (v := 0) C.1.1 C.1.2.1 dX5_begin_83 (by decide) ?_
  obtain ⟨M21, eM21, hD⟩ := g_let hD
  refine mr_putI C hw kc_5 12 (Ea_N0 hk0) (Ea_T0 hk0) wd_120 dX5_begin_84 (by decide) rfl rfl rfl rfl (fun H locs hw => ?_)
  replace hw : mw_W G ad NF TF FF M21 L16 H locs := by rw [eM21]; exact hw
  refine lv_aload_n C.1.1 C.1.2.1 dX5_begin_87 rfl (lv_at hl 0 rfl) ?_
  refine lv_iconst (v := 0) C.1.1 C.1.2.1 dX5_begin_88 (by decide) ?_
  obtain ⟨M22, eM22, hD⟩ := g_let hD
  refine mr_putI C hw kc_5 13 (Ea_N0 hk0) (Ea_T0 hk0) wd_121 dX5_begin_89 (by decide) rfl rfl rfl rfl (fun H locs hw => ?_)
  replace hw : mw_W G ad NF TF FF M22 L16 H locs := by rw [eM22]; exact hw
  refine lv_aload_n C.1.1 C.1.2.1 dX5_begin_92 rfl (lv_at hl 0 rfl) ?_
  refine lv_iconst (v := 0) C.1.1 C.1.2.1 dX5_begin_93 (by decide) ?_
  obtain ⟨M23, eM23, hD⟩ := g_let hD
  refine mr_putI C hw kc_5 14 (Ea_N0 hk0) (Ea_T0 hk0) wd_122 dX5_begin_94 (by decide) rfl rfl rfl rfl (fun H locs hw => ?_)
  replace hw : mw_W G ad NF TF FF M23 L16 H locs := by rw [eM23]; exact hw
  refine lv_aload_n C.1.1 C.1.2.1 dX5_begin_97 rfl (lv_at hl 0 rfl) ?_
  refine lv_ldc (v := 100000) C.1.1 C.1.2.1 C.1.2.2.2.1 (C.1.2.2.2.2 _ wd_1390) dX5_begin_98 ?_
  obtain ⟨M24, eM24, hD⟩ := g_let hD
  refine mr_putI C hw kc_5 15 (Ea_N0 hk0) (Ea_T0 hk0) wd_123 dX5_begin_100 (by decide) rfl rfl rfl rfl (fun H locs hw => ?_)
  replace hw : mw_W G ad NF TF FF M24 L16 H locs := by rw [eM24]; exact hw
  refine lv_aload_n C.1.1 C.1.2.1 dX5_begin_103 rfl (lv_at hl 0 rfl) ?_
  refine lv_iconst (v := 0) C.1.1 C.1.2.1 dX5_begin_104 (by decide) ?_
  obtain ⟨M25, eM25, hD⟩ := g_let hD
  refine mr_putI C hw kc_5 16 (Ea_N0 hk0) (Ea_T0 hk0) wd_124 dX5_begin_105 (by decide) rfl rfl rfl rfl (fun H locs hw => ?_)
  replace hw : mw_W G ad NF TF FF M25 L16 H locs := by rw [eM25]; exact hw
  refine lv_aload_n C.1.1 C.1.2.1 dX5_begin_108 rfl (lv_at hl 0 rfl) ?_
  refine lv_ldc (v := 100000) C.1.1 C.1.2.1 C.1.2.2.2.1 (C.1.2.2.2.2 _ wd_1390) dX5_begin_109 ?_
  obtain ⟨M26, eM26, hD⟩ := g_let hD
  refine mr_putI C hw kc_5 17 (Ea_N0 hk0) (Ea_T0 hk0) wd_126 dX5_begin_111 (by decide) rfl rfl rfl rfl (fun H locs hw => ?_)
  replace hw : mw_W G ad NF TF FF M26 L16 H locs := by rw [eM26]; exact hw
  refine lv_aload_n C.1.1 C.1.2.1 dX5_begin_114 rfl (lv_at hl 0 rfl) ?_
  refine lv_iconst (v := 0) C.1.1 C.1.2.1 dX5_begin_115 (by decide) ?_
  obtain ⟨M27, eM27, hD⟩ := g_let hD
  refine mr_putI C hw kc_5 18 (Ea_N0 hk0) (Ea_T0 hk0) wd_127 dX5_begin_116 (by decide) rfl rfl rfl rfl (fun H locs hw => ?_)
  replace hw : mw_W G ad NF TF FF M27 L16 H locs := by rw [eM27]; exact hw
  refine lv_aload_n C.1.1 C.1.2.1 dX5_begin_119 rfl (lv_at hl 0 rfl) ?_
  refine lv_iconst (v := 0) C.1.1 C.1.2.1 dX5_begin_120 (by decide) ?_
  obtain ⟨M28, eM28, hD⟩ := g_let hD
  refine mr_putI C hw kc_5 19 (Ea_N0 hk0) (Ea_T0 hk0) wd_128 dX5_begin_121 (by decide) rfl rfl rfl rfl (fun H locs hw => ?_)
  replace hw : mw_W G ad NF TF FF M28 L16 H locs := by rw [eM28]; exact hw
  exact mr_vret C hr hlocks hw (Option.some.inj hD) dX5_begin_124

theorem dX5_kind_0 : decode cX5_kind 0 = .ok (.aload_n 0, 1) := by decide +kernel
theorem dX5_kind_1 : decode cX5_kind 1 = .ok (.getfield 55, 3) := by decide +kernel
theorem dX5_kind_4 : decode cX5_kind 4 = .ok (.aload_n 0, 1) := by decide +kernel
theorem dX5_kind_5 : decode cX5_kind 5 = .ok (.getfield 58, 3) := by decide +kernel
theorem dX5_kind_8 : decode cX5_kind 8 = .ok (.iconst 1, 1) := by decide +kernel
theorem dX5_kind_9 : decode cX5_kind 9 = .ok (.if_icmp .ne 7, 3) := by decide +kernel
theorem dX5_kind_12 : decode cX5_kind 12 = .ok (.iconst 2, 1) := by decide +kernel
theorem dX5_kind_13 : decode cX5_kind 13 = .ok (.goto 16, 3) := by decide +kernel
theorem dX5_kind_16 : decode cX5_kind 16 = .ok (.aload_n 0, 1) := by decide +kernel
theorem dX5_kind_17 : decode cX5_kind 17 = .ok (.getfield 52, 3) := by decide +kernel
theorem dX5_kind_20 : decode cX5_kind 20 = .ok (.iconst 1, 1) := by decide +kernel
theorem dX5_kind_21 : decode cX5_kind 21 = .ok (.if_icmp .ne 7, 3) := by decide +kernel
theorem dX5_kind_24 : decode cX5_kind 24 = .ok (.iconst 4, 1) := by decide +kernel
theorem dX5_kind_25 : decode cX5_kind 25 = .ok (.goto 4, 3) := by decide +kernel
theorem dX5_kind_28 : decode cX5_kind 28 = .ok (.iconst 0, 1) := by decide +kernel
theorem dX5_kind_29 : decode cX5_kind 29 = .ok (.iadd, 1) := by decide +kernel
theorem dX5_kind_30 : decode cX5_kind 30 = .ok (.ireturn, 1) := by decide +kernel
theorem cwX5_kind : mw_cwV yX5_kind cX5_kind 1 ((some .int)) 0 := ⟨⟨wd_6, wd_1507, by decide +kernel⟩, wd_1505, wd_1506⟩
set_option maxHeartbeats 4000000 in
set_option maxRecDepth 100000 in
theorem tX5_kind (l : Launch) (G : mwG) (ad : Nat → Nat) (fu : Nat) (k : Nat) (M : mwM) (L : mwL) {r0 : Int32} {M0 : mwM} {L0 : mwL} (hD : DX5_kind fu k M L = some (r0, M0, L0)) (hk0 : isEa k) : Met l yX5_kind (Cond.code yX5_kind cX5_kind 1 ((some .int)) :: GT) ({ frames := 0, cells := 0, slots := 0, locals := 0 }) (mw_Pre G ad NF TF FF M L [.ref (ad k)]) (mw_Qi G ad NF TF FF (mw_eqI r0 M0 L0)) 0 0 (mw_fr G) := by
  refine mw_enter (by decide) (Nat.le_of_ble_eq_true rfl) ?_
  intro p e s m below meth c ls C hr hlocks hnm hw hl
  have hl : lv_has ls 1 [(0, .ref (ad k))] := hl
  have hb29 : ∀ (s0 : Int32) (s1 : Int32) (M : mwM) (L : mwL) (H : Heap) (locs : List Loc) (ls : Array Slot), fX5_kind_b29 fu k s0 s1 M L = some (r0, M0, L0) → mw_W G ad NF TF FF M L H locs → lv_has ls 1 [] → W p l e ({ frames := 0, cells := 0, slots := 0, locals := 0 }) s m [.ref (ad k)].toArray below meth c H locs 0 0 (MQ below (mw_Qi G ad NF TF FF (mw_eqI r0 M0 L0)) [.ref (ad k)].toArray s 0 0 (mw_fr G)) (F0 m 29 ls [.int s1, .int s0]) := by
    intro s0 s1 M L H locs ls hD hw hl
    unfold fX5_kind_b29 at hD
    refine lv_iadd C.1.1 C.1.2.1 dX5_kind_29 ?_
    exact mr_iret C hr hlocks hw rfl (Option.some.inj hD) dX5_kind_30
  unfold DX5_kind at hD
  refine lv_aload_n C.1.1 C.1.2.1 dX5_kind_0 rfl (lv_at hl 0 rfl) ?_
  refine mr_getI C hw kc_5 12 (Ea_N0 hk0) (Ea_T0 hk0) wd_120 dX5_kind_1 (by decide) rfl ?_
  refine lv_aload_n C.1.1 C.1.2.1 dX5_kind_4 rfl (lv_at hl 0 rfl) ?_
  refine mr_getI C hw kc_5 13 (Ea_N0 hk0) (Ea_T0 hk0) wd_121 dX5_kind_5 (by decide) rfl ?_
  refine lv_iconst (v := 1) C.1.1 C.1.2.1 dX5_kind_8 (by decide) ?_
  refine lv_icmp_ne (tgt := 16) C.1.1 C.1.2.1 dX5_kind_9 (by decide) (fun c1 => ?_) (fun c1 => ?_)
  · replace hD := g_neg c1 hD
    refine lv_aload_n C.1.1 C.1.2.1 dX5_kind_16 rfl (lv_at hl 0 rfl) ?_
    refine mr_getI C hw kc_5 11 (Ea_N0 hk0) (Ea_T0 hk0) wd_119 dX5_kind_17 (by decide) rfl ?_
    refine lv_iconst (v := 1) C.1.1 C.1.2.1 dX5_kind_20 (by decide) ?_
    refine lv_icmp_ne (tgt := 28) C.1.1 C.1.2.1 dX5_kind_21 (by decide) (fun c2 => ?_) (fun c2 => ?_)
    · replace hD := g_neg c2 hD
      refine lv_iconst (v := 0) C.1.1 C.1.2.1 dX5_kind_28 (by decide) ?_
      exact hb29 (M k 12) 0 M L _ _ ls hD hw (lv_sub hl [] rfl)
    · replace hD := g_pos c2 hD
      refine lv_iconst (v := 4) C.1.1 C.1.2.1 dX5_kind_24 (by decide) ?_
      refine lv_goto (tgt := 29) C.1.1 C.1.2.1 dX5_kind_25 (by decide) ?_
      exact hb29 (M k 12) 4 M L _ _ ls hD hw (lv_sub hl [] rfl)
  · replace hD := g_pos c1 hD
    refine lv_iconst (v := 2) C.1.1 C.1.2.1 dX5_kind_12 (by decide) ?_
    refine lv_goto (tgt := 29) C.1.1 C.1.2.1 dX5_kind_13 (by decide) ?_
    exact hb29 (M k 12) 2 M L _ _ ls hD hw (lv_sub hl [] rfl)

theorem dX5_isCheckRight_0 : decode cX5_isCheckRight 0 = .ok (.aload_n 0, 1) := by decide +kernel
theorem dX5_isCheckRight_1 : decode cX5_isCheckRight 1 = .ok (.getfield 58, 3) := by decide +kernel
theorem dX5_isCheckRight_4 : decode cX5_isCheckRight 4 = .ok (.ifCond .ne 20, 3) := by decide +kernel
theorem dX5_isCheckRight_7 : decode cX5_isCheckRight 7 = .ok (.aload_n 0, 1) := by decide +kernel
theorem dX5_isCheckRight_8 : decode cX5_isCheckRight 8 = .ok (.getfield 74, 3) := by decide +kernel
theorem dX5_isCheckRight_11 : decode cX5_isCheckRight 11 = .ok (.aload_n 0, 1) := by decide +kernel
theorem dX5_isCheckRight_12 : decode cX5_isCheckRight 12 = .ok (.getfield 36, 3) := by decide +kernel
theorem dX5_isCheckRight_15 : decode cX5_isCheckRight 15 = .ok (.if_icmp .ne 7, 3) := by decide +kernel
theorem dX5_isCheckRight_18 : decode cX5_isCheckRight 18 = .ok (.iconst 1, 1) := by decide +kernel
theorem dX5_isCheckRight_19 : decode cX5_isCheckRight 19 = .ok (.goto 4, 3) := by decide +kernel
theorem dX5_isCheckRight_22 : decode cX5_isCheckRight 22 = .ok (.iconst 0, 1) := by decide +kernel
theorem dX5_isCheckRight_23 : decode cX5_isCheckRight 23 = .ok (.ireturn, 1) := by decide +kernel
theorem dX5_isCheckRight_24 : decode cX5_isCheckRight 24 = .ok (.aload_n 0, 1) := by decide +kernel
theorem dX5_isCheckRight_25 : decode cX5_isCheckRight 25 = .ok (.getfield 74, 3) := by decide +kernel
theorem dX5_isCheckRight_28 : decode cX5_isCheckRight 28 = .ok (.aload_n 0, 1) := by decide +kernel
theorem dX5_isCheckRight_29 : decode cX5_isCheckRight 29 = .ok (.getfield 68, 3) := by decide +kernel
theorem dX5_isCheckRight_32 : decode cX5_isCheckRight 32 = .ok (.bipush 16, 2) := by decide +kernel
theorem dX5_isCheckRight_34 : decode cX5_isCheckRight 34 = .ok (.if_icmp .gt 10, 3) := by decide +kernel
theorem dX5_isCheckRight_37 : decode cX5_isCheckRight 37 = .ok (.aload_n 0, 1) := by decide +kernel
theorem dX5_isCheckRight_38 : decode cX5_isCheckRight 38 = .ok (.getfield 41, 3) := by decide +kernel
theorem dX5_isCheckRight_41 : decode cX5_isCheckRight 41 = .ok (.goto 7, 3) := by decide +kernel
theorem dX5_isCheckRight_44 : decode cX5_isCheckRight 44 = .ok (.aload_n 0, 1) := by decide +kernel
theorem dX5_isCheckRight_45 : decode cX5_isCheckRight 45 = .ok (.getfield 46, 3) := by decide +kernel
theorem dX5_isCheckRight_48 : decode cX5_isCheckRight 48 = .ok (.if_icmp .ne 7, 3) := by decide +kernel
theorem dX5_isCheckRight_51 : decode cX5_isCheckRight 51 = .ok (.iconst 1, 1) := by decide +kernel
theorem dX5_isCheckRight_52 : decode cX5_isCheckRight 52 = .ok (.goto 4, 3) := by decide +kernel
theorem dX5_isCheckRight_55 : decode cX5_isCheckRight 55 = .ok (.iconst 0, 1) := by decide +kernel
theorem dX5_isCheckRight_56 : decode cX5_isCheckRight 56 = .ok (.ireturn, 1) := by decide +kernel
theorem cwX5_isCheckRight : mw_cwV yX5_isCheckRight cX5_isCheckRight 1 ((some .boolean)) 0 := ⟨⟨wd_6, wd_1372, by decide +kernel⟩, wd_1371, sl_75⟩
set_option maxHeartbeats 4000000 in
set_option maxRecDepth 100000 in
theorem tX5_isCheckRight (l : Launch) (G : mwG) (ad : Nat → Nat) (fu : Nat) (k : Nat) (M : mwM) (L : mwL) {r0 : Int32} {M0 : mwM} {L0 : mwL} (hD : DX5_isCheckRight fu k M L = some (r0, M0, L0)) (hk0 : isEa k) : Met l yX5_isCheckRight (Cond.code yX5_isCheckRight cX5_isCheckRight 1 ((some .boolean)) :: GT) ({ frames := 0, cells := 0, slots := 0, locals := 0 }) (mw_Pre G ad NF TF FF M L [.ref (ad k)]) (mw_Qi G ad NF TF FF (mw_eqI r0 M0 L0)) 0 0 (mw_fr G) := by
  refine mw_enter (by decide) (Nat.le_of_ble_eq_true rfl) ?_
  intro p e s m below meth c ls C hr hlocks hnm hw hl
  have hl : lv_has ls 1 [(0, .ref (ad k))] := hl
  have hb23 : ∀ (s0 : Int32) (M : mwM) (L : mwL) (H : Heap) (locs : List Loc) (ls : Array Slot), fX5_isCheckRight_b23 fu k s0 M L = some (r0, M0, L0) → mw_W G ad NF TF FF M L H locs → lv_has ls 1 [] → W p l e ({ frames := 0, cells := 0, slots := 0, locals := 0 }) s m [.ref (ad k)].toArray below meth c H locs 0 0 (MQ below (mw_Qi G ad NF TF FF (mw_eqI r0 M0 L0)) [.ref (ad k)].toArray s 0 0 (mw_fr G)) (F0 m 23 ls [.int s0]) := by
    intro s0 M L H locs ls hD hw hl
    unfold fX5_isCheckRight_b23 at hD
    obtain ⟨z1, hD⟩ := g_zz hD
    exact mr_iret C hr hlocks hw (nz_zz z1) (Option.some.inj hD) dX5_isCheckRight_23
  have hb56 : ∀ (s0 : Int32) (M : mwM) (L : mwL) (H : Heap) (locs : List Loc) (ls : Array Slot), fX5_isCheckRight_b56 fu k s0 M L = some (r0, M0, L0) → mw_W G ad NF TF FF M L H locs → lv_has ls 1 [] → W p l e ({ frames := 0, cells := 0, slots := 0, locals := 0 }) s m [.ref (ad k)].toArray below meth c H locs 0 0 (MQ below (mw_Qi G ad NF TF FF (mw_eqI r0 M0 L0)) [.ref (ad k)].toArray s 0 0 (mw_fr G)) (F0 m 56 ls [.int s0]) := by
    intro s0 M L H locs ls hD hw hl
    unfold fX5_isCheckRight_b56 at hD
    obtain ⟨z3, hD⟩ := g_zz hD
    exact mr_iret C hr hlocks hw (nz_zz z3) (Option.some.inj hD) dX5_isCheckRight_56
  have hb48 : ∀ (s0 : Int32) (s1 : Int32) (M : mwM) (L : mwL) (H : Heap) (locs : List Loc) (ls : Array Slot), fX5_isCheckRight_b48 fu k s0 s1 M L = some (r0, M0, L0) → mw_W G ad NF TF FF M L H locs → lv_has ls 1 [] → W p l e ({ frames := 0, cells := 0, slots := 0, locals := 0 }) s m [.ref (ad k)].toArray below meth c H locs 0 0 (MQ below (mw_Qi G ad NF TF FF (mw_eqI r0 M0 L0)) [.ref (ad k)].toArray s 0 0 (mw_fr G)) (F0 m 48 ls [.int s1, .int s0]) := by
    intro s0 s1 M L H locs ls hD hw hl
    unfold fX5_isCheckRight_b48 at hD
    refine lv_icmp_ne (tgt := 55) C.1.1 C.1.2.1 dX5_isCheckRight_48 (by decide) (fun c2 => ?_) (fun c2 => ?_)
    · replace hD := g_neg c2 hD
      refine lv_iconst (v := 0) C.1.1 C.1.2.1 dX5_isCheckRight_55 (by decide) ?_
      exact hb56 0 M L _ _ ls hD hw (lv_sub hl [] rfl)
    · replace hD := g_pos c2 hD
      refine lv_iconst (v := 1) C.1.1 C.1.2.1 dX5_isCheckRight_51 (by decide) ?_
      refine lv_goto (tgt := 56) C.1.1 C.1.2.1 dX5_isCheckRight_52 (by decide) ?_
      exact hb56 1 M L _ _ ls hD hw (lv_sub hl [] rfl)
  unfold DX5_isCheckRight at hD
  refine lv_aload_n C.1.1 C.1.2.1 dX5_isCheckRight_0 rfl (lv_at hl 0 rfl) ?_
  refine mr_getI C hw kc_5 13 (Ea_N0 hk0) (Ea_T0 hk0) wd_121 dX5_isCheckRight_1 (by decide) rfl ?_
  refine lv_if_ne (tgt := 24) C.1.1 C.1.2.1 dX5_isCheckRight_4 (by decide) (fun c4 => ?_) (fun c4 => ?_)
  · replace hD := g_neg c4 hD
    refine lv_aload_n C.1.1 C.1.2.1 dX5_isCheckRight_24 rfl (lv_at hl 0 rfl) ?_
    refine mr_getI C hw kc_5 18 (Ea_N0 hk0) (Ea_T0 hk0) wd_127 dX5_isCheckRight_25 (by decide) rfl ?_
    refine lv_aload_n C.1.1 C.1.2.1 dX5_isCheckRight_28 rfl (lv_at hl 0 rfl) ?_
    refine mr_getI C hw kc_5 16 (Ea_N0 hk0) (Ea_T0 hk0) wd_124 dX5_isCheckRight_29 (by decide) rfl ?_
    refine lv_bipush (v := 16) C.1.1 C.1.2.1 dX5_isCheckRight_32 (by decide) ?_
    refine lv_icmp_gt (tgt := 44) C.1.1 C.1.2.1 dX5_isCheckRight_34 (by decide) (fun c5 => ?_) (fun c5 => ?_)
    · replace hD := g_pos c5 hD
      refine lv_aload_n C.1.1 C.1.2.1 dX5_isCheckRight_44 rfl (lv_at hl 0 rfl) ?_
      refine mr_getI C hw kc_5 9 (Ea_N0 hk0) (Ea_T0 hk0) wd_116 dX5_isCheckRight_45 (by decide) rfl ?_
      exact hb48 (M k 18) (M k 9) M L _ _ ls hD hw (lv_sub hl [] rfl)
    · replace hD := g_neg c5 hD
      refine lv_aload_n C.1.1 C.1.2.1 dX5_isCheckRight_37 rfl (lv_at hl 0 rfl) ?_
      refine mr_getI C hw kc_5 8 (Ea_N0 hk0) (Ea_T0 hk0) wd_115 dX5_isCheckRight_38 (by decide) rfl ?_
      refine lv_goto (tgt := 48) C.1.1 C.1.2.1 dX5_isCheckRight_41 (by decide) ?_
      exact hb48 (M k 18) (M k 8) M L _ _ ls hD hw (lv_sub hl [] rfl)
  · replace hD := g_pos c4 hD
    refine lv_aload_n C.1.1 C.1.2.1 dX5_isCheckRight_7 rfl (lv_at hl 0 rfl) ?_
    refine mr_getI C hw kc_5 18 (Ea_N0 hk0) (Ea_T0 hk0) wd_127 dX5_isCheckRight_8 (by decide) rfl ?_
    refine lv_aload_n C.1.1 C.1.2.1 dX5_isCheckRight_11 rfl (lv_at hl 0 rfl) ?_
    refine mr_getI C hw kc_5 7 (Ea_N0 hk0) (Ea_T0 hk0) wd_114 dX5_isCheckRight_12 (by decide) rfl ?_
    refine lv_icmp_ne (tgt := 22) C.1.1 C.1.2.1 dX5_isCheckRight_15 (by decide) (fun c6 => ?_) (fun c6 => ?_)
    · replace hD := g_neg c6 hD
      refine lv_iconst (v := 0) C.1.1 C.1.2.1 dX5_isCheckRight_22 (by decide) ?_
      exact hb23 0 M L _ _ ls hD hw (lv_sub hl [] rfl)
    · replace hD := g_pos c6 hD
      refine lv_iconst (v := 1) C.1.1 C.1.2.1 dX5_isCheckRight_18 (by decide) ?_
      refine lv_goto (tgt := 23) C.1.1 C.1.2.1 dX5_isCheckRight_19 (by decide) ?_
      exact hb23 1 M L _ _ ls hD hw (lv_sub hl [] rfl)

theorem dX5_putBit_0 : decode cX5_putBit 0 = .ok (.aload_n 0, 1) := by decide +kernel
theorem dX5_putBit_1 : decode cX5_putBit 1 = .ok (.getfield 13, 3) := by decide +kernel
theorem dX5_putBit_4 : decode cX5_putBit 4 = .ok (.iconst 2, 1) := by decide +kernel
theorem dX5_putBit_5 : decode cX5_putBit 5 = .ok (.if_icmp .ne 22, 3) := by decide +kernel
theorem dX5_putBit_8 : decode cX5_putBit 8 = .ok (.aload_n 0, 1) := by decide +kernel
theorem dX5_putBit_9 : decode cX5_putBit 9 = .ok (.getfield 29, 3) := by decide +kernel
theorem dX5_putBit_12 : decode cX5_putBit 12 = .ok (.iconst 1, 1) := by decide +kernel
theorem dX5_putBit_13 : decode cX5_putBit 13 = .ok (.if_icmp .ne 14, 3) := by decide +kernel
theorem dX5_putBit_16 : decode cX5_putBit 16 = .ok (.aload_n 0, 1) := by decide +kernel
theorem dX5_putBit_17 : decode cX5_putBit 17 = .ok (.invokevirtual 80, 3) := by decide +kernel
theorem dX5_putBit_20 : decode cX5_putBit 20 = .ok (.ifCond .eq 7, 3) := by decide +kernel
theorem dX5_putBit_23 : decode cX5_putBit 23 = .ok (.iconst 0, 1) := by decide +kernel
theorem dX5_putBit_24 : decode cX5_putBit 24 = .ok (.goto 4, 3) := by decide +kernel
theorem dX5_putBit_27 : decode cX5_putBit 27 = .ok (.iconst 1, 1) := by decide +kernel
theorem dX5_putBit_28 : decode cX5_putBit 28 = .ok (.ireturn, 1) := by decide +kernel
theorem cwX5_putBit : mw_cwV yX5_putBit cX5_putBit 1 ((some .int)) 0 := ⟨⟨wd_6, wd_1368, by decide +kernel⟩, wd_1366, wd_1367⟩
set_option maxHeartbeats 4000000 in
set_option maxRecDepth 100000 in
theorem tX5_putBit (l : Launch) (G : mwG) (ad : Nat → Nat) (fu : Nat) (k : Nat) (M : mwM) (L : mwL) {r0 : Int32} {M0 : mwM} {L0 : mwL} (hD : DX5_putBit fu k M L = some (r0, M0, L0)) (hk0 : isEa k) : Met l yX5_putBit (Cond.code yX5_putBit cX5_putBit 1 ((some .int)) :: GT) ({ frames := 1, cells := 0, slots := 0, locals := 20 }) (mw_Pre G ad NF TF FF M L [.ref (ad k)]) (mw_Qi G ad NF TF FF (mw_eqI r0 M0 L0)) 0 0 (mw_fr G) := by
  refine mw_enter (by decide) (Nat.le_of_ble_eq_true rfl) ?_
  intro p e s m below meth c ls C hr hlocks hnm hw hl
  have hl : lv_has ls 1 [(0, .ref (ad k))] := hl
  have hb28 : ∀ (s0 : Int32) (M : mwM) (L : mwL) (H : Heap) (locs : List Loc) (ls : Array Slot), fX5_putBit_b28 fu k s0 M L = some (r0, M0, L0) → mw_W G ad NF TF FF M L H locs → lv_has ls 1 [] → W p l e ({ frames := 1, cells := 0, slots := 0, locals := 20 }) s m [.ref (ad k)].toArray below meth c H locs 0 0 (MQ below (mw_Qi G ad NF TF FF (mw_eqI r0 M0 L0)) [.ref (ad k)].toArray s 0 0 (mw_fr G)) (F0 m 28 ls [.int s0]) := by
    intro s0 M L H locs ls hD hw hl
    unfold fX5_putBit_b28 at hD
    exact mr_iret C hr hlocks hw rfl (Option.some.inj hD) dX5_putBit_28
  have hb27 : ∀ (M : mwM) (L : mwL) (H : Heap) (locs : List Loc) (ls : Array Slot), fX5_putBit_b27 fu k M L = some (r0, M0, L0) → mw_W G ad NF TF FF M L H locs → lv_has ls 1 [] → W p l e ({ frames := 1, cells := 0, slots := 0, locals := 20 }) s m [.ref (ad k)].toArray below meth c H locs 0 0 (MQ below (mw_Qi G ad NF TF FF (mw_eqI r0 M0 L0)) [.ref (ad k)].toArray s 0 0 (mw_fr G)) (F0 m 27 ls []) := by
    intro M L H locs ls hD hw hl
    unfold fX5_putBit_b27 at hD
    refine lv_iconst (v := 1) C.1.1 C.1.2.1 dX5_putBit_27 (by decide) ?_
    exact hb28 1 M L _ _ ls hD hw (lv_sub hl [] rfl)
  unfold DX5_putBit at hD
  refine lv_aload_n C.1.1 C.1.2.1 dX5_putBit_0 rfl (lv_at hl 0 rfl) ?_
  refine mr_getI C hw kc_5 1 (Ea_N0 hk0) (Ea_T0 hk0) wd_108 dX5_putBit_1 (by decide) rfl ?_
  refine lv_iconst (v := 2) C.1.1 C.1.2.1 dX5_putBit_4 (by decide) ?_
  refine lv_icmp_ne (tgt := 27) C.1.1 C.1.2.1 dX5_putBit_5 (by decide) (fun c1 => ?_) (fun c1 => ?_)
  · replace hD := g_neg c1 hD
    exact hb27 M L _ _ ls hD hw (lv_sub hl [] rfl)
  · replace hD := g_pos c1 hD
    refine lv_aload_n C.1.1 C.1.2.1 dX5_putBit_8 rfl (lv_at hl 0 rfl) ?_
    refine mr_getI C hw kc_5 6 (Ea_N0 hk0) (Ea_T0 hk0) wd_113 dX5_putBit_9 (by decide) rfl ?_
    refine lv_iconst (v := 1) C.1.1 C.1.2.1 dX5_putBit_12 (by decide) ?_
    refine lv_icmp_ne (tgt := 27) C.1.1 C.1.2.1 dX5_putBit_13 (by decide) (fun c2 => ?_) (fun c2 => ?_)
    · replace hD := g_neg c2 hD
      exact hb27 M L _ _ ls hD hw (lv_sub hl [] rfl)
    · replace hD := g_pos c2 hD
      refine lv_aload_n C.1.1 C.1.2.1 dX5_putBit_16 rfl (lv_at hl 0 rfl) ?_
      obtain ⟨r5, M3, L4, h1, hD⟩ := g_b3 hD
      refine md_cvI (As := []) (rest := []) C hw (tX5_isCheckRight l G ad fu k M L h1 hk0) kc_5 (Ea_N0 hk0) (Ea_T0 hk0) wd_1369 cwX5_isCheckRight ⟨Nat.le_of_ble_eq_true rfl, Nat.le_of_ble_eq_true rfl⟩ rfl hl.1 (Nat.le_of_ble_eq_true rfl) dX5_putBit_17 rfl rfl ⟨Nat.zero_le _, Nat.zero_le _⟩ rfl (fun H locs hw => ?_)
      refine lv_if_eq (tgt := 27) C.1.1 C.1.2.1 dX5_putBit_20 (by decide) (fun c6 => ?_) (fun c6 => ?_)
      · replace hD := g_pos c6 hD
        exact hb27 M3 L4 _ _ ls hD hw (lv_sub hl [] rfl)
      · replace hD := g_neg c6 hD
        refine lv_iconst (v := 0) C.1.1 C.1.2.1 dX5_putBit_23 (by decide) ?_
        refine lv_goto (tgt := 28) C.1.1 C.1.2.1 dX5_putBit_24 (by decide) ?_
        exact hb28 0 M3 L4 _ _ ls hD hw (lv_sub hl [] rfl)

abbrev cJ6_bitCount_0f7a4 : ByteArray := prog_26_method_49_code
def yJ6_bitCount_0f7a4 : MethodName := ⟨"java/lang/Integer", "bitCount", "(I)I"⟩
theorem dX6_bitCount_0f7a4_0 : decode cJ6_bitCount_0f7a4 0 = .ok (.iload_n 0, 1) := by decide +kernel
theorem dX6_bitCount_0f7a4_1 : decode cJ6_bitCount_0f7a4 1 = .ok (.iload_n 0, 1) := by decide +kernel
theorem dX6_bitCount_0f7a4_2 : decode cJ6_bitCount_0f7a4 2 = .ok (.iconst 1, 1) := by decide +kernel
theorem dX6_bitCount_0f7a4_3 : decode cJ6_bitCount_0f7a4 3 = .ok (.iushr, 1) := by decide +kernel
theorem dX6_bitCount_0f7a4_4 : decode cJ6_bitCount_0f7a4 4 = .ok (.ldc_w 265, 3) := by decide +kernel
theorem dX6_bitCount_0f7a4_7 : decode cJ6_bitCount_0f7a4 7 = .ok (.iand, 1) := by decide +kernel
theorem dX6_bitCount_0f7a4_8 : decode cJ6_bitCount_0f7a4 8 = .ok (.isub, 1) := by decide +kernel
theorem dX6_bitCount_0f7a4_9 : decode cJ6_bitCount_0f7a4 9 = .ok (.istore_n 0, 1) := by decide +kernel
theorem dX6_bitCount_0f7a4_10 : decode cJ6_bitCount_0f7a4 10 = .ok (.iload_n 0, 1) := by decide +kernel
theorem dX6_bitCount_0f7a4_11 : decode cJ6_bitCount_0f7a4 11 = .ok (.ldc_w 266, 3) := by decide +kernel
theorem dX6_bitCount_0f7a4_14 : decode cJ6_bitCount_0f7a4 14 = .ok (.iand, 1) := by decide +kernel
theorem dX6_bitCount_0f7a4_15 : decode cJ6_bitCount_0f7a4 15 = .ok (.iload_n 0, 1) := by decide +kernel
theorem dX6_bitCount_0f7a4_16 : decode cJ6_bitCount_0f7a4 16 = .ok (.iconst 2, 1) := by decide +kernel
theorem dX6_bitCount_0f7a4_17 : decode cJ6_bitCount_0f7a4 17 = .ok (.iushr, 1) := by decide +kernel
theorem dX6_bitCount_0f7a4_18 : decode cJ6_bitCount_0f7a4 18 = .ok (.ldc_w 266, 3) := by decide +kernel
theorem dX6_bitCount_0f7a4_21 : decode cJ6_bitCount_0f7a4 21 = .ok (.iand, 1) := by decide +kernel
theorem dX6_bitCount_0f7a4_22 : decode cJ6_bitCount_0f7a4 22 = .ok (.iadd, 1) := by decide +kernel
theorem dX6_bitCount_0f7a4_23 : decode cJ6_bitCount_0f7a4 23 = .ok (.istore_n 0, 1) := by decide +kernel
theorem dX6_bitCount_0f7a4_24 : decode cJ6_bitCount_0f7a4 24 = .ok (.iload_n 0, 1) := by decide +kernel
theorem dX6_bitCount_0f7a4_25 : decode cJ6_bitCount_0f7a4 25 = .ok (.iload_n 0, 1) := by decide +kernel
theorem dX6_bitCount_0f7a4_26 : decode cJ6_bitCount_0f7a4 26 = .ok (.iconst 4, 1) := by decide +kernel
theorem dX6_bitCount_0f7a4_27 : decode cJ6_bitCount_0f7a4 27 = .ok (.iushr, 1) := by decide +kernel
theorem dX6_bitCount_0f7a4_28 : decode cJ6_bitCount_0f7a4 28 = .ok (.iadd, 1) := by decide +kernel
theorem dX6_bitCount_0f7a4_29 : decode cJ6_bitCount_0f7a4 29 = .ok (.ldc_w 267, 3) := by decide +kernel
theorem dX6_bitCount_0f7a4_32 : decode cJ6_bitCount_0f7a4 32 = .ok (.iand, 1) := by decide +kernel
theorem dX6_bitCount_0f7a4_33 : decode cJ6_bitCount_0f7a4 33 = .ok (.istore_n 0, 1) := by decide +kernel
theorem dX6_bitCount_0f7a4_34 : decode cJ6_bitCount_0f7a4 34 = .ok (.iload_n 0, 1) := by decide +kernel
theorem dX6_bitCount_0f7a4_35 : decode cJ6_bitCount_0f7a4 35 = .ok (.iload_n 0, 1) := by decide +kernel
theorem dX6_bitCount_0f7a4_36 : decode cJ6_bitCount_0f7a4 36 = .ok (.bipush 8, 2) := by decide +kernel
theorem dX6_bitCount_0f7a4_38 : decode cJ6_bitCount_0f7a4 38 = .ok (.iushr, 1) := by decide +kernel
theorem dX6_bitCount_0f7a4_39 : decode cJ6_bitCount_0f7a4 39 = .ok (.iadd, 1) := by decide +kernel
theorem dX6_bitCount_0f7a4_40 : decode cJ6_bitCount_0f7a4 40 = .ok (.istore_n 0, 1) := by decide +kernel
theorem dX6_bitCount_0f7a4_41 : decode cJ6_bitCount_0f7a4 41 = .ok (.iload_n 0, 1) := by decide +kernel
theorem dX6_bitCount_0f7a4_42 : decode cJ6_bitCount_0f7a4 42 = .ok (.iload_n 0, 1) := by decide +kernel
theorem dX6_bitCount_0f7a4_43 : decode cJ6_bitCount_0f7a4 43 = .ok (.bipush 16, 2) := by decide +kernel
theorem dX6_bitCount_0f7a4_45 : decode cJ6_bitCount_0f7a4 45 = .ok (.iushr, 1) := by decide +kernel
theorem dX6_bitCount_0f7a4_46 : decode cJ6_bitCount_0f7a4 46 = .ok (.iadd, 1) := by decide +kernel
theorem dX6_bitCount_0f7a4_47 : decode cJ6_bitCount_0f7a4 47 = .ok (.istore_n 0, 1) := by decide +kernel
theorem dX6_bitCount_0f7a4_48 : decode cJ6_bitCount_0f7a4 48 = .ok (.iload_n 0, 1) := by decide +kernel
theorem dX6_bitCount_0f7a4_49 : decode cJ6_bitCount_0f7a4 49 = .ok (.bipush 63, 2) := by decide +kernel
theorem dX6_bitCount_0f7a4_51 : decode cJ6_bitCount_0f7a4 51 = .ok (.iand, 1) := by decide +kernel
theorem dX6_bitCount_0f7a4_52 : decode cJ6_bitCount_0f7a4 52 = .ok (.ireturn, 1) := by decide +kernel
theorem cwX6_bitCount_0f7a4 : mw_cwS yJ6_bitCount_0f7a4 cJ6_bitCount_0f7a4 1 ((some .int)) 1 := ⟨⟨wd_32, wd_1413, by decide +kernel⟩, wd_1412⟩
set_option maxHeartbeats 4000000 in
set_option maxRecDepth 100000 in
theorem tX6_bitCount_0f7a4 (l : Launch) (G : mwG) (ad : Nat → Nat) (fu : Nat) (a1 : Int32) (M : mwM) (L : mwL) {r0 : Int32} {M0 : mwM} {L0 : mwL} (hD : DX6_bitCount_0f7a4 fu a1 M L = some (r0, M0, L0)) : Met l yJ6_bitCount_0f7a4 (Cond.code yJ6_bitCount_0f7a4 cJ6_bitCount_0f7a4 1 ((some .int)) :: GT) ({ frames := 0, cells := 0, slots := 0, locals := 0 }) (mw_Pre G ad NF TF FF M L [.int a1]) (mw_Qi G ad NF TF FF (mw_eqI r0 M0 L0)) 0 0 (mw_fr G) := by
  refine mw_enter (by decide) (Nat.le_of_ble_eq_true rfl) ?_
  intro p e s m below meth c ls C hr hlocks hnm hw hl
  have hl : lv_has ls 1 [(0, .int a1)] := hl
  unfold DX6_bitCount_0f7a4 at hD
  refine lv_iload_n C.1.1 C.1.2.1 dX6_bitCount_0f7a4_0 rfl (lv_at hl 0 rfl) ?_
  refine lv_iload_n C.1.1 C.1.2.1 dX6_bitCount_0f7a4_1 rfl (lv_at hl 0 rfl) ?_
  refine lv_iconst (v := 1) C.1.1 C.1.2.1 dX6_bitCount_0f7a4_2 (by decide) ?_
  refine lv_iushr C.1.1 C.1.2.1 dX6_bitCount_0f7a4_3 rfl ?_
  refine lv_ldcw (v := 1431655765) C.1.1 C.1.2.1 C.1.2.2.2.1 (C.1.2.2.2.2 _ wd_1414) dX6_bitCount_0f7a4_4 ?_
  refine lv_iand C.1.1 C.1.2.1 dX6_bitCount_0f7a4_7 ?_
  refine lv_isub C.1.1 C.1.2.1 dX6_bitCount_0f7a4_8 ?_
  obtain ⟨x1, ex1, hD⟩ := g_let hD
  refine W.eq (g2 := F0 m 9 ls (.int x1 :: [])) (by rw [ex1]) ?_
  refine lv_istore_n (lv' := [(0, .int x1)]) C.1.1 C.1.2.1 dX6_bitCount_0f7a4_9 rfl hl (by decide) rfl (fun ls hl => ?_)
  refine lv_iload_n C.1.1 C.1.2.1 dX6_bitCount_0f7a4_10 rfl (lv_at hl 0 rfl) ?_
  refine lv_ldcw (v := 858993459) C.1.1 C.1.2.1 C.1.2.2.2.1 (C.1.2.2.2.2 _ wd_1415) dX6_bitCount_0f7a4_11 ?_
  refine lv_iand C.1.1 C.1.2.1 dX6_bitCount_0f7a4_14 ?_
  refine lv_iload_n C.1.1 C.1.2.1 dX6_bitCount_0f7a4_15 rfl (lv_at hl 0 rfl) ?_
  refine lv_iconst (v := 2) C.1.1 C.1.2.1 dX6_bitCount_0f7a4_16 (by decide) ?_
  refine lv_iushr C.1.1 C.1.2.1 dX6_bitCount_0f7a4_17 rfl ?_
  refine lv_ldcw (v := 858993459) C.1.1 C.1.2.1 C.1.2.2.2.1 (C.1.2.2.2.2 _ wd_1415) dX6_bitCount_0f7a4_18 ?_
  refine lv_iand C.1.1 C.1.2.1 dX6_bitCount_0f7a4_21 ?_
  refine lv_iadd C.1.1 C.1.2.1 dX6_bitCount_0f7a4_22 ?_
  obtain ⟨x2, ex2, hD⟩ := g_let hD
  refine W.eq (g2 := F0 m 23 ls (.int x2 :: [])) (by rw [ex2]) ?_
  refine lv_istore_n (lv' := [(0, .int x2)]) C.1.1 C.1.2.1 dX6_bitCount_0f7a4_23 rfl hl (by decide) rfl (fun ls hl => ?_)
  refine lv_iload_n C.1.1 C.1.2.1 dX6_bitCount_0f7a4_24 rfl (lv_at hl 0 rfl) ?_
  refine lv_iload_n C.1.1 C.1.2.1 dX6_bitCount_0f7a4_25 rfl (lv_at hl 0 rfl) ?_
  refine lv_iconst (v := 4) C.1.1 C.1.2.1 dX6_bitCount_0f7a4_26 (by decide) ?_
  refine lv_iushr C.1.1 C.1.2.1 dX6_bitCount_0f7a4_27 rfl ?_
  refine lv_iadd C.1.1 C.1.2.1 dX6_bitCount_0f7a4_28 ?_
  refine lv_ldcw (v := 252645135) C.1.1 C.1.2.1 C.1.2.2.2.1 (C.1.2.2.2.2 _ wd_1416) dX6_bitCount_0f7a4_29 ?_
  refine lv_iand C.1.1 C.1.2.1 dX6_bitCount_0f7a4_32 ?_
  obtain ⟨x3, ex3, hD⟩ := g_let hD
  refine W.eq (g2 := F0 m 33 ls (.int x3 :: [])) (by rw [ex3]) ?_
  refine lv_istore_n (lv' := [(0, .int x3)]) C.1.1 C.1.2.1 dX6_bitCount_0f7a4_33 rfl hl (by decide) rfl (fun ls hl => ?_)
  refine lv_iload_n C.1.1 C.1.2.1 dX6_bitCount_0f7a4_34 rfl (lv_at hl 0 rfl) ?_
  refine lv_iload_n C.1.1 C.1.2.1 dX6_bitCount_0f7a4_35 rfl (lv_at hl 0 rfl) ?_
  refine lv_bipush (v := 8) C.1.1 C.1.2.1 dX6_bitCount_0f7a4_36 (by decide) ?_
  refine lv_iushr C.1.1 C.1.2.1 dX6_bitCount_0f7a4_38 rfl ?_
  refine lv_iadd C.1.1 C.1.2.1 dX6_bitCount_0f7a4_39 ?_
  obtain ⟨x4, ex4, hD⟩ := g_let hD
  refine W.eq (g2 := F0 m 40 ls (.int x4 :: [])) (by rw [ex4]) ?_
  refine lv_istore_n (lv' := [(0, .int x4)]) C.1.1 C.1.2.1 dX6_bitCount_0f7a4_40 rfl hl (by decide) rfl (fun ls hl => ?_)
  refine lv_iload_n C.1.1 C.1.2.1 dX6_bitCount_0f7a4_41 rfl (lv_at hl 0 rfl) ?_
  refine lv_iload_n C.1.1 C.1.2.1 dX6_bitCount_0f7a4_42 rfl (lv_at hl 0 rfl) ?_
  refine lv_bipush (v := 16) C.1.1 C.1.2.1 dX6_bitCount_0f7a4_43 (by decide) ?_
  refine lv_iushr C.1.1 C.1.2.1 dX6_bitCount_0f7a4_45 rfl ?_
  refine lv_iadd C.1.1 C.1.2.1 dX6_bitCount_0f7a4_46 ?_
  obtain ⟨x5, ex5, hD⟩ := g_let hD
  refine W.eq (g2 := F0 m 47 ls (.int x5 :: [])) (by rw [ex5]) ?_
  refine lv_istore_n (lv' := [(0, .int x5)]) C.1.1 C.1.2.1 dX6_bitCount_0f7a4_47 rfl hl (by decide) rfl (fun ls hl => ?_)
  refine lv_iload_n C.1.1 C.1.2.1 dX6_bitCount_0f7a4_48 rfl (lv_at hl 0 rfl) ?_
  refine lv_bipush (v := 63) C.1.1 C.1.2.1 dX6_bitCount_0f7a4_49 (by decide) ?_
  refine lv_iand C.1.1 C.1.2.1 dX6_bitCount_0f7a4_51 ?_
  exact mr_iret C hr hlocks hw rfl (Option.some.inj hD) dX6_bitCount_0f7a4_52

theorem dX5_countOfStuffs_0 : decode cX5_countOfStuffs 0 = .ok (.aload_n 0, 1) := by decide +kernel
theorem dX5_countOfStuffs_1 : decode cX5_countOfStuffs 1 = .ok (.getfield 23, 3) := by decide +kernel
theorem dX5_countOfStuffs_4 : decode cX5_countOfStuffs 4 = .ok (.bipush 8, 2) := by decide +kernel
theorem dX5_countOfStuffs_6 : decode cX5_countOfStuffs 6 = .ok (.irem, 1) := by decide +kernel
theorem dX5_countOfStuffs_7 : decode cX5_countOfStuffs 7 = .ok (.istore_n 1, 1) := by decide +kernel
theorem dX5_countOfStuffs_8 : decode cX5_countOfStuffs 8 = .ok (.iload_n 1, 1) := by decide +kernel
theorem dX5_countOfStuffs_9 : decode cX5_countOfStuffs 9 = .ok (.iload_n 1, 1) := by decide +kernel
theorem dX5_countOfStuffs_10 : decode cX5_countOfStuffs 10 = .ok (.iconst 2, 1) := by decide +kernel
theorem dX5_countOfStuffs_11 : decode cX5_countOfStuffs 11 = .ok (.idiv, 1) := by decide +kernel
theorem dX5_countOfStuffs_12 : decode cX5_countOfStuffs 12 = .ok (.ixor, 1) := by decide +kernel
theorem dX5_countOfStuffs_13 : decode cX5_countOfStuffs 13 = .ok (.istore_n 2, 1) := by decide +kernel
theorem dX5_countOfStuffs_14 : decode cX5_countOfStuffs 14 = .ok (.iload_n 2, 1) := by decide +kernel
theorem dX5_countOfStuffs_15 : decode cX5_countOfStuffs 15 = .ok (.iconst 1, 1) := by decide +kernel
theorem dX5_countOfStuffs_16 : decode cX5_countOfStuffs 16 = .ok (.ishl, 1) := by decide +kernel
theorem dX5_countOfStuffs_17 : decode cX5_countOfStuffs 17 = .ok (.iload_n 2, 1) := by decide +kernel
theorem dX5_countOfStuffs_18 : decode cX5_countOfStuffs 18 = .ok (.invokestatic 120, 3) := by decide +kernel
theorem dX5_countOfStuffs_21 : decode cX5_countOfStuffs 21 = .ok (.iconst 1, 1) := by decide +kernel
theorem dX5_countOfStuffs_22 : decode cX5_countOfStuffs 22 = .ok (.iand, 1) := by decide +kernel
theorem dX5_countOfStuffs_23 : decode cX5_countOfStuffs 23 = .ok (.ior, 1) := by decide +kernel
theorem dX5_countOfStuffs_24 : decode cX5_countOfStuffs 24 = .ok (.ireturn, 1) := by decide +kernel
theorem cwX5_countOfStuffs : mw_cwV yX5_countOfStuffs cX5_countOfStuffs 3 ((some .int)) 0 := ⟨⟨wd_6, wd_1410, by decide +kernel⟩, wd_1409, sl_81⟩
set_option maxHeartbeats 4000000 in
set_option maxRecDepth 100000 in
theorem tX5_countOfStuffs (l : Launch) (G : mwG) (ad : Nat → Nat) (fu : Nat) (k : Nat) (M : mwM) (L : mwL) {r0 : Int32} {M0 : mwM} {L0 : mwL} (hD : DX5_countOfStuffs fu k M L = some (r0, M0, L0)) (hk0 : isEa k) : Met l yX5_countOfStuffs (Cond.code yX5_countOfStuffs cX5_countOfStuffs 3 ((some .int)) :: GT) ({ frames := 1, cells := 0, slots := 0, locals := 20 }) (mw_Pre G ad NF TF FF M L [.ref (ad k)]) (mw_Qi G ad NF TF FF (mw_eqI r0 M0 L0)) 0 0 (mw_fr G) := by
  refine mw_enter (by decide) (Nat.le_of_ble_eq_true rfl) ?_
  intro p e s m below meth c ls C hr hlocks hnm hw hl
  have hl : lv_has ls 3 [(0, .ref (ad k))] := hl
  unfold DX5_countOfStuffs at hD
  refine lv_aload_n C.1.1 C.1.2.1 dX5_countOfStuffs_0 rfl (lv_at hl 0 rfl) ?_
  refine mr_getI C hw kc_5 4 (Ea_N0 hk0) (Ea_T0 hk0) wd_111 dX5_countOfStuffs_1 (by decide) rfl ?_
  refine lv_bipush (v := 8) C.1.1 C.1.2.1 dX5_countOfStuffs_4 (by decide) ?_
  refine lv_irem C.1.1 C.1.2.1 dX5_countOfStuffs_6 (by decide) ?_
  obtain ⟨x2, ex2, hD⟩ := g_let hD
  refine W.eq (g2 := F0 m 7 ls (.int x2 :: [])) (by rw [ex2]) ?_
  refine lv_istore_n (lv' := [(1, .int x2), (0, .ref (ad k))]) C.1.1 C.1.2.1 dX5_countOfStuffs_7 rfl hl (by decide) rfl (fun ls hl => ?_)
  refine lv_iload_n C.1.1 C.1.2.1 dX5_countOfStuffs_8 rfl (lv_at hl 0 rfl) ?_
  refine lv_iload_n C.1.1 C.1.2.1 dX5_countOfStuffs_9 rfl (lv_at hl 0 rfl) ?_
  refine lv_iconst (v := 2) C.1.1 C.1.2.1 dX5_countOfStuffs_10 (by decide) ?_
  refine lv_idiv C.1.1 C.1.2.1 dX5_countOfStuffs_11 (by decide) ?_
  refine lv_ixor C.1.1 C.1.2.1 dX5_countOfStuffs_12 ?_
  obtain ⟨x4, ex4, hD⟩ := g_let hD
  refine W.eq (g2 := F0 m 13 ls (.int x4 :: [])) (by rw [ex4]) ?_
  refine lv_istore_n (lv' := [(2, .int x4), (1, .int x2), (0, .ref (ad k))]) C.1.1 C.1.2.1 dX5_countOfStuffs_13 rfl hl (by decide) rfl (fun ls hl => ?_)
  refine lv_iload_n C.1.1 C.1.2.1 dX5_countOfStuffs_14 rfl (lv_at hl 0 rfl) ?_
  refine lv_iconst (v := 1) C.1.1 C.1.2.1 dX5_countOfStuffs_15 (by decide) ?_
  refine lv_ishl C.1.1 C.1.2.1 dX5_countOfStuffs_16 ?_
  refine lv_iload_n C.1.1 C.1.2.1 dX5_countOfStuffs_17 rfl (lv_at hl 0 rfl) ?_
  obtain ⟨r7, M5, L6, h1, hD⟩ := g_b3 hD
  refine md_csI (As := [.int x4]) (rest := [.int (x4 <<< (1 &&& 31))]) C hw (tX6_bitCount_0f7a4 l G ad fu x4 M L h1) wd_1411 cwX6_bitCount_0f7a4 ⟨Nat.le_of_ble_eq_true rfl, Nat.le_of_ble_eq_true rfl⟩ rfl hl.1 (Nat.le_of_ble_eq_true rfl) dX5_countOfStuffs_18 rfl rfl ⟨Nat.zero_le _, Nat.zero_le _⟩ rfl (fun H locs hw => ?_)
  refine lv_iconst (v := 1) C.1.1 C.1.2.1 dX5_countOfStuffs_21 (by decide) ?_
  refine lv_iand C.1.1 C.1.2.1 dX5_countOfStuffs_22 ?_
  refine lv_ior C.1.1 C.1.2.1 dX5_countOfStuffs_23 ?_
  exact mr_iret C hr hlocks hw rfl (Option.some.inj hD) dX5_countOfStuffs_24

theorem dX5_hearFixed_0 : decode cX5_hearFixed 0 = .ok (.aload_n 0, 1) := by decide +kernel
theorem dX5_hearFixed_1 : decode cX5_hearFixed 1 = .ok (.getfield 29, 3) := by decide +kernel
theorem dX5_hearFixed_4 : decode cX5_hearFixed 4 = .ok (.istore_n 2, 1) := by decide +kernel
theorem dX5_hearFixed_5 : decode cX5_hearFixed 5 = .ok (.iload_n 1, 1) := by decide +kernel
theorem dX5_hearFixed_6 : decode cX5_hearFixed 6 = .ok (.aload_n 0, 1) := by decide +kernel
theorem dX5_hearFixed_7 : decode cX5_hearFixed 7 = .ok (.getfield 17, 3) := by decide +kernel
theorem dX5_hearFixed_10 : decode cX5_hearFixed 10 = .ok (.if_icmp .ne 7, 3) := by decide +kernel
theorem dX5_hearFixed_13 : decode cX5_hearFixed 13 = .ok (.iconst 1, 1) := by decide +kernel
theorem dX5_hearFixed_14 : decode cX5_hearFixed 14 = .ok (.goto 4, 3) := by decide +kernel
theorem dX5_hearFixed_17 : decode cX5_hearFixed 17 = .ok (.iconst 0, 1) := by decide +kernel
theorem dX5_hearFixed_18 : decode cX5_hearFixed 18 = .ok (.istore_n 3, 1) := by decide +kernel
theorem dX5_hearFixed_19 : decode cX5_hearFixed 19 = .ok (.aload_n 0, 1) := by decide +kernel
theorem dX5_hearFixed_20 : decode cX5_hearFixed 20 = .ok (.dup, 1) := by decide +kernel
theorem dX5_hearFixed_21 : decode cX5_hearFixed 21 = .ok (.getfield 29, 3) := by decide +kernel
theorem dX5_hearFixed_24 : decode cX5_hearFixed 24 = .ok (.iconst 1, 1) := by decide +kernel
theorem dX5_hearFixed_25 : decode cX5_hearFixed 25 = .ok (.iadd, 1) := by decide +kernel
theorem dX5_hearFixed_26 : decode cX5_hearFixed 26 = .ok (.putfield 29, 3) := by decide +kernel
theorem dX5_hearFixed_29 : decode cX5_hearFixed 29 = .ok (.aload_n 0, 1) := by decide +kernel
theorem dX5_hearFixed_30 : decode cX5_hearFixed 30 = .ok (.iload_n 1, 1) := by decide +kernel
theorem dX5_hearFixed_31 : decode cX5_hearFixed 31 = .ok (.putfield 17, 3) := by decide +kernel
theorem dX5_hearFixed_34 : decode cX5_hearFixed 34 = .ok (.iload_n 2, 1) := by decide +kernel
theorem dX5_hearFixed_35 : decode cX5_hearFixed 35 = .ok (.iconst 5, 1) := by decide +kernel
theorem dX5_hearFixed_36 : decode cX5_hearFixed 36 = .ok (.irem, 1) := by decide +kernel
theorem dX5_hearFixed_37 : decode cX5_hearFixed 37 = .ok (.ifCond .ne 13, 3) := by decide +kernel
theorem dX5_hearFixed_40 : decode cX5_hearFixed 40 = .ok (.iload_n 3, 1) := by decide +kernel
theorem dX5_hearFixed_41 : decode cX5_hearFixed 41 = .ok (.ifCond .eq 7, 3) := by decide +kernel
theorem dX5_hearFixed_44 : decode cX5_hearFixed 44 = .ok (.iconst 1, 1) := by decide +kernel
theorem dX5_hearFixed_45 : decode cX5_hearFixed 45 = .ok (.goto 4, 3) := by decide +kernel
theorem dX5_hearFixed_48 : decode cX5_hearFixed 48 = .ok (.iconst (-1), 1) := by decide +kernel
theorem dX5_hearFixed_49 : decode cX5_hearFixed 49 = .ok (.ireturn, 1) := by decide +kernel
theorem dX5_hearFixed_50 : decode cX5_hearFixed 50 = .ok (.iload_n 2, 1) := by decide +kernel
theorem dX5_hearFixed_51 : decode cX5_hearFixed 51 = .ok (.iload_n 2, 1) := by decide +kernel
theorem dX5_hearFixed_52 : decode cX5_hearFixed 52 = .ok (.iconst 5, 1) := by decide +kernel
theorem dX5_hearFixed_53 : decode cX5_hearFixed 53 = .ok (.idiv, 1) := by decide +kernel
theorem dX5_hearFixed_54 : decode cX5_hearFixed 54 = .ok (.isub, 1) := by decide +kernel
theorem dX5_hearFixed_55 : decode cX5_hearFixed 55 = .ok (.iconst 1, 1) := by decide +kernel
theorem dX5_hearFixed_56 : decode cX5_hearFixed 56 = .ok (.isub, 1) := by decide +kernel
theorem dX5_hearFixed_57 : decode cX5_hearFixed 57 = .ok (.istore 4, 2) := by decide +kernel
theorem dX5_hearFixed_59 : decode cX5_hearFixed 59 = .ok (.iload 4, 2) := by decide +kernel
theorem dX5_hearFixed_61 : decode cX5_hearFixed 61 = .ok (.iconst 4, 1) := by decide +kernel
theorem dX5_hearFixed_62 : decode cX5_hearFixed 62 = .ok (.if_icmp .ge 70, 3) := by decide +kernel
theorem dX5_hearFixed_65 : decode cX5_hearFixed 65 = .ok (.aload_n 0, 1) := by decide +kernel
theorem dX5_hearFixed_66 : decode cX5_hearFixed 66 = .ok (.aload_n 0, 1) := by decide +kernel
theorem dX5_hearFixed_67 : decode cX5_hearFixed 67 = .ok (.getfield 77, 3) := by decide +kernel
theorem dX5_hearFixed_70 : decode cX5_hearFixed 70 = .ok (.iconst 1, 1) := by decide +kernel
theorem dX5_hearFixed_71 : decode cX5_hearFixed 71 = .ok (.ishl, 1) := by decide +kernel
theorem dX5_hearFixed_72 : decode cX5_hearFixed 72 = .ok (.iload_n 1, 1) := by decide +kernel
theorem dX5_hearFixed_73 : decode cX5_hearFixed 73 = .ok (.ior, 1) := by decide +kernel
theorem dX5_hearFixed_74 : decode cX5_hearFixed 74 = .ok (.putfield 77, 3) := by decide +kernel
theorem dX5_hearFixed_77 : decode cX5_hearFixed 77 = .ok (.aload_n 0, 1) := by decide +kernel
theorem dX5_hearFixed_78 : decode cX5_hearFixed 78 = .ok (.aload_n 0, 1) := by decide +kernel
theorem dX5_hearFixed_79 : decode cX5_hearFixed 79 = .ok (.getfield 41, 3) := by decide +kernel
theorem dX5_hearFixed_82 : decode cX5_hearFixed 82 = .ok (.iload_n 1, 1) := by decide +kernel
theorem dX5_hearFixed_83 : decode cX5_hearFixed 83 = .ok (.bipush 17, 2) := by decide +kernel
theorem dX5_hearFixed_85 : decode cX5_hearFixed 85 = .ok (.ldc 40, 2) := by decide +kernel
theorem dX5_hearFixed_87 : decode cX5_hearFixed 87 = .ok (.invokestatic 32, 3) := by decide +kernel
theorem dX5_hearFixed_90 : decode cX5_hearFixed 90 = .ok (.putfield 41, 3) := by decide +kernel
theorem dX5_hearFixed_93 : decode cX5_hearFixed 93 = .ok (.aload_n 0, 1) := by decide +kernel
theorem dX5_hearFixed_94 : decode cX5_hearFixed 94 = .ok (.aload_n 0, 1) := by decide +kernel
theorem dX5_hearFixed_95 : decode cX5_hearFixed 95 = .ok (.getfield 46, 3) := by decide +kernel
theorem dX5_hearFixed_98 : decode cX5_hearFixed 98 = .ok (.iload_n 1, 1) := by decide +kernel
theorem dX5_hearFixed_99 : decode cX5_hearFixed 99 = .ok (.bipush 21, 2) := by decide +kernel
theorem dX5_hearFixed_101 : decode cX5_hearFixed 101 = .ok (.ldc 45, 2) := by decide +kernel
theorem dX5_hearFixed_103 : decode cX5_hearFixed 103 = .ok (.invokestatic 32, 3) := by decide +kernel
theorem dX5_hearFixed_106 : decode cX5_hearFixed 106 = .ok (.putfield 46, 3) := by decide +kernel
theorem dX5_hearFixed_109 : decode cX5_hearFixed 109 = .ok (.iload 4, 2) := by decide +kernel
theorem dX5_hearFixed_111 : decode cX5_hearFixed 111 = .ok (.iconst 3, 1) := by decide +kernel
theorem dX5_hearFixed_112 : decode cX5_hearFixed 112 = .ok (.if_icmp .ne 18, 3) := by decide +kernel
theorem dX5_hearFixed_115 : decode cX5_hearFixed 115 = .ok (.aload_n 0, 1) := by decide +kernel
theorem dX5_hearFixed_116 : decode cX5_hearFixed 116 = .ok (.getfield 77, 3) := by decide +kernel
theorem dX5_hearFixed_119 : decode cX5_hearFixed 119 = .ok (.aload_n 0, 1) := by decide +kernel
theorem dX5_hearFixed_120 : decode cX5_hearFixed 120 = .ok (.invokevirtual 117, 3) := by decide +kernel
theorem dX5_hearFixed_123 : decode cX5_hearFixed 123 = .ok (.if_icmp .eq 7, 3) := by decide +kernel
theorem dX5_hearFixed_126 : decode cX5_hearFixed 126 = .ok (.iconst 1, 1) := by decide +kernel
theorem dX5_hearFixed_127 : decode cX5_hearFixed 127 = .ok (.goto 4, 3) := by decide +kernel
theorem dX5_hearFixed_130 : decode cX5_hearFixed 130 = .ok (.iconst (-1), 1) := by decide +kernel
theorem dX5_hearFixed_131 : decode cX5_hearFixed 131 = .ok (.ireturn, 1) := by decide +kernel
theorem dX5_hearFixed_132 : decode cX5_hearFixed 132 = .ok (.aload_n 0, 1) := by decide +kernel
theorem dX5_hearFixed_133 : decode cX5_hearFixed 133 = .ok (.aload_n 0, 1) := by decide +kernel
theorem dX5_hearFixed_134 : decode cX5_hearFixed 134 = .ok (.getfield 74, 3) := by decide +kernel
theorem dX5_hearFixed_137 : decode cX5_hearFixed 137 = .ok (.iconst 1, 1) := by decide +kernel
theorem dX5_hearFixed_138 : decode cX5_hearFixed 138 = .ok (.ishl, 1) := by decide +kernel
theorem dX5_hearFixed_139 : decode cX5_hearFixed 139 = .ok (.iload_n 1, 1) := by decide +kernel
theorem dX5_hearFixed_140 : decode cX5_hearFixed 140 = .ok (.ior, 1) := by decide +kernel
theorem dX5_hearFixed_141 : decode cX5_hearFixed 141 = .ok (.putfield 74, 3) := by decide +kernel
theorem dX5_hearFixed_144 : decode cX5_hearFixed 144 = .ok (.iload 4, 2) := by decide +kernel
theorem dX5_hearFixed_146 : decode cX5_hearFixed 146 = .ok (.iconst 3, 1) := by decide +kernel
theorem dX5_hearFixed_147 : decode cX5_hearFixed 147 = .ok (.aload_n 0, 1) := by decide +kernel
theorem dX5_hearFixed_148 : decode cX5_hearFixed 148 = .ok (.getfield 68, 3) := by decide +kernel
theorem dX5_hearFixed_151 : decode cX5_hearFixed 151 = .ok (.bipush 16, 2) := by decide +kernel
theorem dX5_hearFixed_153 : decode cX5_hearFixed 153 = .ok (.if_icmp .gt 8, 3) := by decide +kernel
theorem dX5_hearFixed_156 : decode cX5_hearFixed 156 = .ok (.bipush 17, 2) := by decide +kernel
theorem dX5_hearFixed_158 : decode cX5_hearFixed 158 = .ok (.goto 5, 3) := by decide +kernel
theorem dX5_hearFixed_161 : decode cX5_hearFixed 161 = .ok (.bipush 21, 2) := by decide +kernel
theorem dX5_hearFixed_163 : decode cX5_hearFixed 163 = .ok (.iadd, 1) := by decide +kernel
theorem dX5_hearFixed_164 : decode cX5_hearFixed 164 = .ok (.if_icmp .ne 13, 3) := by decide +kernel
theorem dX5_hearFixed_167 : decode cX5_hearFixed 167 = .ok (.aload_n 0, 1) := by decide +kernel
theorem dX5_hearFixed_168 : decode cX5_hearFixed 168 = .ok (.iconst 2, 1) := by decide +kernel
theorem dX5_hearFixed_169 : decode cX5_hearFixed 169 = .ok (.putfield 13, 3) := by decide +kernel
theorem dX5_hearFixed_172 : decode cX5_hearFixed 172 = .ok (.aload_n 0, 1) := by decide +kernel
theorem dX5_hearFixed_173 : decode cX5_hearFixed 173 = .ok (.iconst 0, 1) := by decide +kernel
theorem dX5_hearFixed_174 : decode cX5_hearFixed 174 = .ok (.putfield 29, 3) := by decide +kernel
theorem dX5_hearFixed_177 : decode cX5_hearFixed 177 = .ok (.iconst (-1), 1) := by decide +kernel
theorem dX5_hearFixed_178 : decode cX5_hearFixed 178 = .ok (.ireturn, 1) := by decide +kernel
theorem cwX5_hearFixed : mw_cwV yX5_hearFixed cX5_hearFixed 5 ((some .int)) 1 := ⟨⟨wd_6, wd_1406, by decide +kernel⟩, wd_1405, sl_80⟩
set_option maxHeartbeats 4000000 in
set_option maxRecDepth 100000 in
theorem tX5_hearFixed (l : Launch) (G : mwG) (ad : Nat → Nat) (fu : Nat) (k : Nat) (a1 : Int32) (M : mwM) (L : mwL) {r0 : Int32} {M0 : mwM} {L0 : mwL} (hD : DX5_hearFixed fu k a1 M L = some (r0, M0, L0)) (hk0 : isEa k) : Met l yX5_hearFixed (Cond.code yX5_hearFixed cX5_hearFixed 5 ((some .int)) :: GT) ({ frames := 2, cells := 0, slots := 0, locals := 42 }) (mw_Pre G ad NF TF FF M L [.ref (ad k), .int a1]) (mw_Qi G ad NF TF FF (mw_eqI r0 M0 L0)) 0 0 (mw_fr G) := by
  refine mw_enter (by decide) (Nat.le_of_ble_eq_true rfl) ?_
  intro p e s m below meth c ls C hr hlocks hnm hw hl
  have hl : lv_has ls 5 [(0, .ref (ad k)), (1, .int a1)] := hl
  have hb49 : ∀ (s0 : Int32) (M : mwM) (L : mwL) (H : Heap) (locs : List Loc) (ls : Array Slot), fX5_hearFixed_b49 fu k a1 s0 M L = some (r0, M0, L0) → mw_W G ad NF TF FF M L H locs → lv_has ls 5 [] → W p l e ({ frames := 2, cells := 0, slots := 0, locals := 42 }) s m [.ref (ad k), .int a1].toArray below meth c H locs 0 0 (MQ below (mw_Qi G ad NF TF FF (mw_eqI r0 M0 L0)) [.ref (ad k), .int a1].toArray s 0 0 (mw_fr G)) (F0 m 49 ls [.int s0]) := by
    intro s0 M L H locs ls hD hw hl
    unfold fX5_hearFixed_b49 at hD
    exact mr_iret C hr hlocks hw rfl (Option.some.inj hD) dX5_hearFixed_49
  have hb177 : ∀ (M : mwM) (L : mwL) (H : Heap) (locs : List Loc) (ls : Array Slot), fX5_hearFixed_b177 fu k a1 M L = some (r0, M0, L0) → mw_W G ad NF TF FF M L H locs → lv_has ls 5 [] → W p l e ({ frames := 2, cells := 0, slots := 0, locals := 42 }) s m [.ref (ad k), .int a1].toArray below meth c H locs 0 0 (MQ below (mw_Qi G ad NF TF FF (mw_eqI r0 M0 L0)) [.ref (ad k), .int a1].toArray s 0 0 (mw_fr G)) (F0 m 177 ls []) := by
    intro M L H locs ls hD hw hl
    unfold fX5_hearFixed_b177 at hD
    refine lv_iconst (v := (-1)) C.1.1 C.1.2.1 dX5_hearFixed_177 (by decide) ?_
    exact mr_iret C hr hlocks hw rfl (Option.some.inj hD) dX5_hearFixed_178
  have hb163 : ∀ (s0 : Int32) (s1 : Int32) (s2 : Int32) (M : mwM) (L : mwL) (H : Heap) (locs : List Loc) (ls : Array Slot), fX5_hearFixed_b163 fu k a1 s0 s1 s2 M L = some (r0, M0, L0) → mw_W G ad NF TF FF M L H locs → lv_has ls 5 [(0, .ref (ad k))] → W p l e ({ frames := 2, cells := 0, slots := 0, locals := 42 }) s m [.ref (ad k), .int a1].toArray below meth c H locs 0 0 (MQ below (mw_Qi G ad NF TF FF (mw_eqI r0 M0 L0)) [.ref (ad k), .int a1].toArray s 0 0 (mw_fr G)) (F0 m 163 ls [.int s2, .int s1, .int s0]) := by
    intro s0 s1 s2 M L H locs ls hD hw hl
    unfold fX5_hearFixed_b163 at hD
    refine lv_iadd C.1.1 C.1.2.1 dX5_hearFixed_163 ?_
    refine lv_icmp_ne (tgt := 177) C.1.1 C.1.2.1 dX5_hearFixed_164 (by decide) (fun c25 => ?_) (fun c25 => ?_)
    · replace hD := g_neg c25 hD
      exact hb177 M L _ _ ls hD hw (lv_sub hl [] rfl)
    · replace hD := g_pos c25 hD
      refine lv_aload_n C.1.1 C.1.2.1 dX5_hearFixed_167 rfl (lv_at hl 0 rfl) ?_
      refine lv_iconst (v := 2) C.1.1 C.1.2.1 dX5_hearFixed_168 (by decide) ?_
      obtain ⟨M26, eM26, hD⟩ := g_let hD
      refine mr_putI C hw kc_5 1 (Ea_N0 hk0) (Ea_T0 hk0) wd_108 dX5_hearFixed_169 (by decide) rfl rfl rfl rfl (fun H locs hw => ?_)
      replace hw : mw_W G ad NF TF FF M26 L H locs := by rw [eM26]; exact hw
      refine lv_aload_n C.1.1 C.1.2.1 dX5_hearFixed_172 rfl (lv_at hl 0 rfl) ?_
      refine lv_iconst (v := 0) C.1.1 C.1.2.1 dX5_hearFixed_173 (by decide) ?_
      obtain ⟨M27, eM27, hD⟩ := g_let hD
      refine mr_putI C hw kc_5 6 (Ea_N0 hk0) (Ea_T0 hk0) wd_113 dX5_hearFixed_174 (by decide) rfl rfl rfl rfl (fun H locs hw => ?_)
      replace hw : mw_W G ad NF TF FF M27 L H locs := by rw [eM27]; exact hw
      exact hb177 M27 L _ _ ls hD hw (lv_sub hl [] rfl)
  have hb131 : ∀ (s0 : Int32) (M : mwM) (L : mwL) (H : Heap) (locs : List Loc) (ls : Array Slot), fX5_hearFixed_b131 fu k a1 s0 M L = some (r0, M0, L0) → mw_W G ad NF TF FF M L H locs → lv_has ls 5 [] → W p l e ({ frames := 2, cells := 0, slots := 0, locals := 42 }) s m [.ref (ad k), .int a1].toArray below meth c H locs 0 0 (MQ below (mw_Qi G ad NF TF FF (mw_eqI r0 M0 L0)) [.ref (ad k), .int a1].toArray s 0 0 (mw_fr G)) (F0 m 131 ls [.int s0]) := by
    intro s0 M L H locs ls hD hw hl
    unfold fX5_hearFixed_b131 at hD
    exact mr_iret C hr hlocks hw rfl (Option.some.inj hD) dX5_hearFixed_131
  have hb130 : ∀ (M : mwM) (L : mwL) (H : Heap) (locs : List Loc) (ls : Array Slot), fX5_hearFixed_b130 fu k a1 M L = some (r0, M0, L0) → mw_W G ad NF TF FF M L H locs → lv_has ls 5 [] → W p l e ({ frames := 2, cells := 0, slots := 0, locals := 42 }) s m [.ref (ad k), .int a1].toArray below meth c H locs 0 0 (MQ below (mw_Qi G ad NF TF FF (mw_eqI r0 M0 L0)) [.ref (ad k), .int a1].toArray s 0 0 (mw_fr G)) (F0 m 130 ls []) := by
    intro M L H locs ls hD hw hl
    unfold fX5_hearFixed_b130 at hD
    refine lv_iconst (v := (-1)) C.1.1 C.1.2.1 dX5_hearFixed_130 (by decide) ?_
    exact hb131 ((-1)) M L _ _ ls hD hw (lv_sub hl [] rfl)
  have hb18 : ∀ (v2 : Int32) (s0 : Int32) (M : mwM) (L : mwL) (H : Heap) (locs : List Loc) (ls : Array Slot), fX5_hearFixed_b18 fu k a1 v2 s0 M L = some (r0, M0, L0) → mw_W G ad NF TF FF M L H locs → lv_has ls 5 [(0, .ref (ad k)), (1, .int a1), (2, .int v2)] → W p l e ({ frames := 2, cells := 0, slots := 0, locals := 42 }) s m [.ref (ad k), .int a1].toArray below meth c H locs 0 0 (MQ below (mw_Qi G ad NF TF FF (mw_eqI r0 M0 L0)) [.ref (ad k), .int a1].toArray s 0 0 (mw_fr G)) (F0 m 18 ls [.int s0]) := by
    intro v2 s0 M L H locs ls hD hw hl
    unfold fX5_hearFixed_b18 at hD
    refine lv_istore_n (lv' := [(3, .int s0), (0, .ref (ad k)), (1, .int a1), (2, .int v2)]) C.1.1 C.1.2.1 dX5_hearFixed_18 rfl hl (by decide) rfl (fun ls hl => ?_)
    refine lv_aload_n C.1.1 C.1.2.1 dX5_hearFixed_19 rfl (lv_at hl 1 rfl) ?_
    refine lv_dup C.1.1 C.1.2.1 dX5_hearFixed_20 rfl ?_
    refine mr_getI C hw kc_5 6 (Ea_N0 hk0) (Ea_T0 hk0) wd_113 dX5_hearFixed_21 (by decide) rfl ?_
    refine lv_iconst (v := 1) C.1.1 C.1.2.1 dX5_hearFixed_24 (by decide) ?_
    refine lv_iadd C.1.1 C.1.2.1 dX5_hearFixed_25 ?_
    obtain ⟨M1, eM1, hD⟩ := g_let hD
    refine mr_putI C hw kc_5 6 (Ea_N0 hk0) (Ea_T0 hk0) wd_113 dX5_hearFixed_26 (by decide) rfl rfl rfl rfl (fun H locs hw => ?_)
    replace hw : mw_W G ad NF TF FF M1 L H locs := by rw [eM1]; exact hw
    refine lv_aload_n C.1.1 C.1.2.1 dX5_hearFixed_29 rfl (lv_at hl 1 rfl) ?_
    refine lv_iload_n C.1.1 C.1.2.1 dX5_hearFixed_30 rfl (lv_at hl 2 rfl) ?_
    obtain ⟨M2, eM2, hD⟩ := g_let hD
    refine mr_putI C hw kc_5 2 (Ea_N0 hk0) (Ea_T0 hk0) wd_109 dX5_hearFixed_31 (by decide) rfl rfl rfl rfl (fun H locs hw => ?_)
    replace hw : mw_W G ad NF TF FF M2 L H locs := by rw [eM2]; exact hw
    refine lv_iload_n C.1.1 C.1.2.1 dX5_hearFixed_34 rfl (lv_at hl 3 rfl) ?_
    refine lv_iconst (v := 5) C.1.1 C.1.2.1 dX5_hearFixed_35 (by decide) ?_
    refine lv_irem C.1.1 C.1.2.1 dX5_hearFixed_36 (by decide) ?_
    refine lv_if_ne (tgt := 50) C.1.1 C.1.2.1 dX5_hearFixed_37 (by decide) (fun c4 => ?_) (fun c4 => ?_)
    · replace hD := g_neg c4 hD
      refine lv_iload_n C.1.1 C.1.2.1 dX5_hearFixed_50 rfl (lv_at hl 3 rfl) ?_
      refine lv_iload_n C.1.1 C.1.2.1 dX5_hearFixed_51 rfl (lv_at hl 3 rfl) ?_
      refine lv_iconst (v := 5) C.1.1 C.1.2.1 dX5_hearFixed_52 (by decide) ?_
      refine lv_idiv C.1.1 C.1.2.1 dX5_hearFixed_53 (by decide) ?_
      refine lv_isub C.1.1 C.1.2.1 dX5_hearFixed_54 ?_
      refine lv_iconst (v := 1) C.1.1 C.1.2.1 dX5_hearFixed_55 (by decide) ?_
      refine lv_isub C.1.1 C.1.2.1 dX5_hearFixed_56 ?_
      obtain ⟨x6, ex6, hD⟩ := g_let hD
      refine W.eq (g2 := F0 m 57 ls (.int x6 :: [])) (by rw [ex6]) ?_
      refine lv_istore (lv' := [(4, .int x6), (3, .int s0), (0, .ref (ad k)), (1, .int a1), (2, .int v2)]) C.1.1 C.1.2.1 dX5_hearFixed_57 hl (by decide) rfl (fun ls hl => ?_)
      refine lv_iload C.1.1 C.1.2.1 dX5_hearFixed_59 (lv_at hl 0 rfl) ?_
      refine lv_iconst (v := 4) C.1.1 C.1.2.1 dX5_hearFixed_61 (by decide) ?_
      refine lv_icmp_ge (tgt := 132) C.1.1 C.1.2.1 dX5_hearFixed_62 (by decide) (fun c7 => ?_) (fun c7 => ?_)
      · replace hD := g_pos c7 hD
        refine lv_aload_n C.1.1 C.1.2.1 dX5_hearFixed_132 rfl (lv_at hl 2 rfl) ?_
        refine lv_aload_n C.1.1 C.1.2.1 dX5_hearFixed_133 rfl (lv_at hl 2 rfl) ?_
        refine mr_getI C hw kc_5 18 (Ea_N0 hk0) (Ea_T0 hk0) wd_127 dX5_hearFixed_134 (by decide) rfl ?_
        refine lv_iconst (v := 1) C.1.1 C.1.2.1 dX5_hearFixed_137 (by decide) ?_
        refine lv_ishl C.1.1 C.1.2.1 dX5_hearFixed_138 ?_
        refine lv_iload_n C.1.1 C.1.2.1 dX5_hearFixed_139 rfl (lv_at hl 3 rfl) ?_
        refine lv_ior C.1.1 C.1.2.1 dX5_hearFixed_140 ?_
        obtain ⟨M8, eM8, hD⟩ := g_let hD
        refine mr_putI C hw kc_5 18 (Ea_N0 hk0) (Ea_T0 hk0) wd_127 dX5_hearFixed_141 (by decide) rfl rfl rfl rfl (fun H locs hw => ?_)
        replace hw : mw_W G ad NF TF FF M8 L H locs := by rw [eM8]; exact hw
        refine lv_iload C.1.1 C.1.2.1 dX5_hearFixed_144 (lv_at hl 0 rfl) ?_
        refine lv_iconst (v := 3) C.1.1 C.1.2.1 dX5_hearFixed_146 (by decide) ?_
        refine lv_aload_n C.1.1 C.1.2.1 dX5_hearFixed_147 rfl (lv_at hl 2 rfl) ?_
        refine mr_getI C hw kc_5 16 (Ea_N0 hk0) (Ea_T0 hk0) wd_124 dX5_hearFixed_148 (by decide) rfl ?_
        refine lv_bipush (v := 16) C.1.1 C.1.2.1 dX5_hearFixed_151 (by decide) ?_
        refine lv_icmp_gt (tgt := 161) C.1.1 C.1.2.1 dX5_hearFixed_153 (by decide) (fun c9 => ?_) (fun c9 => ?_)
        · replace hD := g_pos c9 hD
          refine lv_bipush (v := 21) C.1.1 C.1.2.1 dX5_hearFixed_161 (by decide) ?_
          exact hb163 x6 3 21 M8 L _ _ ls hD hw (lv_sub hl [2] rfl)
        · replace hD := g_neg c9 hD
          refine lv_bipush (v := 17) C.1.1 C.1.2.1 dX5_hearFixed_156 (by decide) ?_
          refine lv_goto (tgt := 163) C.1.1 C.1.2.1 dX5_hearFixed_158 (by decide) ?_
          exact hb163 x6 3 17 M8 L _ _ ls hD hw (lv_sub hl [2] rfl)
      · replace hD := g_neg c7 hD
        refine lv_aload_n C.1.1 C.1.2.1 dX5_hearFixed_65 rfl (lv_at hl 2 rfl) ?_
        refine lv_aload_n C.1.1 C.1.2.1 dX5_hearFixed_66 rfl (lv_at hl 2 rfl) ?_
        refine mr_getI C hw kc_5 19 (Ea_N0 hk0) (Ea_T0 hk0) wd_128 dX5_hearFixed_67 (by decide) rfl ?_
        refine lv_iconst (v := 1) C.1.1 C.1.2.1 dX5_hearFixed_70 (by decide) ?_
        refine lv_ishl C.1.1 C.1.2.1 dX5_hearFixed_71 ?_
        refine lv_iload_n C.1.1 C.1.2.1 dX5_hearFixed_72 rfl (lv_at hl 3 rfl) ?_
        refine lv_ior C.1.1 C.1.2.1 dX5_hearFixed_73 ?_
        obtain ⟨M10, eM10, hD⟩ := g_let hD
        refine mr_putI C hw kc_5 19 (Ea_N0 hk0) (Ea_T0 hk0) wd_128 dX5_hearFixed_74 (by decide) rfl rfl rfl rfl (fun H locs hw => ?_)
        replace hw : mw_W G ad NF TF FF M10 L H locs := by rw [eM10]; exact hw
        refine lv_aload_n C.1.1 C.1.2.1 dX5_hearFixed_77 rfl (lv_at hl 2 rfl) ?_
        refine lv_aload_n C.1.1 C.1.2.1 dX5_hearFixed_78 rfl (lv_at hl 2 rfl) ?_
        refine mr_getI C hw kc_5 8 (Ea_N0 hk0) (Ea_T0 hk0) wd_115 dX5_hearFixed_79 (by decide) rfl ?_
        refine lv_iload_n C.1.1 C.1.2.1 dX5_hearFixed_82 rfl (lv_at hl 3 rfl) ?_
        refine lv_bipush (v := 17) C.1.1 C.1.2.1 dX5_hearFixed_83 (by decide) ?_
        refine lv_ldc (v := 92251) C.1.1 C.1.2.1 C.1.2.2.2.1 (C.1.2.2.2.2 _ wd_1387) dX5_hearFixed_85 ?_
        obtain ⟨r13, M11, L12, h1, hD⟩ := g_b3 hD
        refine md_csI (As := [.int (M10 k 8), .int a1, .int 17, .int 92251]) (rest := [.ref (ad k)]) C hw (tX5_nextCheck l G ad fu (M10 k 8) a1 17 92251 M10 L h1) wd_1385 cwX5_nextCheck ⟨Nat.le_of_ble_eq_true rfl, Nat.le_of_ble_eq_true rfl⟩ rfl hl.1 (Nat.le_of_ble_eq_true rfl) dX5_hearFixed_87 rfl rfl ⟨Nat.zero_le _, Nat.zero_le _⟩ rfl (fun H locs hw => ?_)
        obtain ⟨M14, eM14, hD⟩ := g_let hD
        refine mr_putI C hw kc_5 8 (Ea_N0 hk0) (Ea_T0 hk0) wd_115 dX5_hearFixed_90 (by decide) rfl rfl rfl rfl (fun H locs hw => ?_)
        replace hw : mw_W G ad NF TF FF M14 L12 H locs := by rw [eM14]; exact hw
        refine lv_aload_n C.1.1 C.1.2.1 dX5_hearFixed_93 rfl (lv_at hl 2 rfl) ?_
        refine lv_aload_n C.1.1 C.1.2.1 dX5_hearFixed_94 rfl (lv_at hl 2 rfl) ?_
        refine mr_getI C hw kc_5 9 (Ea_N0 hk0) (Ea_T0 hk0) wd_116 dX5_hearFixed_95 (by decide) rfl ?_
        refine lv_iload_n C.1.1 C.1.2.1 dX5_hearFixed_98 rfl (lv_at hl 3 rfl) ?_
        refine lv_bipush (v := 21) C.1.1 C.1.2.1 dX5_hearFixed_99 (by decide) ?_
        refine lv_ldc (v := 1058969) C.1.1 C.1.2.1 C.1.2.2.2.1 (C.1.2.2.2.2 _ wd_1389) dX5_hearFixed_101 ?_
        obtain ⟨r17, M15, L16, h1, hD⟩ := g_b3 hD
        refine md_csI (As := [.int (M14 k 9), .int a1, .int 21, .int 1058969]) (rest := [.ref (ad k)]) C hw (tX5_nextCheck l G ad fu (M14 k 9) a1 21 1058969 M14 L12 h1) wd_1385 cwX5_nextCheck ⟨Nat.le_of_ble_eq_true rfl, Nat.le_of_ble_eq_true rfl⟩ rfl hl.1 (Nat.le_of_ble_eq_true rfl) dX5_hearFixed_103 rfl rfl ⟨Nat.zero_le _, Nat.zero_le _⟩ rfl (fun H locs hw => ?_)
        obtain ⟨M18, eM18, hD⟩ := g_let hD
        refine mr_putI C hw kc_5 9 (Ea_N0 hk0) (Ea_T0 hk0) wd_116 dX5_hearFixed_106 (by decide) rfl rfl rfl rfl (fun H locs hw => ?_)
        replace hw : mw_W G ad NF TF FF M18 L16 H locs := by rw [eM18]; exact hw
        refine lv_iload C.1.1 C.1.2.1 dX5_hearFixed_109 (lv_at hl 0 rfl) ?_
        refine lv_iconst (v := 3) C.1.1 C.1.2.1 dX5_hearFixed_111 (by decide) ?_
        refine lv_icmp_ne (tgt := 130) C.1.1 C.1.2.1 dX5_hearFixed_112 (by decide) (fun c19 => ?_) (fun c19 => ?_)
        · replace hD := g_neg c19 hD
          exact hb130 M18 L16 _ _ ls hD hw (lv_sub hl [] rfl)
        · replace hD := g_pos c19 hD
          refine lv_aload_n C.1.1 C.1.2.1 dX5_hearFixed_115 rfl (lv_at hl 2 rfl) ?_
          refine mr_getI C hw kc_5 19 (Ea_N0 hk0) (Ea_T0 hk0) wd_128 dX5_hearFixed_116 (by decide) rfl ?_
          refine lv_aload_n C.1.1 C.1.2.1 dX5_hearFixed_119 rfl (lv_at hl 2 rfl) ?_
          obtain ⟨r22, M20, L21, h1, hD⟩ := g_b3 hD
          refine md_cvI (As := []) (rest := [.int (M18 k 19)]) C hw (tX5_countOfStuffs l G ad fu k M18 L16 h1 hk0) kc_5 (Ea_N0 hk0) (Ea_T0 hk0) wd_1407 cwX5_countOfStuffs ⟨Nat.le_of_ble_eq_true rfl, Nat.le_of_ble_eq_true rfl⟩ rfl hl.1 (Nat.le_of_ble_eq_true rfl) dX5_hearFixed_120 rfl rfl ⟨Nat.zero_le _, Nat.zero_le _⟩ rfl (fun H locs hw => ?_)
          refine lv_icmp_eq (tgt := 130) C.1.1 C.1.2.1 dX5_hearFixed_123 (by decide) (fun c23 => ?_) (fun c23 => ?_)
          · replace hD := g_pos c23 hD
            exact hb130 M20 L21 _ _ ls hD hw (lv_sub hl [] rfl)
          · replace hD := g_neg c23 hD
            refine lv_iconst (v := 1) C.1.1 C.1.2.1 dX5_hearFixed_126 (by decide) ?_
            refine lv_goto (tgt := 131) C.1.1 C.1.2.1 dX5_hearFixed_127 (by decide) ?_
            exact hb131 1 M20 L21 _ _ ls hD hw (lv_sub hl [] rfl)
    · replace hD := g_pos c4 hD
      refine lv_iload_n C.1.1 C.1.2.1 dX5_hearFixed_40 rfl (lv_at hl 0 rfl) ?_
      refine lv_if_eq (tgt := 48) C.1.1 C.1.2.1 dX5_hearFixed_41 (by decide) (fun c24 => ?_) (fun c24 => ?_)
      · replace hD := g_pos c24 hD
        refine lv_iconst (v := (-1)) C.1.1 C.1.2.1 dX5_hearFixed_48 (by decide) ?_
        exact hb49 ((-1)) M2 L _ _ ls hD hw (lv_sub hl [] rfl)
      · replace hD := g_neg c24 hD
        refine lv_iconst (v := 1) C.1.1 C.1.2.1 dX5_hearFixed_44 (by decide) ?_
        refine lv_goto (tgt := 49) C.1.1 C.1.2.1 dX5_hearFixed_45 (by decide) ?_
        exact hb49 1 M2 L _ _ ls hD hw (lv_sub hl [] rfl)
  unfold DX5_hearFixed at hD
  refine lv_aload_n C.1.1 C.1.2.1 dX5_hearFixed_0 rfl (lv_at hl 0 rfl) ?_
  refine mr_getI C hw kc_5 6 (Ea_N0 hk0) (Ea_T0 hk0) wd_113 dX5_hearFixed_1 (by decide) rfl ?_
  obtain ⟨x28, ex28, hD⟩ := g_let hD
  refine W.eq (g2 := F0 m 4 ls (.int x28 :: [])) (by rw [ex28]) ?_
  refine lv_istore_n (lv' := [(2, .int x28), (0, .ref (ad k)), (1, .int a1)]) C.1.1 C.1.2.1 dX5_hearFixed_4 rfl hl (by decide) rfl (fun ls hl => ?_)
  refine lv_iload_n C.1.1 C.1.2.1 dX5_hearFixed_5 rfl (lv_at hl 2 rfl) ?_
  refine lv_aload_n C.1.1 C.1.2.1 dX5_hearFixed_6 rfl (lv_at hl 1 rfl) ?_
  refine mr_getI C hw kc_5 2 (Ea_N0 hk0) (Ea_T0 hk0) wd_109 dX5_hearFixed_7 (by decide) rfl ?_
  refine lv_icmp_ne (tgt := 17) C.1.1 C.1.2.1 dX5_hearFixed_10 (by decide) (fun c29 => ?_) (fun c29 => ?_)
  · replace hD := g_neg c29 hD
    refine lv_iconst (v := 0) C.1.1 C.1.2.1 dX5_hearFixed_17 (by decide) ?_
    exact hb18 x28 0 M L _ _ ls hD hw (lv_sub hl [1, 2, 0] rfl)
  · replace hD := g_pos c29 hD
    refine lv_iconst (v := 1) C.1.1 C.1.2.1 dX5_hearFixed_13 (by decide) ?_
    refine lv_goto (tgt := 18) C.1.1 C.1.2.1 dX5_hearFixed_14 (by decide) ?_
    exact hb18 x28 1 M L _ _ ls hD hw (lv_sub hl [1, 2, 0] rfl)

theorem dX5_hearTail_0 : decode cX5_hearTail 0 = .ok (.aload_n 0, 1) := by decide +kernel
theorem dX5_hearTail_1 : decode cX5_hearTail 1 = .ok (.getfield 29, 3) := by decide +kernel
theorem dX5_hearTail_4 : decode cX5_hearTail 4 = .ok (.istore_n 2, 1) := by decide +kernel
theorem dX5_hearTail_5 : decode cX5_hearTail 5 = .ok (.aload_n 0, 1) := by decide +kernel
theorem dX5_hearTail_6 : decode cX5_hearTail 6 = .ok (.dup, 1) := by decide +kernel
theorem dX5_hearTail_7 : decode cX5_hearTail 7 = .ok (.getfield 29, 3) := by decide +kernel
theorem dX5_hearTail_10 : decode cX5_hearTail 10 = .ok (.iconst 1, 1) := by decide +kernel
theorem dX5_hearTail_11 : decode cX5_hearTail 11 = .ok (.iadd, 1) := by decide +kernel
theorem dX5_hearTail_12 : decode cX5_hearTail 12 = .ok (.putfield 29, 3) := by decide +kernel
theorem dX5_hearTail_15 : decode cX5_hearTail 15 = .ok (.iload_n 2, 1) := by decide +kernel
theorem dX5_hearTail_16 : decode cX5_hearTail 16 = .ok (.iconst 1, 1) := by decide +kernel
theorem dX5_hearTail_17 : decode cX5_hearTail 17 = .ok (.if_icmp .ne 5, 3) := by decide +kernel
theorem dX5_hearTail_20 : decode cX5_hearTail 20 = .ok (.iconst (-1), 1) := by decide +kernel
theorem dX5_hearTail_21 : decode cX5_hearTail 21 = .ok (.ireturn, 1) := by decide +kernel
theorem dX5_hearTail_22 : decode cX5_hearTail 22 = .ok (.iload_n 1, 1) := by decide +kernel
theorem dX5_hearTail_23 : decode cX5_hearTail 23 = .ok (.ifCond .ne 15, 3) := by decide +kernel
theorem dX5_hearTail_26 : decode cX5_hearTail 26 = .ok (.iload_n 2, 1) := by decide +kernel
theorem dX5_hearTail_27 : decode cX5_hearTail 27 = .ok (.bipush 9, 2) := by decide +kernel
theorem dX5_hearTail_29 : decode cX5_hearTail 29 = .ok (.if_icmp .ne 7, 3) := by decide +kernel
theorem dX5_hearTail_32 : decode cX5_hearTail 32 = .ok (.iconst 5, 1) := by decide +kernel
theorem dX5_hearTail_33 : decode cX5_hearTail 33 = .ok (.goto 4, 3) := by decide +kernel
theorem dX5_hearTail_36 : decode cX5_hearTail 36 = .ok (.iconst 2, 1) := by decide +kernel
theorem dX5_hearTail_37 : decode cX5_hearTail 37 = .ok (.ireturn, 1) := by decide +kernel
theorem dX5_hearTail_38 : decode cX5_hearTail 38 = .ok (.iload_n 2, 1) := by decide +kernel
theorem dX5_hearTail_39 : decode cX5_hearTail 39 = .ok (.iconst 2, 1) := by decide +kernel
theorem dX5_hearTail_40 : decode cX5_hearTail 40 = .ok (.if_icmp .ne 12, 3) := by decide +kernel
theorem dX5_hearTail_43 : decode cX5_hearTail 43 = .ok (.aload_n 0, 1) := by decide +kernel
theorem dX5_hearTail_44 : decode cX5_hearTail 44 = .ok (.invokevirtual 80, 3) := by decide +kernel
theorem dX5_hearTail_47 : decode cX5_hearTail 47 = .ok (.ifCond .ne 5, 3) := by decide +kernel
theorem dX5_hearTail_50 : decode cX5_hearTail 50 = .ok (.iconst 3, 1) := by decide +kernel
theorem dX5_hearTail_51 : decode cX5_hearTail 51 = .ok (.ireturn, 1) := by decide +kernel
theorem dX5_hearTail_52 : decode cX5_hearTail 52 = .ok (.iload_n 2, 1) := by decide +kernel
theorem dX5_hearTail_53 : decode cX5_hearTail 53 = .ok (.bipush 8, 2) := by decide +kernel
theorem dX5_hearTail_55 : decode cX5_hearTail 55 = .ok (.if_icmp .ne 8, 3) := by decide +kernel
theorem dX5_hearTail_58 : decode cX5_hearTail 58 = .ok (.bipush (-2), 2) := by decide +kernel
theorem dX5_hearTail_60 : decode cX5_hearTail 60 = .ok (.goto 15, 3) := by decide +kernel
theorem dX5_hearTail_63 : decode cX5_hearTail 63 = .ok (.iload_n 2, 1) := by decide +kernel
theorem dX5_hearTail_64 : decode cX5_hearTail 64 = .ok (.bipush 9, 2) := by decide +kernel
theorem dX5_hearTail_66 : decode cX5_hearTail 66 = .ok (.if_icmp .lt 8, 3) := by decide +kernel
theorem dX5_hearTail_69 : decode cX5_hearTail 69 = .ok (.bipush (-3), 2) := by decide +kernel
theorem dX5_hearTail_71 : decode cX5_hearTail 71 = .ok (.goto 4, 3) := by decide +kernel
theorem dX5_hearTail_74 : decode cX5_hearTail 74 = .ok (.iconst (-1), 1) := by decide +kernel
theorem dX5_hearTail_75 : decode cX5_hearTail 75 = .ok (.ireturn, 1) := by decide +kernel
theorem cwX5_hearTail : mw_cwV yX5_hearTail cX5_hearTail 3 ((some .int)) 1 := ⟨⟨wd_6, wd_1420, by decide +kernel⟩, wd_1419, sl_82⟩
set_option maxHeartbeats 4000000 in
set_option maxRecDepth 100000 in
theorem tX5_hearTail (l : Launch) (G : mwG) (ad : Nat → Nat) (fu : Nat) (k : Nat) (a1 : Int32) (M : mwM) (L : mwL) {r0 : Int32} {M0 : mwM} {L0 : mwL} (hD : DX5_hearTail fu k a1 M L = some (r0, M0, L0)) (hk0 : isEa k) : Met l yX5_hearTail (Cond.code yX5_hearTail cX5_hearTail 3 ((some .int)) :: GT) ({ frames := 1, cells := 0, slots := 0, locals := 20 }) (mw_Pre G ad NF TF FF M L [.ref (ad k), .int a1]) (mw_Qi G ad NF TF FF (mw_eqI r0 M0 L0)) 0 0 (mw_fr G) := by
  refine mw_enter (by decide) (Nat.le_of_ble_eq_true rfl) ?_
  intro p e s m below meth c ls C hr hlocks hnm hw hl
  have hl : lv_has ls 3 [(0, .ref (ad k)), (1, .int a1)] := hl
  have hb37 : ∀ (s0 : Int32) (M : mwM) (L : mwL) (H : Heap) (locs : List Loc) (ls : Array Slot), fX5_hearTail_b37 fu k a1 s0 M L = some (r0, M0, L0) → mw_W G ad NF TF FF M L H locs → lv_has ls 3 [] → W p l e ({ frames := 1, cells := 0, slots := 0, locals := 20 }) s m [.ref (ad k), .int a1].toArray below meth c H locs 0 0 (MQ below (mw_Qi G ad NF TF FF (mw_eqI r0 M0 L0)) [.ref (ad k), .int a1].toArray s 0 0 (mw_fr G)) (F0 m 37 ls [.int s0]) := by
    intro s0 M L H locs ls hD hw hl
    unfold fX5_hearTail_b37 at hD
    exact mr_iret C hr hlocks hw rfl (Option.some.inj hD) dX5_hearTail_37
  have hb75 : ∀ (s0 : Int32) (M : mwM) (L : mwL) (H : Heap) (locs : List Loc) (ls : Array Slot), fX5_hearTail_b75 fu k a1 s0 M L = some (r0, M0, L0) → mw_W G ad NF TF FF M L H locs → lv_has ls 3 [] → W p l e ({ frames := 1, cells := 0, slots := 0, locals := 20 }) s m [.ref (ad k), .int a1].toArray below meth c H locs 0 0 (MQ below (mw_Qi G ad NF TF FF (mw_eqI r0 M0 L0)) [.ref (ad k), .int a1].toArray s 0 0 (mw_fr G)) (F0 m 75 ls [.int s0]) := by
    intro s0 M L H locs ls hD hw hl
    unfold fX5_hearTail_b75 at hD
    exact mr_iret C hr hlocks hw rfl (Option.some.inj hD) dX5_hearTail_75
  have hb52 : ∀ (v2 : Int32) (M : mwM) (L : mwL) (H : Heap) (locs : List Loc) (ls : Array Slot), fX5_hearTail_b52 fu k a1 v2 M L = some (r0, M0, L0) → mw_W G ad NF TF FF M L H locs → lv_has ls 3 [(2, .int v2)] → W p l e ({ frames := 1, cells := 0, slots := 0, locals := 20 }) s m [.ref (ad k), .int a1].toArray below meth c H locs 0 0 (MQ below (mw_Qi G ad NF TF FF (mw_eqI r0 M0 L0)) [.ref (ad k), .int a1].toArray s 0 0 (mw_fr G)) (F0 m 52 ls []) := by
    intro v2 M L H locs ls hD hw hl
    unfold fX5_hearTail_b52 at hD
    refine lv_iload_n C.1.1 C.1.2.1 dX5_hearTail_52 rfl (lv_at hl 0 rfl) ?_
    refine lv_bipush (v := 8) C.1.1 C.1.2.1 dX5_hearTail_53 (by decide) ?_
    refine lv_icmp_ne (tgt := 63) C.1.1 C.1.2.1 dX5_hearTail_55 (by decide) (fun c1 => ?_) (fun c1 => ?_)
    · replace hD := g_neg c1 hD
      refine lv_iload_n C.1.1 C.1.2.1 dX5_hearTail_63 rfl (lv_at hl 0 rfl) ?_
      refine lv_bipush (v := 9) C.1.1 C.1.2.1 dX5_hearTail_64 (by decide) ?_
      refine lv_icmp_lt (tgt := 74) C.1.1 C.1.2.1 dX5_hearTail_66 (by decide) (fun c2 => ?_) (fun c2 => ?_)
      · replace hD := g_pos c2 hD
        refine lv_iconst (v := (-1)) C.1.1 C.1.2.1 dX5_hearTail_74 (by decide) ?_
        exact hb75 ((-1)) M L _ _ ls hD hw (lv_sub hl [] rfl)
      · replace hD := g_neg c2 hD
        refine lv_bipush (v := (-3)) C.1.1 C.1.2.1 dX5_hearTail_69 (by decide) ?_
        refine lv_goto (tgt := 75) C.1.1 C.1.2.1 dX5_hearTail_71 (by decide) ?_
        exact hb75 ((-3)) M L _ _ ls hD hw (lv_sub hl [] rfl)
    · replace hD := g_pos c1 hD
      refine lv_bipush (v := (-2)) C.1.1 C.1.2.1 dX5_hearTail_58 (by decide) ?_
      refine lv_goto (tgt := 75) C.1.1 C.1.2.1 dX5_hearTail_60 (by decide) ?_
      exact hb75 ((-2)) M L _ _ ls hD hw (lv_sub hl [] rfl)
  unfold DX5_hearTail at hD
  refine lv_aload_n C.1.1 C.1.2.1 dX5_hearTail_0 rfl (lv_at hl 0 rfl) ?_
  refine mr_getI C hw kc_5 6 (Ea_N0 hk0) (Ea_T0 hk0) wd_113 dX5_hearTail_1 (by decide) rfl ?_
  obtain ⟨x3, ex3, hD⟩ := g_let hD
  refine W.eq (g2 := F0 m 4 ls (.int x3 :: [])) (by rw [ex3]) ?_
  refine lv_istore_n (lv' := [(2, .int x3), (0, .ref (ad k)), (1, .int a1)]) C.1.1 C.1.2.1 dX5_hearTail_4 rfl hl (by decide) rfl (fun ls hl => ?_)
  refine lv_aload_n C.1.1 C.1.2.1 dX5_hearTail_5 rfl (lv_at hl 1 rfl) ?_
  refine lv_dup C.1.1 C.1.2.1 dX5_hearTail_6 rfl ?_
  refine mr_getI C hw kc_5 6 (Ea_N0 hk0) (Ea_T0 hk0) wd_113 dX5_hearTail_7 (by decide) rfl ?_
  refine lv_iconst (v := 1) C.1.1 C.1.2.1 dX5_hearTail_10 (by decide) ?_
  refine lv_iadd C.1.1 C.1.2.1 dX5_hearTail_11 ?_
  obtain ⟨M4, eM4, hD⟩ := g_let hD
  refine mr_putI C hw kc_5 6 (Ea_N0 hk0) (Ea_T0 hk0) wd_113 dX5_hearTail_12 (by decide) rfl rfl rfl rfl (fun H locs hw => ?_)
  replace hw : mw_W G ad NF TF FF M4 L H locs := by rw [eM4]; exact hw
  refine lv_iload_n C.1.1 C.1.2.1 dX5_hearTail_15 rfl (lv_at hl 0 rfl) ?_
  refine lv_iconst (v := 1) C.1.1 C.1.2.1 dX5_hearTail_16 (by decide) ?_
  refine lv_icmp_ne (tgt := 22) C.1.1 C.1.2.1 dX5_hearTail_17 (by decide) (fun c5 => ?_) (fun c5 => ?_)
  · replace hD := g_neg c5 hD
    refine lv_iload_n C.1.1 C.1.2.1 dX5_hearTail_22 rfl (lv_at hl 2 rfl) ?_
    refine lv_if_ne (tgt := 38) C.1.1 C.1.2.1 dX5_hearTail_23 (by decide) (fun c6 => ?_) (fun c6 => ?_)
    · replace hD := g_neg c6 hD
      refine lv_iload_n C.1.1 C.1.2.1 dX5_hearTail_38 rfl (lv_at hl 0 rfl) ?_
      refine lv_iconst (v := 2) C.1.1 C.1.2.1 dX5_hearTail_39 (by decide) ?_
      refine lv_icmp_ne (tgt := 52) C.1.1 C.1.2.1 dX5_hearTail_40 (by decide) (fun c7 => ?_) (fun c7 => ?_)
      · replace hD := g_neg c7 hD
        exact hb52 x3 M4 L _ _ ls hD hw (lv_sub hl [0] rfl)
      · replace hD := g_pos c7 hD
        refine lv_aload_n C.1.1 C.1.2.1 dX5_hearTail_43 rfl (lv_at hl 1 rfl) ?_
        obtain ⟨r10, M8, L9, h1, hD⟩ := g_b3 hD
        refine md_cvI (As := []) (rest := []) C hw (tX5_isCheckRight l G ad fu k M4 L h1 hk0) kc_5 (Ea_N0 hk0) (Ea_T0 hk0) wd_1369 cwX5_isCheckRight ⟨Nat.le_of_ble_eq_true rfl, Nat.le_of_ble_eq_true rfl⟩ rfl hl.1 (Nat.le_of_ble_eq_true rfl) dX5_hearTail_44 rfl rfl ⟨Nat.zero_le _, Nat.zero_le _⟩ rfl (fun H locs hw => ?_)
        refine lv_if_ne (tgt := 52) C.1.1 C.1.2.1 dX5_hearTail_47 (by decide) (fun c11 => ?_) (fun c11 => ?_)
        · replace hD := g_neg c11 hD
          exact hb52 x3 M8 L9 _ _ ls hD hw (lv_sub hl [0] rfl)
        · replace hD := g_pos c11 hD
          refine lv_iconst (v := 3) C.1.1 C.1.2.1 dX5_hearTail_50 (by decide) ?_
          exact mr_iret C hr hlocks hw rfl (Option.some.inj hD) dX5_hearTail_51
    · replace hD := g_pos c6 hD
      refine lv_iload_n C.1.1 C.1.2.1 dX5_hearTail_26 rfl (lv_at hl 0 rfl) ?_
      refine lv_bipush (v := 9) C.1.1 C.1.2.1 dX5_hearTail_27 (by decide) ?_
      refine lv_icmp_ne (tgt := 36) C.1.1 C.1.2.1 dX5_hearTail_29 (by decide) (fun c12 => ?_) (fun c12 => ?_)
      · replace hD := g_neg c12 hD
        refine lv_iconst (v := 2) C.1.1 C.1.2.1 dX5_hearTail_36 (by decide) ?_
        exact hb37 2 M4 L _ _ ls hD hw (lv_sub hl [] rfl)
      · replace hD := g_pos c12 hD
        refine lv_iconst (v := 5) C.1.1 C.1.2.1 dX5_hearTail_32 (by decide) ?_
        refine lv_goto (tgt := 37) C.1.1 C.1.2.1 dX5_hearTail_33 (by decide) ?_
        exact hb37 5 M4 L _ _ ls hD hw (lv_sub hl [] rfl)
  · replace hD := g_pos c5 hD
    refine lv_iconst (v := (-1)) C.1.1 C.1.2.1 dX5_hearTail_20 (by decide) ?_
    exact mr_iret C hr hlocks hw rfl (Option.some.inj hD) dX5_hearTail_21

theorem dX5_stuffedEnd_0 : decode cX5_stuffedEnd 0 = .ok (.aload_n 0, 1) := by decide +kernel
theorem dX5_stuffedEnd_1 : decode cX5_stuffedEnd 1 = .ok (.getfield 58, 3) := by decide +kernel
theorem dX5_stuffedEnd_4 : decode cX5_stuffedEnd 4 = .ok (.iconst 1, 1) := by decide +kernel
theorem dX5_stuffedEnd_5 : decode cX5_stuffedEnd 5 = .ok (.if_icmp .ne 10, 3) := by decide +kernel
theorem dX5_stuffedEnd_8 : decode cX5_stuffedEnd 8 = .ok (.aload_n 0, 1) := by decide +kernel
theorem dX5_stuffedEnd_9 : decode cX5_stuffedEnd 9 = .ok (.getfield 71, 3) := by decide +kernel
theorem dX5_stuffedEnd_12 : decode cX5_stuffedEnd 12 = .ok (.goto 10, 3) := by decide +kernel
theorem dX5_stuffedEnd_15 : decode cX5_stuffedEnd 15 = .ok (.aload_n 0, 1) := by decide +kernel
theorem dX5_stuffedEnd_16 : decode cX5_stuffedEnd 16 = .ok (.getfield 71, 3) := by decide +kernel
theorem dX5_stuffedEnd_19 : decode cX5_stuffedEnd 19 = .ok (.bipush 15, 2) := by decide +kernel
theorem dX5_stuffedEnd_21 : decode cX5_stuffedEnd 21 = .ok (.iadd, 1) := by decide +kernel
theorem dX5_stuffedEnd_22 : decode cX5_stuffedEnd 22 = .ok (.ireturn, 1) := by decide +kernel
theorem cwX5_stuffedEnd : mw_cwV yX5_stuffedEnd cX5_stuffedEnd 1 ((some .int)) 0 := ⟨⟨wd_6, wd_1428, by decide +kernel⟩, wd_1427, sl_84⟩
set_option maxHeartbeats 4000000 in
set_option maxRecDepth 100000 in
theorem tX5_stuffedEnd (l : Launch) (G : mwG) (ad : Nat → Nat) (fu : Nat) (k : Nat) (M : mwM) (L : mwL) {r0 : Int32} {M0 : mwM} {L0 : mwL} (hD : DX5_stuffedEnd fu k M L = some (r0, M0, L0)) (hk0 : isEa k) : Met l yX5_stuffedEnd (Cond.code yX5_stuffedEnd cX5_stuffedEnd 1 ((some .int)) :: GT) ({ frames := 0, cells := 0, slots := 0, locals := 0 }) (mw_Pre G ad NF TF FF M L [.ref (ad k)]) (mw_Qi G ad NF TF FF (mw_eqI r0 M0 L0)) 0 0 (mw_fr G) := by
  refine mw_enter (by decide) (Nat.le_of_ble_eq_true rfl) ?_
  intro p e s m below meth c ls C hr hlocks hnm hw hl
  have hl : lv_has ls 1 [(0, .ref (ad k))] := hl
  have hb22 : ∀ (s0 : Int32) (M : mwM) (L : mwL) (H : Heap) (locs : List Loc) (ls : Array Slot), fX5_stuffedEnd_b22 fu k s0 M L = some (r0, M0, L0) → mw_W G ad NF TF FF M L H locs → lv_has ls 1 [] → W p l e ({ frames := 0, cells := 0, slots := 0, locals := 0 }) s m [.ref (ad k)].toArray below meth c H locs 0 0 (MQ below (mw_Qi G ad NF TF FF (mw_eqI r0 M0 L0)) [.ref (ad k)].toArray s 0 0 (mw_fr G)) (F0 m 22 ls [.int s0]) := by
    intro s0 M L H locs ls hD hw hl
    unfold fX5_stuffedEnd_b22 at hD
    exact mr_iret C hr hlocks hw rfl (Option.some.inj hD) dX5_stuffedEnd_22
  unfold DX5_stuffedEnd at hD
  refine lv_aload_n C.1.1 C.1.2.1 dX5_stuffedEnd_0 rfl (lv_at hl 0 rfl) ?_
  refine mr_getI C hw kc_5 13 (Ea_N0 hk0) (Ea_T0 hk0) wd_121 dX5_stuffedEnd_1 (by decide) rfl ?_
  refine lv_iconst (v := 1) C.1.1 C.1.2.1 dX5_stuffedEnd_4 (by decide) ?_
  refine lv_icmp_ne (tgt := 15) C.1.1 C.1.2.1 dX5_stuffedEnd_5 (by decide) (fun c1 => ?_) (fun c1 => ?_)
  · replace hD := g_neg c1 hD
    refine lv_aload_n C.1.1 C.1.2.1 dX5_stuffedEnd_15 rfl (lv_at hl 0 rfl) ?_
    refine mr_getI C hw kc_5 17 (Ea_N0 hk0) (Ea_T0 hk0) wd_126 dX5_stuffedEnd_16 (by decide) rfl ?_
    refine lv_bipush (v := 15) C.1.1 C.1.2.1 dX5_stuffedEnd_19 (by decide) ?_
    refine lv_iadd C.1.1 C.1.2.1 dX5_stuffedEnd_21 ?_
    exact hb22 ((M k 17) + 15) M L _ _ ls hD hw (lv_sub hl [] rfl)
  · replace hD := g_pos c1 hD
    refine lv_aload_n C.1.1 C.1.2.1 dX5_stuffedEnd_8 rfl (lv_at hl 0 rfl) ?_
    refine mr_getI C hw kc_5 17 (Ea_N0 hk0) (Ea_T0 hk0) wd_126 dX5_stuffedEnd_9 (by decide) rfl ?_
    refine lv_goto (tgt := 22) C.1.1 C.1.2.1 dX5_stuffedEnd_12 (by decide) ?_
    exact hb22 (M k 17) M L _ _ ls hD hw (lv_sub hl [] rfl)

theorem dX5_hearStuffBit_0 : decode cX5_hearStuffBit 0 = .ok (.iload_n 1, 1) := by decide +kernel
theorem dX5_hearStuffBit_1 : decode cX5_hearStuffBit 1 = .ok (.aload_n 0, 1) := by decide +kernel
theorem dX5_hearStuffBit_2 : decode cX5_hearStuffBit 2 = .ok (.getfield 17, 3) := by decide +kernel
theorem dX5_hearStuffBit_5 : decode cX5_hearStuffBit 5 = .ok (.if_icmp .ne 5, 3) := by decide +kernel
theorem dX5_hearStuffBit_8 : decode cX5_hearStuffBit 8 = .ok (.iconst 1, 1) := by decide +kernel
theorem dX5_hearStuffBit_9 : decode cX5_hearStuffBit 9 = .ok (.ireturn, 1) := by decide +kernel
theorem dX5_hearStuffBit_10 : decode cX5_hearStuffBit 10 = .ok (.aload_n 0, 1) := by decide +kernel
theorem dX5_hearStuffBit_11 : decode cX5_hearStuffBit 11 = .ok (.iload_n 1, 1) := by decide +kernel
theorem dX5_hearStuffBit_12 : decode cX5_hearStuffBit 12 = .ok (.putfield 17, 3) := by decide +kernel
theorem dX5_hearStuffBit_15 : decode cX5_hearStuffBit 15 = .ok (.aload_n 0, 1) := by decide +kernel
theorem dX5_hearStuffBit_16 : decode cX5_hearStuffBit 16 = .ok (.iconst 1, 1) := by decide +kernel
theorem dX5_hearStuffBit_17 : decode cX5_hearStuffBit 17 = .ok (.putfield 20, 3) := by decide +kernel
theorem dX5_hearStuffBit_20 : decode cX5_hearStuffBit 20 = .ok (.aload_n 0, 1) := by decide +kernel
theorem dX5_hearStuffBit_21 : decode cX5_hearStuffBit 21 = .ok (.dup, 1) := by decide +kernel
theorem dX5_hearStuffBit_22 : decode cX5_hearStuffBit 22 = .ok (.getfield 23, 3) := by decide +kernel
theorem dX5_hearStuffBit_25 : decode cX5_hearStuffBit 25 = .ok (.iconst 1, 1) := by decide +kernel
theorem dX5_hearStuffBit_26 : decode cX5_hearStuffBit 26 = .ok (.iadd, 1) := by decide +kernel
theorem dX5_hearStuffBit_27 : decode cX5_hearStuffBit 27 = .ok (.putfield 23, 3) := by decide +kernel
theorem dX5_hearStuffBit_30 : decode cX5_hearStuffBit 30 = .ok (.aload_n 0, 1) := by decide +kernel
theorem dX5_hearStuffBit_31 : decode cX5_hearStuffBit 31 = .ok (.aload_n 0, 1) := by decide +kernel
theorem dX5_hearStuffBit_32 : decode cX5_hearStuffBit 32 = .ok (.getfield 41, 3) := by decide +kernel
theorem dX5_hearStuffBit_35 : decode cX5_hearStuffBit 35 = .ok (.iload_n 1, 1) := by decide +kernel
theorem dX5_hearStuffBit_36 : decode cX5_hearStuffBit 36 = .ok (.bipush 17, 2) := by decide +kernel
theorem dX5_hearStuffBit_38 : decode cX5_hearStuffBit 38 = .ok (.ldc 40, 2) := by decide +kernel
theorem dX5_hearStuffBit_40 : decode cX5_hearStuffBit 40 = .ok (.invokestatic 32, 3) := by decide +kernel
theorem dX5_hearStuffBit_43 : decode cX5_hearStuffBit 43 = .ok (.putfield 41, 3) := by decide +kernel
theorem dX5_hearStuffBit_46 : decode cX5_hearStuffBit 46 = .ok (.aload_n 0, 1) := by decide +kernel
theorem dX5_hearStuffBit_47 : decode cX5_hearStuffBit 47 = .ok (.aload_n 0, 1) := by decide +kernel
theorem dX5_hearStuffBit_48 : decode cX5_hearStuffBit 48 = .ok (.getfield 46, 3) := by decide +kernel
theorem dX5_hearStuffBit_51 : decode cX5_hearStuffBit 51 = .ok (.iload_n 1, 1) := by decide +kernel
theorem dX5_hearStuffBit_52 : decode cX5_hearStuffBit 52 = .ok (.bipush 21, 2) := by decide +kernel
theorem dX5_hearStuffBit_54 : decode cX5_hearStuffBit 54 = .ok (.ldc 45, 2) := by decide +kernel
theorem dX5_hearStuffBit_56 : decode cX5_hearStuffBit 56 = .ok (.invokestatic 32, 3) := by decide +kernel
theorem dX5_hearStuffBit_59 : decode cX5_hearStuffBit 59 = .ok (.putfield 46, 3) := by decide +kernel
theorem dX5_hearStuffBit_62 : decode cX5_hearStuffBit 62 = .ok (.aload_n 0, 1) := by decide +kernel
theorem dX5_hearStuffBit_63 : decode cX5_hearStuffBit 63 = .ok (.getfield 26, 3) := by decide +kernel
theorem dX5_hearStuffBit_66 : decode cX5_hearStuffBit 66 = .ok (.aload_n 0, 1) := by decide +kernel
theorem dX5_hearStuffBit_67 : decode cX5_hearStuffBit 67 = .ok (.invokevirtual 98, 3) := by decide +kernel
theorem dX5_hearStuffBit_70 : decode cX5_hearStuffBit 70 = .ok (.if_icmp .ne 8, 3) := by decide +kernel
theorem dX5_hearStuffBit_73 : decode cX5_hearStuffBit 73 = .ok (.aload_n 0, 1) := by decide +kernel
theorem dX5_hearStuffBit_74 : decode cX5_hearStuffBit 74 = .ok (.iconst 2, 1) := by decide +kernel
theorem dX5_hearStuffBit_75 : decode cX5_hearStuffBit 75 = .ok (.putfield 13, 3) := by decide +kernel
theorem dX5_hearStuffBit_78 : decode cX5_hearStuffBit 78 = .ok (.iconst (-1), 1) := by decide +kernel
theorem dX5_hearStuffBit_79 : decode cX5_hearStuffBit 79 = .ok (.ireturn, 1) := by decide +kernel
theorem cwX5_hearStuffBit : mw_cwV yX5_hearStuffBit cX5_hearStuffBit 2 ((some .int)) 1 := ⟨⟨wd_6, wd_1424, by decide +kernel⟩, wd_1423, sl_83⟩
set_option maxHeartbeats 4000000 in
set_option maxRecDepth 100000 in
theorem tX5_hearStuffBit (l : Launch) (G : mwG) (ad : Nat → Nat) (fu : Nat) (k : Nat) (a1 : Int32) (M : mwM) (L : mwL) {r0 : Int32} {M0 : mwM} {L0 : mwL} (hD : DX5_hearStuffBit fu k a1 M L = some (r0, M0, L0)) (hk0 : isEa k) : Met l yX5_hearStuffBit (Cond.code yX5_hearStuffBit cX5_hearStuffBit 2 ((some .int)) :: GT) ({ frames := 1, cells := 0, slots := 0, locals := 24 }) (mw_Pre G ad NF TF FF M L [.ref (ad k), .int a1]) (mw_Qi G ad NF TF FF (mw_eqI r0 M0 L0)) 0 0 (mw_fr G) := by
  refine mw_enter (by decide) (Nat.le_of_ble_eq_true rfl) ?_
  intro p e s m below meth c ls C hr hlocks hnm hw hl
  have hl : lv_has ls 2 [(0, .ref (ad k)), (1, .int a1)] := hl
  have hb78 : ∀ (M : mwM) (L : mwL) (H : Heap) (locs : List Loc) (ls : Array Slot), fX5_hearStuffBit_b78 fu k a1 M L = some (r0, M0, L0) → mw_W G ad NF TF FF M L H locs → lv_has ls 2 [] → W p l e ({ frames := 1, cells := 0, slots := 0, locals := 24 }) s m [.ref (ad k), .int a1].toArray below meth c H locs 0 0 (MQ below (mw_Qi G ad NF TF FF (mw_eqI r0 M0 L0)) [.ref (ad k), .int a1].toArray s 0 0 (mw_fr G)) (F0 m 78 ls []) := by
    intro M L H locs ls hD hw hl
    unfold fX5_hearStuffBit_b78 at hD
    refine lv_iconst (v := (-1)) C.1.1 C.1.2.1 dX5_hearStuffBit_78 (by decide) ?_
    exact mr_iret C hr hlocks hw rfl (Option.some.inj hD) dX5_hearStuffBit_79
  unfold DX5_hearStuffBit at hD
  refine lv_iload_n C.1.1 C.1.2.1 dX5_hearStuffBit_0 rfl (lv_at hl 1 rfl) ?_
  refine lv_aload_n C.1.1 C.1.2.1 dX5_hearStuffBit_1 rfl (lv_at hl 0 rfl) ?_
  refine mr_getI C hw kc_5 2 (Ea_N0 hk0) (Ea_T0 hk0) wd_109 dX5_hearStuffBit_2 (by decide) rfl ?_
  refine lv_icmp_ne (tgt := 10) C.1.1 C.1.2.1 dX5_hearStuffBit_5 (by decide) (fun c1 => ?_) (fun c1 => ?_)
  · replace hD := g_neg c1 hD
    refine lv_aload_n C.1.1 C.1.2.1 dX5_hearStuffBit_10 rfl (lv_at hl 0 rfl) ?_
    refine lv_iload_n C.1.1 C.1.2.1 dX5_hearStuffBit_11 rfl (lv_at hl 1 rfl) ?_
    obtain ⟨M2, eM2, hD⟩ := g_let hD
    refine mr_putI C hw kc_5 2 (Ea_N0 hk0) (Ea_T0 hk0) wd_109 dX5_hearStuffBit_12 (by decide) rfl rfl rfl rfl (fun H locs hw => ?_)
    replace hw : mw_W G ad NF TF FF M2 L H locs := by rw [eM2]; exact hw
    refine lv_aload_n C.1.1 C.1.2.1 dX5_hearStuffBit_15 rfl (lv_at hl 0 rfl) ?_
    refine lv_iconst (v := 1) C.1.1 C.1.2.1 dX5_hearStuffBit_16 (by decide) ?_
    obtain ⟨M3, eM3, hD⟩ := g_let hD
    refine mr_putI C hw kc_5 3 (Ea_N0 hk0) (Ea_T0 hk0) wd_110 dX5_hearStuffBit_17 (by decide) rfl rfl rfl rfl (fun H locs hw => ?_)
    replace hw : mw_W G ad NF TF FF M3 L H locs := by rw [eM3]; exact hw
    refine lv_aload_n C.1.1 C.1.2.1 dX5_hearStuffBit_20 rfl (lv_at hl 0 rfl) ?_
    refine lv_dup C.1.1 C.1.2.1 dX5_hearStuffBit_21 rfl ?_
    refine mr_getI C hw kc_5 4 (Ea_N0 hk0) (Ea_T0 hk0) wd_111 dX5_hearStuffBit_22 (by decide) rfl ?_
    refine lv_iconst (v := 1) C.1.1 C.1.2.1 dX5_hearStuffBit_25 (by decide) ?_
    refine lv_iadd C.1.1 C.1.2.1 dX5_hearStuffBit_26 ?_
    obtain ⟨M4, eM4, hD⟩ := g_let hD
    refine mr_putI C hw kc_5 4 (Ea_N0 hk0) (Ea_T0 hk0) wd_111 dX5_hearStuffBit_27 (by decide) rfl rfl rfl rfl (fun H locs hw => ?_)
    replace hw : mw_W G ad NF TF FF M4 L H locs := by rw [eM4]; exact hw
    refine lv_aload_n C.1.1 C.1.2.1 dX5_hearStuffBit_30 rfl (lv_at hl 0 rfl) ?_
    refine lv_aload_n C.1.1 C.1.2.1 dX5_hearStuffBit_31 rfl (lv_at hl 0 rfl) ?_
    refine mr_getI C hw kc_5 8 (Ea_N0 hk0) (Ea_T0 hk0) wd_115 dX5_hearStuffBit_32 (by decide) rfl ?_
    refine lv_iload_n C.1.1 C.1.2.1 dX5_hearStuffBit_35 rfl (lv_at hl 1 rfl) ?_
    refine lv_bipush (v := 17) C.1.1 C.1.2.1 dX5_hearStuffBit_36 (by decide) ?_
    refine lv_ldc (v := 92251) C.1.1 C.1.2.1 C.1.2.2.2.1 (C.1.2.2.2.2 _ wd_1387) dX5_hearStuffBit_38 ?_
    obtain ⟨r7, M5, L6, h1, hD⟩ := g_b3 hD
    refine md_csI (As := [.int (M4 k 8), .int a1, .int 17, .int 92251]) (rest := [.ref (ad k)]) C hw (tX5_nextCheck l G ad fu (M4 k 8) a1 17 92251 M4 L h1) wd_1385 cwX5_nextCheck ⟨Nat.le_of_ble_eq_true rfl, Nat.le_of_ble_eq_true rfl⟩ rfl hl.1 (Nat.le_of_ble_eq_true rfl) dX5_hearStuffBit_40 rfl rfl ⟨Nat.zero_le _, Nat.zero_le _⟩ rfl (fun H locs hw => ?_)
    obtain ⟨M8, eM8, hD⟩ := g_let hD
    refine mr_putI C hw kc_5 8 (Ea_N0 hk0) (Ea_T0 hk0) wd_115 dX5_hearStuffBit_43 (by decide) rfl rfl rfl rfl (fun H locs hw => ?_)
    replace hw : mw_W G ad NF TF FF M8 L6 H locs := by rw [eM8]; exact hw
    refine lv_aload_n C.1.1 C.1.2.1 dX5_hearStuffBit_46 rfl (lv_at hl 0 rfl) ?_
    refine lv_aload_n C.1.1 C.1.2.1 dX5_hearStuffBit_47 rfl (lv_at hl 0 rfl) ?_
    refine mr_getI C hw kc_5 9 (Ea_N0 hk0) (Ea_T0 hk0) wd_116 dX5_hearStuffBit_48 (by decide) rfl ?_
    refine lv_iload_n C.1.1 C.1.2.1 dX5_hearStuffBit_51 rfl (lv_at hl 1 rfl) ?_
    refine lv_bipush (v := 21) C.1.1 C.1.2.1 dX5_hearStuffBit_52 (by decide) ?_
    refine lv_ldc (v := 1058969) C.1.1 C.1.2.1 C.1.2.2.2.1 (C.1.2.2.2.2 _ wd_1389) dX5_hearStuffBit_54 ?_
    obtain ⟨r11, M9, L10, h1, hD⟩ := g_b3 hD
    refine md_csI (As := [.int (M8 k 9), .int a1, .int 21, .int 1058969]) (rest := [.ref (ad k)]) C hw (tX5_nextCheck l G ad fu (M8 k 9) a1 21 1058969 M8 L6 h1) wd_1385 cwX5_nextCheck ⟨Nat.le_of_ble_eq_true rfl, Nat.le_of_ble_eq_true rfl⟩ rfl hl.1 (Nat.le_of_ble_eq_true rfl) dX5_hearStuffBit_56 rfl rfl ⟨Nat.zero_le _, Nat.zero_le _⟩ rfl (fun H locs hw => ?_)
    obtain ⟨M12, eM12, hD⟩ := g_let hD
    refine mr_putI C hw kc_5 9 (Ea_N0 hk0) (Ea_T0 hk0) wd_116 dX5_hearStuffBit_59 (by decide) rfl rfl rfl rfl (fun H locs hw => ?_)
    replace hw : mw_W G ad NF TF FF M12 L10 H locs := by rw [eM12]; exact hw
    refine lv_aload_n C.1.1 C.1.2.1 dX5_hearStuffBit_62 rfl (lv_at hl 0 rfl) ?_
    refine mr_getI C hw kc_5 5 (Ea_N0 hk0) (Ea_T0 hk0) wd_112 dX5_hearStuffBit_63 (by decide) rfl ?_
    refine lv_aload_n C.1.1 C.1.2.1 dX5_hearStuffBit_66 rfl (lv_at hl 0 rfl) ?_
    obtain ⟨r15, M13, L14, h1, hD⟩ := g_b3 hD
    refine md_cvI (As := []) (rest := [.int (M12 k 5)]) C hw (tX5_stuffedEnd l G ad fu k M12 L10 h1 hk0) kc_5 (Ea_N0 hk0) (Ea_T0 hk0) wd_1425 cwX5_stuffedEnd ⟨Nat.le_of_ble_eq_true rfl, Nat.le_of_ble_eq_true rfl⟩ rfl hl.1 (Nat.le_of_ble_eq_true rfl) dX5_hearStuffBit_67 rfl rfl ⟨Nat.zero_le _, Nat.zero_le _⟩ rfl (fun H locs hw => ?_)
    refine lv_icmp_ne (tgt := 78) C.1.1 C.1.2.1 dX5_hearStuffBit_70 (by decide) (fun c16 => ?_) (fun c16 => ?_)
    · replace hD := g_neg c16 hD
      exact hb78 M13 L14 _ _ ls hD hw (lv_sub hl [] rfl)
    · replace hD := g_pos c16 hD
      refine lv_aload_n C.1.1 C.1.2.1 dX5_hearStuffBit_73 rfl (lv_at hl 0 rfl) ?_
      refine lv_iconst (v := 2) C.1.1 C.1.2.1 dX5_hearStuffBit_74 (by decide) ?_
      obtain ⟨M17, eM17, hD⟩ := g_let hD
      refine mr_putI C hw kc_5 1 (Ea_N0 hk0) (Ea_T0 hk0) wd_108 dX5_hearStuffBit_75 (by decide) rfl rfl rfl rfl (fun H locs hw => ?_)
      replace hw : mw_W G ad NF TF FF M17 L14 H locs := by rw [eM17]; exact hw
      exact hb78 M17 L14 _ _ ls hD hw (lv_sub hl [] rfl)
  · replace hD := g_pos c1 hD
    refine lv_iconst (v := 1) C.1.1 C.1.2.1 dX5_hearStuffBit_8 (by decide) ?_
    exact mr_iret C hr hlocks hw rfl (Option.some.inj hD) dX5_hearStuffBit_9

theorem dX5_hearHead_0 : decode cX5_hearHead 0 = .ok (.iload_n 1, 1) := by decide +kernel
theorem dX5_hearHead_1 : decode cX5_hearHead 1 = .ok (.iconst 1, 1) := by decide +kernel
theorem dX5_hearHead_2 : decode cX5_hearHead 2 = .ok (.if_icmp .lt 9, 3) := by decide +kernel
theorem dX5_hearHead_5 : decode cX5_hearHead 5 = .ok (.iload_n 1, 1) := by decide +kernel
theorem dX5_hearHead_6 : decode cX5_hearHead 6 = .ok (.bipush 11, 2) := by decide +kernel
theorem dX5_hearHead_8 : decode cX5_hearHead 8 = .ok (.if_icmp .le 23, 3) := by decide +kernel
theorem dX5_hearHead_11 : decode cX5_hearHead 11 = .ok (.aload_n 0, 1) := by decide +kernel
theorem dX5_hearHead_12 : decode cX5_hearHead 12 = .ok (.getfield 55, 3) := by decide +kernel
theorem dX5_hearHead_15 : decode cX5_hearHead 15 = .ok (.iconst 1, 1) := by decide +kernel
theorem dX5_hearHead_16 : decode cX5_hearHead 16 = .ok (.if_icmp .ne 30, 3) := by decide +kernel
theorem dX5_hearHead_19 : decode cX5_hearHead 19 = .ok (.iload_n 1, 1) := by decide +kernel
theorem dX5_hearHead_20 : decode cX5_hearHead 20 = .ok (.bipush 14, 2) := by decide +kernel
theorem dX5_hearHead_22 : decode cX5_hearHead 22 = .ok (.if_icmp .lt 24, 3) := by decide +kernel
theorem dX5_hearHead_25 : decode cX5_hearHead 25 = .ok (.iload_n 1, 1) := by decide +kernel
theorem dX5_hearHead_26 : decode cX5_hearHead 26 = .ok (.bipush 31, 2) := by decide +kernel
theorem dX5_hearHead_28 : decode cX5_hearHead 28 = .ok (.if_icmp .gt 18, 3) := by decide +kernel
theorem dX5_hearHead_31 : decode cX5_hearHead 31 = .ok (.aload_n 0, 1) := by decide +kernel
theorem dX5_hearHead_32 : decode cX5_hearHead 32 = .ok (.aload_n 0, 1) := by decide +kernel
theorem dX5_hearHead_33 : decode cX5_hearHead 33 = .ok (.getfield 49, 3) := by decide +kernel
theorem dX5_hearHead_36 : decode cX5_hearHead 36 = .ok (.iconst 1, 1) := by decide +kernel
theorem dX5_hearHead_37 : decode cX5_hearHead 37 = .ok (.ishl, 1) := by decide +kernel
theorem dX5_hearHead_38 : decode cX5_hearHead 38 = .ok (.iload_n 2, 1) := by decide +kernel
theorem dX5_hearHead_39 : decode cX5_hearHead 39 = .ok (.ior, 1) := by decide +kernel
theorem dX5_hearHead_40 : decode cX5_hearHead 40 = .ok (.putfield 49, 3) := by decide +kernel
theorem dX5_hearHead_43 : decode cX5_hearHead 43 = .ok (.goto 83, 3) := by decide +kernel
theorem dX5_hearHead_46 : decode cX5_hearHead 46 = .ok (.iload_n 1, 1) := by decide +kernel
theorem dX5_hearHead_47 : decode cX5_hearHead 47 = .ok (.bipush 12, 2) := by decide +kernel
theorem dX5_hearHead_49 : decode cX5_hearHead 49 = .ok (.if_icmp .eq 9, 3) := by decide +kernel
theorem dX5_hearHead_52 : decode cX5_hearHead 52 = .ok (.iload_n 1, 1) := by decide +kernel
theorem dX5_hearHead_53 : decode cX5_hearHead 53 = .ok (.bipush 32, 2) := by decide +kernel
theorem dX5_hearHead_55 : decode cX5_hearHead 55 = .ok (.if_icmp .ne 11, 3) := by decide +kernel
theorem dX5_hearHead_58 : decode cX5_hearHead 58 = .ok (.aload_n 0, 1) := by decide +kernel
theorem dX5_hearHead_59 : decode cX5_hearHead 59 = .ok (.iload_n 2, 1) := by decide +kernel
theorem dX5_hearHead_60 : decode cX5_hearHead 60 = .ok (.putfield 52, 3) := by decide +kernel
theorem dX5_hearHead_63 : decode cX5_hearHead 63 = .ok (.goto 63, 3) := by decide +kernel
theorem dX5_hearHead_66 : decode cX5_hearHead 66 = .ok (.iload_n 1, 1) := by decide +kernel
theorem dX5_hearHead_67 : decode cX5_hearHead 67 = .ok (.bipush 13, 2) := by decide +kernel
theorem dX5_hearHead_69 : decode cX5_hearHead 69 = .ok (.if_icmp .ne 11, 3) := by decide +kernel
theorem dX5_hearHead_72 : decode cX5_hearHead 72 = .ok (.aload_n 0, 1) := by decide +kernel
theorem dX5_hearHead_73 : decode cX5_hearHead 73 = .ok (.iload_n 2, 1) := by decide +kernel
theorem dX5_hearHead_74 : decode cX5_hearHead 74 = .ok (.putfield 55, 3) := by decide +kernel
theorem dX5_hearHead_77 : decode cX5_hearHead 77 = .ok (.goto 49, 3) := by decide +kernel
theorem dX5_hearHead_80 : decode cX5_hearHead 80 = .ok (.iload_n 1, 1) := by decide +kernel
theorem dX5_hearHead_81 : decode cX5_hearHead 81 = .ok (.bipush 14, 2) := by decide +kernel
theorem dX5_hearHead_83 : decode cX5_hearHead 83 = .ok (.if_icmp .eq 9, 3) := by decide +kernel
theorem dX5_hearHead_86 : decode cX5_hearHead 86 = .ok (.iload_n 1, 1) := by decide +kernel
theorem dX5_hearHead_87 : decode cX5_hearHead 87 = .ok (.bipush 33, 2) := by decide +kernel
theorem dX5_hearHead_89 : decode cX5_hearHead 89 = .ok (.if_icmp .ne 37, 3) := by decide +kernel
theorem dX5_hearHead_92 : decode cX5_hearHead 92 = .ok (.aload_n 0, 1) := by decide +kernel
theorem dX5_hearHead_93 : decode cX5_hearHead 93 = .ok (.iload_n 2, 1) := by decide +kernel
theorem dX5_hearHead_94 : decode cX5_hearHead 94 = .ok (.putfield 58, 3) := by decide +kernel
theorem dX5_hearHead_97 : decode cX5_hearHead 97 = .ok (.aload_n 0, 1) := by decide +kernel
theorem dX5_hearHead_98 : decode cX5_hearHead 98 = .ok (.iload_n 1, 1) := by decide +kernel
theorem dX5_hearHead_99 : decode cX5_hearHead 99 = .ok (.iconst 1, 1) := by decide +kernel
theorem dX5_hearHead_100 : decode cX5_hearHead 100 = .ok (.iadd, 1) := by decide +kernel
theorem dX5_hearHead_101 : decode cX5_hearHead 101 = .ok (.iconst 3, 1) := by decide +kernel
theorem dX5_hearHead_102 : decode cX5_hearHead 102 = .ok (.iload_n 2, 1) := by decide +kernel
theorem dX5_hearHead_103 : decode cX5_hearHead 103 = .ok (.imul, 1) := by decide +kernel
theorem dX5_hearHead_104 : decode cX5_hearHead 104 = .ok (.iadd, 1) := by decide +kernel
theorem dX5_hearHead_105 : decode cX5_hearHead 105 = .ok (.aload_n 0, 1) := by decide +kernel
theorem dX5_hearHead_106 : decode cX5_hearHead 106 = .ok (.getfield 55, 3) := by decide +kernel
theorem dX5_hearHead_109 : decode cX5_hearHead 109 = .ok (.iconst 1, 1) := by decide +kernel
theorem dX5_hearHead_110 : decode cX5_hearHead 110 = .ok (.if_icmp .ne 11, 3) := by decide +kernel
theorem dX5_hearHead_113 : decode cX5_hearHead 113 = .ok (.iload_n 2, 1) := by decide +kernel
theorem dX5_hearHead_114 : decode cX5_hearHead 114 = .ok (.ifCond .ne 7, 3) := by decide +kernel
theorem dX5_hearHead_117 : decode cX5_hearHead 117 = .ok (.iconst 1, 1) := by decide +kernel
theorem dX5_hearHead_118 : decode cX5_hearHead 118 = .ok (.goto 4, 3) := by decide +kernel
theorem dX5_hearHead_121 : decode cX5_hearHead 121 = .ok (.iconst 0, 1) := by decide +kernel
theorem dX5_hearHead_122 : decode cX5_hearHead 122 = .ok (.iadd, 1) := by decide +kernel
theorem dX5_hearHead_123 : decode cX5_hearHead 123 = .ok (.putfield 65, 3) := by decide +kernel
theorem dX5_hearHead_126 : decode cX5_hearHead 126 = .ok (.return_, 1) := by decide +kernel
theorem cwX5_hearHead : mw_cwV yX5_hearHead cX5_hearHead 3 (none) 2 := ⟨⟨wd_6, wd_1436, by decide +kernel⟩, wd_1435, sl_86⟩
set_option maxHeartbeats 4000000 in
set_option maxRecDepth 100000 in
theorem tX5_hearHead (l : Launch) (G : mwG) (ad : Nat → Nat) (fu : Nat) (k : Nat) (a1 : Int32) (a2 : Int32) (M : mwM) (L : mwL) {M0 : mwM} {L0 : mwL} (hD : DX5_hearHead fu k a1 a2 M L = some (M0, L0)) (hk0 : isEa k) : Met l yX5_hearHead (Cond.code yX5_hearHead cX5_hearHead 3 (none) :: GT) ({ frames := 0, cells := 0, slots := 0, locals := 0 }) (mw_Pre G ad NF TF FF M L [.ref (ad k), .int a1, .int a2]) (mw_Qv G ad NF TF FF (mw_eqV M0 L0)) 0 0 (mw_fr G) := by
  refine mw_enter (by decide) (Nat.le_of_ble_eq_true rfl) ?_
  intro p e s m below meth c ls C hr hlocks hnm hw hl
  have hl : lv_has ls 3 [(0, .ref (ad k)), (1, .int a1), (2, .int a2)] := hl
  have hb126 : ∀ (M : mwM) (L : mwL) (H : Heap) (locs : List Loc) (ls : Array Slot), fX5_hearHead_b126 fu k a1 a2 M L = some (M0, L0) → mw_W G ad NF TF FF M L H locs → lv_has ls 3 [] → W p l e ({ frames := 0, cells := 0, slots := 0, locals := 0 }) s m [.ref (ad k), .int a1, .int a2].toArray below meth c H locs 0 0 (MQ below (mw_Qv G ad NF TF FF (mw_eqV M0 L0)) [.ref (ad k), .int a1, .int a2].toArray s 0 0 (mw_fr G)) (F0 m 126 ls []) := by
    intro M L H locs ls hD hw hl
    unfold fX5_hearHead_b126 at hD
    exact mr_vret C hr hlocks hw (Option.some.inj hD) dX5_hearHead_126
  have hb58 : ∀ (M : mwM) (L : mwL) (H : Heap) (locs : List Loc) (ls : Array Slot), fX5_hearHead_b58 fu k a1 a2 M L = some (M0, L0) → mw_W G ad NF TF FF M L H locs → lv_has ls 3 [(0, .ref (ad k)), (2, .int a2)] → W p l e ({ frames := 0, cells := 0, slots := 0, locals := 0 }) s m [.ref (ad k), .int a1, .int a2].toArray below meth c H locs 0 0 (MQ below (mw_Qv G ad NF TF FF (mw_eqV M0 L0)) [.ref (ad k), .int a1, .int a2].toArray s 0 0 (mw_fr G)) (F0 m 58 ls []) := by
    intro M L H locs ls hD hw hl
    unfold fX5_hearHead_b58 at hD
    refine lv_aload_n C.1.1 C.1.2.1 dX5_hearHead_58 rfl (lv_at hl 0 rfl) ?_
    refine lv_iload_n C.1.1 C.1.2.1 dX5_hearHead_59 rfl (lv_at hl 1 rfl) ?_
    obtain ⟨M11, eM11, hD⟩ := g_let hD
    refine mr_putI C hw kc_5 11 (Ea_N0 hk0) (Ea_T0 hk0) wd_119 dX5_hearHead_60 (by decide) rfl rfl rfl rfl (fun H locs hw => ?_)
    replace hw : mw_W G ad NF TF FF M11 L H locs := by rw [eM11]; exact hw
    refine lv_goto (tgt := 126) C.1.1 C.1.2.1 dX5_hearHead_63 (by decide) ?_
    exact hb126 M11 L _ _ ls hD hw (lv_sub hl [] rfl)
  have hb122 : ∀ (s1 : Int32) (s2 : Int32) (M : mwM) (L : mwL) (H : Heap) (locs : List Loc) (ls : Array Slot), fX5_hearHead_b122 fu k a1 a2 s1 s2 M L = some (M0, L0) → mw_W G ad NF TF FF M L H locs → lv_has ls 3 [] → W p l e ({ frames := 0, cells := 0, slots := 0, locals := 0 }) s m [.ref (ad k), .int a1, .int a2].toArray below meth c H locs 0 0 (MQ below (mw_Qv G ad NF TF FF (mw_eqV M0 L0)) [.ref (ad k), .int a1, .int a2].toArray s 0 0 (mw_fr G)) (F0 m 122 ls [.int s2, .int s1, .ref (ad k)]) := by
    intro s1 s2 M L H locs ls hD hw hl
    unfold fX5_hearHead_b122 at hD
    refine lv_iadd C.1.1 C.1.2.1 dX5_hearHead_122 ?_
    obtain ⟨M15, eM15, hD⟩ := g_let hD
    refine mr_putI C hw kc_5 15 (Ea_N0 hk0) (Ea_T0 hk0) wd_123 dX5_hearHead_123 (by decide) rfl rfl rfl rfl (fun H locs hw => ?_)
    replace hw : mw_W G ad NF TF FF M15 L H locs := by rw [eM15]; exact hw
    exact hb126 M15 L _ _ ls hD hw (lv_sub hl [] rfl)
  have hb121 : ∀ (s1 : Int32) (M : mwM) (L : mwL) (H : Heap) (locs : List Loc) (ls : Array Slot), fX5_hearHead_b121 fu k a1 a2 s1 M L = some (M0, L0) → mw_W G ad NF TF FF M L H locs → lv_has ls 3 [] → W p l e ({ frames := 0, cells := 0, slots := 0, locals := 0 }) s m [.ref (ad k), .int a1, .int a2].toArray below meth c H locs 0 0 (MQ below (mw_Qv G ad NF TF FF (mw_eqV M0 L0)) [.ref (ad k), .int a1, .int a2].toArray s 0 0 (mw_fr G)) (F0 m 121 ls [.int s1, .ref (ad k)]) := by
    intro s1 M L H locs ls hD hw hl
    unfold fX5_hearHead_b121 at hD
    refine lv_iconst (v := 0) C.1.1 C.1.2.1 dX5_hearHead_121 (by decide) ?_
    exact hb122 s1 0 M L _ _ ls hD hw (lv_sub hl [] rfl)
  have hb92 : ∀ (M : mwM) (L : mwL) (H : Heap) (locs : List Loc) (ls : Array Slot), fX5_hearHead_b92 fu k a1 a2 M L = some (M0, L0) → mw_W G ad NF TF FF M L H locs → lv_has ls 3 [(0, .ref (ad k)), (1, .int a1), (2, .int a2)] → W p l e ({ frames := 0, cells := 0, slots := 0, locals := 0 }) s m [.ref (ad k), .int a1, .int a2].toArray below meth c H locs 0 0 (MQ below (mw_Qv G ad NF TF FF (mw_eqV M0 L0)) [.ref (ad k), .int a1, .int a2].toArray s 0 0 (mw_fr G)) (F0 m 92 ls []) := by
    intro M L H locs ls hD hw hl
    unfold fX5_hearHead_b92 at hD
    refine lv_aload_n C.1.1 C.1.2.1 dX5_hearHead_92 rfl (lv_at hl 0 rfl) ?_
    refine lv_iload_n C.1.1 C.1.2.1 dX5_hearHead_93 rfl (lv_at hl 2 rfl) ?_
    obtain ⟨M12, eM12, hD⟩ := g_let hD
    refine mr_putI C hw kc_5 13 (Ea_N0 hk0) (Ea_T0 hk0) wd_121 dX5_hearHead_94 (by decide) rfl rfl rfl rfl (fun H locs hw => ?_)
    replace hw : mw_W G ad NF TF FF M12 L H locs := by rw [eM12]; exact hw
    refine lv_aload_n C.1.1 C.1.2.1 dX5_hearHead_97 rfl (lv_at hl 0 rfl) ?_
    refine lv_iload_n C.1.1 C.1.2.1 dX5_hearHead_98 rfl (lv_at hl 1 rfl) ?_
    refine lv_iconst (v := 1) C.1.1 C.1.2.1 dX5_hearHead_99 (by decide) ?_
    refine lv_iadd C.1.1 C.1.2.1 dX5_hearHead_100 ?_
    refine lv_iconst (v := 3) C.1.1 C.1.2.1 dX5_hearHead_101 (by decide) ?_
    refine lv_iload_n C.1.1 C.1.2.1 dX5_hearHead_102 rfl (lv_at hl 2 rfl) ?_
    refine lv_imul C.1.1 C.1.2.1 dX5_hearHead_103 ?_
    refine lv_iadd C.1.1 C.1.2.1 dX5_hearHead_104 ?_
    refine lv_aload_n C.1.1 C.1.2.1 dX5_hearHead_105 rfl (lv_at hl 0 rfl) ?_
    refine mr_getI C hw kc_5 12 (Ea_N0 hk0) (Ea_T0 hk0) wd_120 dX5_hearHead_106 (by decide) rfl ?_
    refine lv_iconst (v := 1) C.1.1 C.1.2.1 dX5_hearHead_109 (by decide) ?_
    refine lv_icmp_ne (tgt := 121) C.1.1 C.1.2.1 dX5_hearHead_110 (by decide) (fun c13 => ?_) (fun c13 => ?_)
    · replace hD := g_neg c13 hD
      exact hb121 ((a1 + 1) + (3 * a2)) M12 L _ _ ls hD hw (lv_sub hl [] rfl)
    · replace hD := g_pos c13 hD
      refine lv_iload_n C.1.1 C.1.2.1 dX5_hearHead_113 rfl (lv_at hl 2 rfl) ?_
      refine lv_if_ne (tgt := 121) C.1.1 C.1.2.1 dX5_hearHead_114 (by decide) (fun c14 => ?_) (fun c14 => ?_)
      · replace hD := g_neg c14 hD
        exact hb121 ((a1 + 1) + (3 * a2)) M12 L _ _ ls hD hw (lv_sub hl [] rfl)
      · replace hD := g_pos c14 hD
        refine lv_iconst (v := 1) C.1.1 C.1.2.1 dX5_hearHead_117 (by decide) ?_
        refine lv_goto (tgt := 122) C.1.1 C.1.2.1 dX5_hearHead_118 (by decide) ?_
        exact hb122 ((a1 + 1) + (3 * a2)) 1 M12 L _ _ ls hD hw (lv_sub hl [] rfl)
  have hb46 : ∀ (M : mwM) (L : mwL) (H : Heap) (locs : List Loc) (ls : Array Slot), fX5_hearHead_b46 fu k a1 a2 M L = some (M0, L0) → mw_W G ad NF TF FF M L H locs → lv_has ls 3 [(0, .ref (ad k)), (1, .int a1), (2, .int a2)] → W p l e ({ frames := 0, cells := 0, slots := 0, locals := 0 }) s m [.ref (ad k), .int a1, .int a2].toArray below meth c H locs 0 0 (MQ below (mw_Qv G ad NF TF FF (mw_eqV M0 L0)) [.ref (ad k), .int a1, .int a2].toArray s 0 0 (mw_fr G)) (F0 m 46 ls []) := by
    intro M L H locs ls hD hw hl
    unfold fX5_hearHead_b46 at hD
    refine lv_iload_n C.1.1 C.1.2.1 dX5_hearHead_46 rfl (lv_at hl 1 rfl) ?_
    refine lv_bipush (v := 12) C.1.1 C.1.2.1 dX5_hearHead_47 (by decide) ?_
    refine lv_icmp_eq (tgt := 58) C.1.1 C.1.2.1 dX5_hearHead_49 (by decide) (fun c5 => ?_) (fun c5 => ?_)
    · replace hD := g_pos c5 hD
      exact hb58 M L _ _ ls hD hw (lv_sub hl [0, 2] rfl)
    · replace hD := g_neg c5 hD
      refine lv_iload_n C.1.1 C.1.2.1 dX5_hearHead_52 rfl (lv_at hl 1 rfl) ?_
      refine lv_bipush (v := 32) C.1.1 C.1.2.1 dX5_hearHead_53 (by decide) ?_
      refine lv_icmp_ne (tgt := 66) C.1.1 C.1.2.1 dX5_hearHead_55 (by decide) (fun c6 => ?_) (fun c6 => ?_)
      · replace hD := g_neg c6 hD
        refine lv_iload_n C.1.1 C.1.2.1 dX5_hearHead_66 rfl (lv_at hl 1 rfl) ?_
        refine lv_bipush (v := 13) C.1.1 C.1.2.1 dX5_hearHead_67 (by decide) ?_
        refine lv_icmp_ne (tgt := 80) C.1.1 C.1.2.1 dX5_hearHead_69 (by decide) (fun c7 => ?_) (fun c7 => ?_)
        · replace hD := g_neg c7 hD
          refine lv_iload_n C.1.1 C.1.2.1 dX5_hearHead_80 rfl (lv_at hl 1 rfl) ?_
          refine lv_bipush (v := 14) C.1.1 C.1.2.1 dX5_hearHead_81 (by decide) ?_
          refine lv_icmp_eq (tgt := 92) C.1.1 C.1.2.1 dX5_hearHead_83 (by decide) (fun c8 => ?_) (fun c8 => ?_)
          · replace hD := g_pos c8 hD
            exact hb92 M L _ _ ls hD hw (lv_sub hl [0, 1, 2] rfl)
          · replace hD := g_neg c8 hD
            refine lv_iload_n C.1.1 C.1.2.1 dX5_hearHead_86 rfl (lv_at hl 1 rfl) ?_
            refine lv_bipush (v := 33) C.1.1 C.1.2.1 dX5_hearHead_87 (by decide) ?_
            refine lv_icmp_ne (tgt := 126) C.1.1 C.1.2.1 dX5_hearHead_89 (by decide) (fun c9 => ?_) (fun c9 => ?_)
            · replace hD := g_neg c9 hD
              exact hb126 M L _ _ ls hD hw (lv_sub hl [] rfl)
            · replace hD := g_pos c9 hD
              exact hb92 M L _ _ ls hD hw (lv_sub hl [0, 1, 2] rfl)
        · replace hD := g_pos c7 hD
          refine lv_aload_n C.1.1 C.1.2.1 dX5_hearHead_72 rfl (lv_at hl 0 rfl) ?_
          refine lv_iload_n C.1.1 C.1.2.1 dX5_hearHead_73 rfl (lv_at hl 2 rfl) ?_
          obtain ⟨M10, eM10, hD⟩ := g_let hD
          refine mr_putI C hw kc_5 12 (Ea_N0 hk0) (Ea_T0 hk0) wd_120 dX5_hearHead_74 (by decide) rfl rfl rfl rfl (fun H locs hw => ?_)
          replace hw : mw_W G ad NF TF FF M10 L H locs := by rw [eM10]; exact hw
          refine lv_goto (tgt := 126) C.1.1 C.1.2.1 dX5_hearHead_77 (by decide) ?_
          exact hb126 M10 L _ _ ls hD hw (lv_sub hl [] rfl)
      · replace hD := g_pos c6 hD
        exact hb58 M L _ _ ls hD hw (lv_sub hl [0, 2] rfl)
  have hb31 : ∀ (M : mwM) (L : mwL) (H : Heap) (locs : List Loc) (ls : Array Slot), fX5_hearHead_b31 fu k a1 a2 M L = some (M0, L0) → mw_W G ad NF TF FF M L H locs → lv_has ls 3 [(0, .ref (ad k)), (2, .int a2)] → W p l e ({ frames := 0, cells := 0, slots := 0, locals := 0 }) s m [.ref (ad k), .int a1, .int a2].toArray below meth c H locs 0 0 (MQ below (mw_Qv G ad NF TF FF (mw_eqV M0 L0)) [.ref (ad k), .int a1, .int a2].toArray s 0 0 (mw_fr G)) (F0 m 31 ls []) := by
    intro M L H locs ls hD hw hl
    unfold fX5_hearHead_b31 at hD
    refine lv_aload_n C.1.1 C.1.2.1 dX5_hearHead_31 rfl (lv_at hl 0 rfl) ?_
    refine lv_aload_n C.1.1 C.1.2.1 dX5_hearHead_32 rfl (lv_at hl 0 rfl) ?_
    refine mr_getI C hw kc_5 10 (Ea_N0 hk0) (Ea_T0 hk0) wd_117 dX5_hearHead_33 (by decide) rfl ?_
    refine lv_iconst (v := 1) C.1.1 C.1.2.1 dX5_hearHead_36 (by decide) ?_
    refine lv_ishl C.1.1 C.1.2.1 dX5_hearHead_37 ?_
    refine lv_iload_n C.1.1 C.1.2.1 dX5_hearHead_38 rfl (lv_at hl 1 rfl) ?_
    refine lv_ior C.1.1 C.1.2.1 dX5_hearHead_39 ?_
    obtain ⟨M4, eM4, hD⟩ := g_let hD
    refine mr_putI C hw kc_5 10 (Ea_N0 hk0) (Ea_T0 hk0) wd_117 dX5_hearHead_40 (by decide) rfl rfl rfl rfl (fun H locs hw => ?_)
    replace hw : mw_W G ad NF TF FF M4 L H locs := by rw [eM4]; exact hw
    refine lv_goto (tgt := 126) C.1.1 C.1.2.1 dX5_hearHead_43 (by decide) ?_
    exact hb126 M4 L _ _ ls hD hw (lv_sub hl [] rfl)
  have hb11 : ∀ (M : mwM) (L : mwL) (H : Heap) (locs : List Loc) (ls : Array Slot), fX5_hearHead_b11 fu k a1 a2 M L = some (M0, L0) → mw_W G ad NF TF FF M L H locs → lv_has ls 3 [(0, .ref (ad k)), (1, .int a1), (2, .int a2)] → W p l e ({ frames := 0, cells := 0, slots := 0, locals := 0 }) s m [.ref (ad k), .int a1, .int a2].toArray below meth c H locs 0 0 (MQ below (mw_Qv G ad NF TF FF (mw_eqV M0 L0)) [.ref (ad k), .int a1, .int a2].toArray s 0 0 (mw_fr G)) (F0 m 11 ls []) := by
    intro M L H locs ls hD hw hl
    unfold fX5_hearHead_b11 at hD
    refine lv_aload_n C.1.1 C.1.2.1 dX5_hearHead_11 rfl (lv_at hl 0 rfl) ?_
    refine mr_getI C hw kc_5 12 (Ea_N0 hk0) (Ea_T0 hk0) wd_120 dX5_hearHead_12 (by decide) rfl ?_
    refine lv_iconst (v := 1) C.1.1 C.1.2.1 dX5_hearHead_15 (by decide) ?_
    refine lv_icmp_ne (tgt := 46) C.1.1 C.1.2.1 dX5_hearHead_16 (by decide) (fun c1 => ?_) (fun c1 => ?_)
    · replace hD := g_neg c1 hD
      exact hb46 M L _ _ ls hD hw (lv_sub hl [0, 1, 2] rfl)
    · replace hD := g_pos c1 hD
      refine lv_iload_n C.1.1 C.1.2.1 dX5_hearHead_19 rfl (lv_at hl 1 rfl) ?_
      refine lv_bipush (v := 14) C.1.1 C.1.2.1 dX5_hearHead_20 (by decide) ?_
      refine lv_icmp_lt (tgt := 46) C.1.1 C.1.2.1 dX5_hearHead_22 (by decide) (fun c2 => ?_) (fun c2 => ?_)
      · replace hD := g_pos c2 hD
        exact hb46 M L _ _ ls hD hw (lv_sub hl [0, 1, 2] rfl)
      · replace hD := g_neg c2 hD
        refine lv_iload_n C.1.1 C.1.2.1 dX5_hearHead_25 rfl (lv_at hl 1 rfl) ?_
        refine lv_bipush (v := 31) C.1.1 C.1.2.1 dX5_hearHead_26 (by decide) ?_
        refine lv_icmp_gt (tgt := 46) C.1.1 C.1.2.1 dX5_hearHead_28 (by decide) (fun c3 => ?_) (fun c3 => ?_)
        · replace hD := g_pos c3 hD
          exact hb46 M L _ _ ls hD hw (lv_sub hl [0, 1, 2] rfl)
        · replace hD := g_neg c3 hD
          exact hb31 M L _ _ ls hD hw (lv_sub hl [0, 2] rfl)
  unfold DX5_hearHead at hD
  refine lv_iload_n C.1.1 C.1.2.1 dX5_hearHead_0 rfl (lv_at hl 1 rfl) ?_
  refine lv_iconst (v := 1) C.1.1 C.1.2.1 dX5_hearHead_1 (by decide) ?_
  refine lv_icmp_lt (tgt := 11) C.1.1 C.1.2.1 dX5_hearHead_2 (by decide) (fun c16 => ?_) (fun c16 => ?_)
  · replace hD := g_pos c16 hD
    exact hb11 M L _ _ ls hD hw (lv_sub hl [0, 1, 2] rfl)
  · replace hD := g_neg c16 hD
    refine lv_iload_n C.1.1 C.1.2.1 dX5_hearHead_5 rfl (lv_at hl 1 rfl) ?_
    refine lv_bipush (v := 11) C.1.1 C.1.2.1 dX5_hearHead_6 (by decide) ?_
    refine lv_icmp_le (tgt := 31) C.1.1 C.1.2.1 dX5_hearHead_8 (by decide) (fun c17 => ?_) (fun c17 => ?_)
    · replace hD := g_pos c17 hD
      exact hb31 M L _ _ ls hD hw (lv_sub hl [0, 2] rfl)
    · replace hD := g_neg c17 hD
      exact hb11 M L _ _ ls hD hw (lv_sub hl [0, 1, 2] rfl)

theorem dX5_findEnds_0 : decode cX5_findEnds 0 = .ok (.aload_n 0, 1) := by decide +kernel
theorem dX5_findEnds_1 : decode cX5_findEnds 1 = .ok (.getfield 58, 3) := by decide +kernel
theorem dX5_findEnds_4 : decode cX5_findEnds 4 = .ok (.iconst 1, 1) := by decide +kernel
theorem dX5_findEnds_5 : decode cX5_findEnds 5 = .ok (.if_icmp .ne 18, 3) := by decide +kernel
theorem dX5_findEnds_8 : decode cX5_findEnds 8 = .ok (.aload_n 0, 1) := by decide +kernel
theorem dX5_findEnds_9 : decode cX5_findEnds 9 = .ok (.getstatic 108, 3) := by decide +kernel
theorem dX5_findEnds_12 : decode cX5_findEnds 12 = .ok (.aload_n 0, 1) := by decide +kernel
theorem dX5_findEnds_13 : decode cX5_findEnds 13 = .ok (.getfield 61, 3) := by decide +kernel
theorem dX5_findEnds_16 : decode cX5_findEnds 16 = .ok (.iaload, 1) := by decide +kernel
theorem dX5_findEnds_17 : decode cX5_findEnds 17 = .ok (.putfield 68, 3) := by decide +kernel
theorem dX5_findEnds_20 : decode cX5_findEnds 20 = .ok (.goto 28, 3) := by decide +kernel
theorem dX5_findEnds_23 : decode cX5_findEnds 23 = .ok (.aload_n 0, 1) := by decide +kernel
theorem dX5_findEnds_24 : decode cX5_findEnds 24 = .ok (.aload_n 0, 1) := by decide +kernel
theorem dX5_findEnds_25 : decode cX5_findEnds 25 = .ok (.getfield 52, 3) := by decide +kernel
theorem dX5_findEnds_28 : decode cX5_findEnds 28 = .ok (.iconst 1, 1) := by decide +kernel
theorem dX5_findEnds_29 : decode cX5_findEnds 29 = .ok (.if_icmp .ne 7, 3) := by decide +kernel
theorem dX5_findEnds_32 : decode cX5_findEnds 32 = .ok (.iconst 0, 1) := by decide +kernel
theorem dX5_findEnds_33 : decode cX5_findEnds 33 = .ok (.goto 12, 3) := by decide +kernel
theorem dX5_findEnds_36 : decode cX5_findEnds 36 = .ok (.aload_n 0, 1) := by decide +kernel
theorem dX5_findEnds_37 : decode cX5_findEnds 37 = .ok (.getfield 61, 3) := by decide +kernel
theorem dX5_findEnds_40 : decode cX5_findEnds 40 = .ok (.bipush 8, 2) := by decide +kernel
theorem dX5_findEnds_42 : decode cX5_findEnds 42 = .ok (.invokestatic 111, 3) := by decide +kernel
theorem dX5_findEnds_45 : decode cX5_findEnds 45 = .ok (.putfield 68, 3) := by decide +kernel
theorem dX5_findEnds_48 : decode cX5_findEnds 48 = .ok (.aload_n 0, 1) := by decide +kernel
theorem dX5_findEnds_49 : decode cX5_findEnds 49 = .ok (.aload_n 0, 1) := by decide +kernel
theorem dX5_findEnds_50 : decode cX5_findEnds 50 = .ok (.getfield 65, 3) := by decide +kernel
theorem dX5_findEnds_53 : decode cX5_findEnds 53 = .ok (.iconst 4, 1) := by decide +kernel
theorem dX5_findEnds_54 : decode cX5_findEnds 54 = .ok (.iadd, 1) := by decide +kernel
theorem dX5_findEnds_55 : decode cX5_findEnds 55 = .ok (.bipush 8, 2) := by decide +kernel
theorem dX5_findEnds_57 : decode cX5_findEnds 57 = .ok (.aload_n 0, 1) := by decide +kernel
theorem dX5_findEnds_58 : decode cX5_findEnds 58 = .ok (.getfield 68, 3) := by decide +kernel
theorem dX5_findEnds_61 : decode cX5_findEnds 61 = .ok (.imul, 1) := by decide +kernel
theorem dX5_findEnds_62 : decode cX5_findEnds 62 = .ok (.iadd, 1) := by decide +kernel
theorem dX5_findEnds_63 : decode cX5_findEnds 63 = .ok (.putfield 71, 3) := by decide +kernel
theorem dX5_findEnds_66 : decode cX5_findEnds 66 = .ok (.return_, 1) := by decide +kernel
theorem cwX5_findEnds : mw_cwV yX5_findEnds cX5_findEnds 1 (none) 0 := ⟨⟨wd_6, wd_1440, by decide +kernel⟩, wd_1439, sl_87⟩
set_option maxHeartbeats 4000000 in
set_option maxRecDepth 100000 in
theorem tX5_findEnds (l : Launch) (G : mwG) (ad : Nat → Nat) (fu : Nat) (k : Nat) (M : mwM) (L : mwL) {M0 : mwM} {L0 : mwL} (hD : DX5_findEnds fu k M L = some (M0, L0)) (hk0 : isEa k) : Met l yX5_findEnds (Cond.code yX5_findEnds cX5_findEnds 1 (none) :: GT) ({ frames := 1, cells := 0, slots := 0, locals := 21 }) (mw_Pre G ad NF TF FF M L [.ref (ad k)]) (mw_Qv G ad NF TF FF (mw_eqV M0 L0)) 0 0 (mw_fr G) := by
  refine mw_enter (by decide) (Nat.le_of_ble_eq_true rfl) ?_
  intro p e s m below meth c ls C hr hlocks hnm hw hl
  have hw0 := hw
  have hl : lv_has ls 1 [(0, .ref (ad k))] := hl
  have hb48 : ∀ (M : mwM) (L : mwL) (H : Heap) (locs : List Loc) (ls : Array Slot), fX5_findEnds_b48 fu k M L = some (M0, L0) → mw_W G ad NF TF FF M L H locs → lv_has ls 1 [(0, .ref (ad k))] → W p l e ({ frames := 1, cells := 0, slots := 0, locals := 21 }) s m [.ref (ad k)].toArray below meth c H locs 0 0 (MQ below (mw_Qv G ad NF TF FF (mw_eqV M0 L0)) [.ref (ad k)].toArray s 0 0 (mw_fr G)) (F0 m 48 ls []) := by
    intro M L H locs ls hD hw hl
    unfold fX5_findEnds_b48 at hD
    refine lv_aload_n C.1.1 C.1.2.1 dX5_findEnds_48 rfl (lv_at hl 0 rfl) ?_
    refine lv_aload_n C.1.1 C.1.2.1 dX5_findEnds_49 rfl (lv_at hl 0 rfl) ?_
    refine mr_getI C hw kc_5 15 (Ea_N0 hk0) (Ea_T0 hk0) wd_123 dX5_findEnds_50 (by decide) rfl ?_
    refine lv_iconst (v := 4) C.1.1 C.1.2.1 dX5_findEnds_53 (by decide) ?_
    refine lv_iadd C.1.1 C.1.2.1 dX5_findEnds_54 ?_
    refine lv_bipush (v := 8) C.1.1 C.1.2.1 dX5_findEnds_55 (by decide) ?_
    refine lv_aload_n C.1.1 C.1.2.1 dX5_findEnds_57 rfl (lv_at hl 0 rfl) ?_
    refine mr_getI C hw kc_5 16 (Ea_N0 hk0) (Ea_T0 hk0) wd_124 dX5_findEnds_58 (by decide) rfl ?_
    refine lv_imul C.1.1 C.1.2.1 dX5_findEnds_61 ?_
    refine lv_iadd C.1.1 C.1.2.1 dX5_findEnds_62 ?_
    obtain ⟨M2, eM2, hD⟩ := g_let hD
    refine mr_putI C hw kc_5 17 (Ea_N0 hk0) (Ea_T0 hk0) wd_126 dX5_findEnds_63 (by decide) rfl rfl rfl rfl (fun H locs hw => ?_)
    replace hw : mw_W G ad NF TF FF M2 L H locs := by rw [eM2]; exact hw
    exact mr_vret C hr hlocks hw (Option.some.inj hD) dX5_findEnds_66
  have hb45 : ∀ (s1 : Int32) (M : mwM) (L : mwL) (H : Heap) (locs : List Loc) (ls : Array Slot), fX5_findEnds_b45 fu k s1 M L = some (M0, L0) → mw_W G ad NF TF FF M L H locs → lv_has ls 1 [(0, .ref (ad k))] → W p l e ({ frames := 1, cells := 0, slots := 0, locals := 21 }) s m [.ref (ad k)].toArray below meth c H locs 0 0 (MQ below (mw_Qv G ad NF TF FF (mw_eqV M0 L0)) [.ref (ad k)].toArray s 0 0 (mw_fr G)) (F0 m 45 ls [.int s1, .ref (ad k)]) := by
    intro s1 M L H locs ls hD hw hl
    unfold fX5_findEnds_b45 at hD
    obtain ⟨M1, eM1, hD⟩ := g_let hD
    refine mr_putI C hw kc_5 16 (Ea_N0 hk0) (Ea_T0 hk0) wd_124 dX5_findEnds_45 (by decide) rfl rfl rfl rfl (fun H locs hw => ?_)
    replace hw : mw_W G ad NF TF FF M1 L H locs := by rw [eM1]; exact hw
    exact hb48 M1 L _ _ ls hD hw (lv_sub hl [0] rfl)
  unfold DX5_findEnds at hD
  refine lv_aload_n C.1.1 C.1.2.1 dX5_findEnds_0 rfl (lv_at hl 0 rfl) ?_
  refine mr_getI C hw kc_5 13 (Ea_N0 hk0) (Ea_T0 hk0) wd_121 dX5_findEnds_1 (by decide) rfl ?_
  refine lv_iconst (v := 1) C.1.1 C.1.2.1 dX5_findEnds_4 (by decide) ?_
  refine lv_icmp_ne (tgt := 23) C.1.1 C.1.2.1 dX5_findEnds_5 (by decide) (fun c3 => ?_) (fun c3 => ?_)
  · replace hD := g_neg c3 hD
    refine lv_aload_n C.1.1 C.1.2.1 dX5_findEnds_23 rfl (lv_at hl 0 rfl) ?_
    refine lv_aload_n C.1.1 C.1.2.1 dX5_findEnds_24 rfl (lv_at hl 0 rfl) ?_
    refine mr_getI C hw kc_5 11 (Ea_N0 hk0) (Ea_T0 hk0) wd_119 dX5_findEnds_25 (by decide) rfl ?_
    refine lv_iconst (v := 1) C.1.1 C.1.2.1 dX5_findEnds_28 (by decide) ?_
    refine lv_icmp_ne (tgt := 36) C.1.1 C.1.2.1 dX5_findEnds_29 (by decide) (fun c4 => ?_) (fun c4 => ?_)
    · replace hD := g_neg c4 hD
      refine lv_aload_n C.1.1 C.1.2.1 dX5_findEnds_36 rfl (lv_at hl 0 rfl) ?_
      refine mr_getI C hw kc_5 14 (Ea_N0 hk0) (Ea_T0 hk0) wd_122 dX5_findEnds_37 (by decide) rfl ?_
      refine lv_bipush (v := 8) C.1.1 C.1.2.1 dX5_findEnds_40 (by decide) ?_
      refine va_mmin C.1.1 C.1.2.1 (C.1.2.2.1.trans hl.1.symm) C.1.2.2.2.1 (C.1.2.2.2.2 _ wd_1443) (C.1.2.2.2.2 _ wd_1150) (C.1.2.2.2.2 _ wd_30) (C.1.2.2.2.2 _ wd_1151) (Nat.le_of_ble_eq_true rfl) (Nat.le_of_ble_eq_true rfl) (Nat.zero_le _) (Nat.zero_le _) dX5_findEnds_42 ?_
      exact hb45 (if 8 < (M k 14) then 8 else (M k 14)) M L _ _ ls hD hw (lv_sub hl [0] rfl)
    · replace hD := g_pos c4 hD
      refine lv_iconst (v := 0) C.1.1 C.1.2.1 dX5_findEnds_32 (by decide) ?_
      refine lv_goto (tgt := 45) C.1.1 C.1.2.1 dX5_findEnds_33 (by decide) ?_
      exact hb45 0 M L _ _ ls hD hw (lv_sub hl [0] rfl)
  · replace hD := g_pos c3 hD
    refine lv_aload_n C.1.1 C.1.2.1 dX5_findEnds_8 rfl (lv_at hl 0 rfl) ?_
    refine mr_gets C hw0 hw C.2.2.2.1 wd_1441 (fun _ q => q) dX5_findEnds_9 ?_
    refine lv_aload_n C.1.1 C.1.2.1 dX5_findEnds_12 rfl (lv_at hl 0 rfl) ?_
    refine mr_getI C hw kc_5 14 (Ea_N0 hk0) (Ea_T0 hk0) wd_122 dX5_findEnds_13 (by decide) rfl ?_
    obtain ⟨q5, hD⟩ := g_ck hD
    refine mr_tint C hw0 hw C.2.2.2.2.1 q5 rfl dX5_findEnds_16 ?_
    obtain ⟨M6, eM6, hD⟩ := g_let hD
    refine mr_putI C hw kc_5 16 (Ea_N0 hk0) (Ea_T0 hk0) wd_124 dX5_findEnds_17 (by decide) rfl rfl rfl rfl (fun H locs hw => ?_)
    replace hw : mw_W G ad NF TF FF M6 L H locs := by rw [eM6]; exact hw
    refine lv_goto (tgt := 48) C.1.1 C.1.2.1 dX5_findEnds_20 (by decide) ?_
    exact hb48 M6 L _ _ ls hD hw (lv_sub hl [0] rfl)

theorem dX5_hearPlain_0 : decode cX5_hearPlain 0 = .ok (.iload_n 1, 1) := by decide +kernel
theorem dX5_hearPlain_1 : decode cX5_hearPlain 1 = .ok (.aload_n 0, 1) := by decide +kernel
theorem dX5_hearPlain_2 : decode cX5_hearPlain 2 = .ok (.getfield 71, 3) := by decide +kernel
theorem dX5_hearPlain_5 : decode cX5_hearPlain 5 = .ok (.if_icmp .lt 16, 3) := by decide +kernel
theorem dX5_hearPlain_8 : decode cX5_hearPlain 8 = .ok (.aload_n 0, 1) := by decide +kernel
theorem dX5_hearPlain_9 : decode cX5_hearPlain 9 = .ok (.aload_n 0, 1) := by decide +kernel
theorem dX5_hearPlain_10 : decode cX5_hearPlain 10 = .ok (.getfield 74, 3) := by decide +kernel
theorem dX5_hearPlain_13 : decode cX5_hearPlain 13 = .ok (.iconst 1, 1) := by decide +kernel
theorem dX5_hearPlain_14 : decode cX5_hearPlain 14 = .ok (.ishl, 1) := by decide +kernel
theorem dX5_hearPlain_15 : decode cX5_hearPlain 15 = .ok (.iload_n 2, 1) := by decide +kernel
theorem dX5_hearPlain_16 : decode cX5_hearPlain 16 = .ok (.ior, 1) := by decide +kernel
theorem dX5_hearPlain_17 : decode cX5_hearPlain 17 = .ok (.putfield 74, 3) := by decide +kernel
theorem dX5_hearPlain_20 : decode cX5_hearPlain 20 = .ok (.return_, 1) := by decide +kernel
theorem dX5_hearPlain_21 : decode cX5_hearPlain 21 = .ok (.aload_n 0, 1) := by decide +kernel
theorem dX5_hearPlain_22 : decode cX5_hearPlain 22 = .ok (.aload_n 0, 1) := by decide +kernel
theorem dX5_hearPlain_23 : decode cX5_hearPlain 23 = .ok (.getfield 36, 3) := by decide +kernel
theorem dX5_hearPlain_26 : decode cX5_hearPlain 26 = .ok (.iload_n 2, 1) := by decide +kernel
theorem dX5_hearPlain_27 : decode cX5_hearPlain 27 = .ok (.bipush 15, 2) := by decide +kernel
theorem dX5_hearPlain_29 : decode cX5_hearPlain 29 = .ok (.sipush 17817, 3) := by decide +kernel
theorem dX5_hearPlain_32 : decode cX5_hearPlain 32 = .ok (.invokestatic 32, 3) := by decide +kernel
theorem dX5_hearPlain_35 : decode cX5_hearPlain 35 = .ok (.putfield 36, 3) := by decide +kernel
theorem dX5_hearPlain_38 : decode cX5_hearPlain 38 = .ok (.aload_n 0, 1) := by decide +kernel
theorem dX5_hearPlain_39 : decode cX5_hearPlain 39 = .ok (.aload_n 0, 1) := by decide +kernel
theorem dX5_hearPlain_40 : decode cX5_hearPlain 40 = .ok (.getfield 41, 3) := by decide +kernel
theorem dX5_hearPlain_43 : decode cX5_hearPlain 43 = .ok (.iload_n 2, 1) := by decide +kernel
theorem dX5_hearPlain_44 : decode cX5_hearPlain 44 = .ok (.bipush 17, 2) := by decide +kernel
theorem dX5_hearPlain_46 : decode cX5_hearPlain 46 = .ok (.ldc 40, 2) := by decide +kernel
theorem dX5_hearPlain_48 : decode cX5_hearPlain 48 = .ok (.invokestatic 32, 3) := by decide +kernel
theorem dX5_hearPlain_51 : decode cX5_hearPlain 51 = .ok (.putfield 41, 3) := by decide +kernel
theorem dX5_hearPlain_54 : decode cX5_hearPlain 54 = .ok (.aload_n 0, 1) := by decide +kernel
theorem dX5_hearPlain_55 : decode cX5_hearPlain 55 = .ok (.aload_n 0, 1) := by decide +kernel
theorem dX5_hearPlain_56 : decode cX5_hearPlain 56 = .ok (.getfield 46, 3) := by decide +kernel
theorem dX5_hearPlain_59 : decode cX5_hearPlain 59 = .ok (.iload_n 2, 1) := by decide +kernel
theorem dX5_hearPlain_60 : decode cX5_hearPlain 60 = .ok (.bipush 21, 2) := by decide +kernel
theorem dX5_hearPlain_62 : decode cX5_hearPlain 62 = .ok (.ldc 45, 2) := by decide +kernel
theorem dX5_hearPlain_64 : decode cX5_hearPlain 64 = .ok (.invokestatic 32, 3) := by decide +kernel
theorem dX5_hearPlain_67 : decode cX5_hearPlain 67 = .ok (.putfield 46, 3) := by decide +kernel
theorem dX5_hearPlain_70 : decode cX5_hearPlain 70 = .ok (.iload_n 1, 1) := by decide +kernel
theorem dX5_hearPlain_71 : decode cX5_hearPlain 71 = .ok (.aload_n 0, 1) := by decide +kernel
theorem dX5_hearPlain_72 : decode cX5_hearPlain 72 = .ok (.getfield 65, 3) := by decide +kernel
theorem dX5_hearPlain_75 : decode cX5_hearPlain 75 = .ok (.if_icmp .ge 12, 3) := by decide +kernel
theorem dX5_hearPlain_78 : decode cX5_hearPlain 78 = .ok (.aload_n 0, 1) := by decide +kernel
theorem dX5_hearPlain_79 : decode cX5_hearPlain 79 = .ok (.iload_n 1, 1) := by decide +kernel
theorem dX5_hearPlain_80 : decode cX5_hearPlain 80 = .ok (.iload_n 2, 1) := by decide +kernel
theorem dX5_hearPlain_81 : decode cX5_hearPlain 81 = .ok (.invokevirtual 102, 3) := by decide +kernel
theorem dX5_hearPlain_84 : decode cX5_hearPlain 84 = .ok (.goto 74, 3) := by decide +kernel
theorem dX5_hearPlain_87 : decode cX5_hearPlain 87 = .ok (.iload_n 1, 1) := by decide +kernel
theorem dX5_hearPlain_88 : decode cX5_hearPlain 88 = .ok (.aload_n 0, 1) := by decide +kernel
theorem dX5_hearPlain_89 : decode cX5_hearPlain 89 = .ok (.getfield 65, 3) := by decide +kernel
theorem dX5_hearPlain_92 : decode cX5_hearPlain 92 = .ok (.iconst 4, 1) := by decide +kernel
theorem dX5_hearPlain_93 : decode cX5_hearPlain 93 = .ok (.iadd, 1) := by decide +kernel
theorem dX5_hearPlain_94 : decode cX5_hearPlain 94 = .ok (.if_icmp .ge 32, 3) := by decide +kernel
theorem dX5_hearPlain_97 : decode cX5_hearPlain 97 = .ok (.aload_n 0, 1) := by decide +kernel
theorem dX5_hearPlain_98 : decode cX5_hearPlain 98 = .ok (.aload_n 0, 1) := by decide +kernel
theorem dX5_hearPlain_99 : decode cX5_hearPlain 99 = .ok (.getfield 61, 3) := by decide +kernel
theorem dX5_hearPlain_102 : decode cX5_hearPlain 102 = .ok (.iconst 1, 1) := by decide +kernel
theorem dX5_hearPlain_103 : decode cX5_hearPlain 103 = .ok (.ishl, 1) := by decide +kernel
theorem dX5_hearPlain_104 : decode cX5_hearPlain 104 = .ok (.iload_n 2, 1) := by decide +kernel
theorem dX5_hearPlain_105 : decode cX5_hearPlain 105 = .ok (.ior, 1) := by decide +kernel
theorem dX5_hearPlain_106 : decode cX5_hearPlain 106 = .ok (.putfield 61, 3) := by decide +kernel
theorem dX5_hearPlain_109 : decode cX5_hearPlain 109 = .ok (.iload_n 1, 1) := by decide +kernel
theorem dX5_hearPlain_110 : decode cX5_hearPlain 110 = .ok (.aload_n 0, 1) := by decide +kernel
theorem dX5_hearPlain_111 : decode cX5_hearPlain 111 = .ok (.getfield 65, 3) := by decide +kernel
theorem dX5_hearPlain_114 : decode cX5_hearPlain 114 = .ok (.iconst 3, 1) := by decide +kernel
theorem dX5_hearPlain_115 : decode cX5_hearPlain 115 = .ok (.iadd, 1) := by decide +kernel
theorem dX5_hearPlain_116 : decode cX5_hearPlain 116 = .ok (.if_icmp .ne 42, 3) := by decide +kernel
theorem dX5_hearPlain_119 : decode cX5_hearPlain 119 = .ok (.aload_n 0, 1) := by decide +kernel
theorem dX5_hearPlain_120 : decode cX5_hearPlain 120 = .ok (.invokevirtual 105, 3) := by decide +kernel
theorem dX5_hearPlain_123 : decode cX5_hearPlain 123 = .ok (.goto 35, 3) := by decide +kernel
theorem dX5_hearPlain_126 : decode cX5_hearPlain 126 = .ok (.iload_n 1, 1) := by decide +kernel
theorem dX5_hearPlain_127 : decode cX5_hearPlain 127 = .ok (.aload_n 0, 1) := by decide +kernel
theorem dX5_hearPlain_128 : decode cX5_hearPlain 128 = .ok (.getfield 65, 3) := by decide +kernel
theorem dX5_hearPlain_131 : decode cX5_hearPlain 131 = .ok (.isub, 1) := by decide +kernel
theorem dX5_hearPlain_132 : decode cX5_hearPlain 132 = .ok (.iconst 4, 1) := by decide +kernel
theorem dX5_hearPlain_133 : decode cX5_hearPlain 133 = .ok (.isub, 1) := by decide +kernel
theorem dX5_hearPlain_134 : decode cX5_hearPlain 134 = .ok (.bipush 8, 2) := by decide +kernel
theorem dX5_hearPlain_136 : decode cX5_hearPlain 136 = .ok (.idiv, 1) := by decide +kernel
theorem dX5_hearPlain_137 : decode cX5_hearPlain 137 = .ok (.istore_n 3, 1) := by decide +kernel
theorem dX5_hearPlain_138 : decode cX5_hearPlain 138 = .ok (.aload_n 0, 1) := by decide +kernel
theorem dX5_hearPlain_139 : decode cX5_hearPlain 139 = .ok (.getfield 7, 3) := by decide +kernel
theorem dX5_hearPlain_142 : decode cX5_hearPlain 142 = .ok (.iload_n 3, 1) := by decide +kernel
theorem dX5_hearPlain_143 : decode cX5_hearPlain 143 = .ok (.aload_n 0, 1) := by decide +kernel
theorem dX5_hearPlain_144 : decode cX5_hearPlain 144 = .ok (.getfield 7, 3) := by decide +kernel
theorem dX5_hearPlain_147 : decode cX5_hearPlain 147 = .ok (.iload_n 3, 1) := by decide +kernel
theorem dX5_hearPlain_148 : decode cX5_hearPlain 148 = .ok (.iaload, 1) := by decide +kernel
theorem dX5_hearPlain_149 : decode cX5_hearPlain 149 = .ok (.iconst 1, 1) := by decide +kernel
theorem dX5_hearPlain_150 : decode cX5_hearPlain 150 = .ok (.ishl, 1) := by decide +kernel
theorem dX5_hearPlain_151 : decode cX5_hearPlain 151 = .ok (.iload_n 2, 1) := by decide +kernel
theorem dX5_hearPlain_152 : decode cX5_hearPlain 152 = .ok (.ior, 1) := by decide +kernel
theorem dX5_hearPlain_153 : decode cX5_hearPlain 153 = .ok (.sipush 255, 3) := by decide +kernel
theorem dX5_hearPlain_156 : decode cX5_hearPlain 156 = .ok (.iand, 1) := by decide +kernel
theorem dX5_hearPlain_157 : decode cX5_hearPlain 157 = .ok (.iastore, 1) := by decide +kernel
theorem dX5_hearPlain_158 : decode cX5_hearPlain 158 = .ok (.return_, 1) := by decide +kernel
theorem cwX5_hearPlain : mw_cwV yX5_hearPlain cX5_hearPlain 4 (none) 2 := ⟨⟨wd_6, wd_1432, by decide +kernel⟩, wd_1431, sl_85⟩
set_option maxHeartbeats 4000000 in
set_option maxRecDepth 100000 in
theorem tX5_hearPlain (l : Launch) (G : mwG) (ad : Nat → Nat) (fu : Nat) (k : Nat) (a1 : Int32) (a2 : Int32) (M : mwM) (L : mwL) {M0 : mwM} {L0 : mwL} (hD : DX5_hearPlain fu k a1 a2 M L = some (M0, L0)) (hk0 : isEa k) : Met l yX5_hearPlain (Cond.code yX5_hearPlain cX5_hearPlain 4 (none) :: GT) ({ frames := 2, cells := 0, slots := 0, locals := 41 }) (mw_Pre G ad NF TF FF M L [.ref (ad k), .int a1, .int a2]) (mw_Qv G ad NF TF FF (mw_eqV M0 L0)) 0 0 (mw_fr G) := by
  refine mw_enter (by decide) (Nat.le_of_ble_eq_true rfl) ?_
  intro p e s m below meth c ls C hr hlocks hnm hw hl
  have hl : lv_has ls 4 [(0, .ref (ad k)), (1, .int a1), (2, .int a2)] := hl
  have hb158 : ∀ (M : mwM) (L : mwL) (H : Heap) (locs : List Loc) (ls : Array Slot), fX5_hearPlain_b158 fu k a1 a2 M L = some (M0, L0) → mw_W G ad NF TF FF M L H locs → lv_has ls 4 [] → W p l e ({ frames := 2, cells := 0, slots := 0, locals := 41 }) s m [.ref (ad k), .int a1, .int a2].toArray below meth c H locs 0 0 (MQ below (mw_Qv G ad NF TF FF (mw_eqV M0 L0)) [.ref (ad k), .int a1, .int a2].toArray s 0 0 (mw_fr G)) (F0 m 158 ls []) := by
    intro M L H locs ls hD hw hl
    unfold fX5_hearPlain_b158 at hD
    exact mr_vret C hr hlocks hw (Option.some.inj hD) dX5_hearPlain_158
  unfold DX5_hearPlain at hD
  refine lv_iload_n C.1.1 C.1.2.1 dX5_hearPlain_0 rfl (lv_at hl 1 rfl) ?_
  refine lv_aload_n C.1.1 C.1.2.1 dX5_hearPlain_1 rfl (lv_at hl 0 rfl) ?_
  refine mr_getI C hw kc_5 17 (Ea_N0 hk0) (Ea_T0 hk0) wd_126 dX5_hearPlain_2 (by decide) rfl ?_
  refine lv_icmp_lt (tgt := 21) C.1.1 C.1.2.1 dX5_hearPlain_5 (by decide) (fun c1 => ?_) (fun c1 => ?_)
  · replace hD := g_pos c1 hD
    refine lv_aload_n C.1.1 C.1.2.1 dX5_hearPlain_21 rfl (lv_at hl 0 rfl) ?_
    refine lv_aload_n C.1.1 C.1.2.1 dX5_hearPlain_22 rfl (lv_at hl 0 rfl) ?_
    refine mr_getI C hw kc_5 7 (Ea_N0 hk0) (Ea_T0 hk0) wd_114 dX5_hearPlain_23 (by decide) rfl ?_
    refine lv_iload_n C.1.1 C.1.2.1 dX5_hearPlain_26 rfl (lv_at hl 2 rfl) ?_
    refine lv_bipush (v := 15) C.1.1 C.1.2.1 dX5_hearPlain_27 (by decide) ?_
    refine lv_sipush (v := 17817) C.1.1 C.1.2.1 dX5_hearPlain_29 (by decide) ?_
    obtain ⟨r4, M2, L3, h1, hD⟩ := g_b3 hD
    refine md_csI (As := [.int (M k 7), .int a2, .int 15, .int 17817]) (rest := [.ref (ad k)]) C hw (tX5_nextCheck l G ad fu (M k 7) a2 15 17817 M L h1) wd_1385 cwX5_nextCheck ⟨Nat.le_of_ble_eq_true rfl, Nat.le_of_ble_eq_true rfl⟩ rfl hl.1 (Nat.le_of_ble_eq_true rfl) dX5_hearPlain_32 rfl rfl ⟨Nat.zero_le _, Nat.zero_le _⟩ rfl (fun H locs hw => ?_)
    obtain ⟨M5, eM5, hD⟩ := g_let hD
    refine mr_putI C hw kc_5 7 (Ea_N0 hk0) (Ea_T0 hk0) wd_114 dX5_hearPlain_35 (by decide) rfl rfl rfl rfl (fun H locs hw => ?_)
    replace hw : mw_W G ad NF TF FF M5 L3 H locs := by rw [eM5]; exact hw
    refine lv_aload_n C.1.1 C.1.2.1 dX5_hearPlain_38 rfl (lv_at hl 0 rfl) ?_
    refine lv_aload_n C.1.1 C.1.2.1 dX5_hearPlain_39 rfl (lv_at hl 0 rfl) ?_
    refine mr_getI C hw kc_5 8 (Ea_N0 hk0) (Ea_T0 hk0) wd_115 dX5_hearPlain_40 (by decide) rfl ?_
    refine lv_iload_n C.1.1 C.1.2.1 dX5_hearPlain_43 rfl (lv_at hl 2 rfl) ?_
    refine lv_bipush (v := 17) C.1.1 C.1.2.1 dX5_hearPlain_44 (by decide) ?_
    refine lv_ldc (v := 92251) C.1.1 C.1.2.1 C.1.2.2.2.1 (C.1.2.2.2.2 _ wd_1387) dX5_hearPlain_46 ?_
    obtain ⟨r8, M6, L7, h1, hD⟩ := g_b3 hD
    refine md_csI (As := [.int (M5 k 8), .int a2, .int 17, .int 92251]) (rest := [.ref (ad k)]) C hw (tX5_nextCheck l G ad fu (M5 k 8) a2 17 92251 M5 L3 h1) wd_1385 cwX5_nextCheck ⟨Nat.le_of_ble_eq_true rfl, Nat.le_of_ble_eq_true rfl⟩ rfl hl.1 (Nat.le_of_ble_eq_true rfl) dX5_hearPlain_48 rfl rfl ⟨Nat.zero_le _, Nat.zero_le _⟩ rfl (fun H locs hw => ?_)
    obtain ⟨M9, eM9, hD⟩ := g_let hD
    refine mr_putI C hw kc_5 8 (Ea_N0 hk0) (Ea_T0 hk0) wd_115 dX5_hearPlain_51 (by decide) rfl rfl rfl rfl (fun H locs hw => ?_)
    replace hw : mw_W G ad NF TF FF M9 L7 H locs := by rw [eM9]; exact hw
    refine lv_aload_n C.1.1 C.1.2.1 dX5_hearPlain_54 rfl (lv_at hl 0 rfl) ?_
    refine lv_aload_n C.1.1 C.1.2.1 dX5_hearPlain_55 rfl (lv_at hl 0 rfl) ?_
    refine mr_getI C hw kc_5 9 (Ea_N0 hk0) (Ea_T0 hk0) wd_116 dX5_hearPlain_56 (by decide) rfl ?_
    refine lv_iload_n C.1.1 C.1.2.1 dX5_hearPlain_59 rfl (lv_at hl 2 rfl) ?_
    refine lv_bipush (v := 21) C.1.1 C.1.2.1 dX5_hearPlain_60 (by decide) ?_
    refine lv_ldc (v := 1058969) C.1.1 C.1.2.1 C.1.2.2.2.1 (C.1.2.2.2.2 _ wd_1389) dX5_hearPlain_62 ?_
    obtain ⟨r12, M10, L11, h1, hD⟩ := g_b3 hD
    refine md_csI (As := [.int (M9 k 9), .int a2, .int 21, .int 1058969]) (rest := [.ref (ad k)]) C hw (tX5_nextCheck l G ad fu (M9 k 9) a2 21 1058969 M9 L7 h1) wd_1385 cwX5_nextCheck ⟨Nat.le_of_ble_eq_true rfl, Nat.le_of_ble_eq_true rfl⟩ rfl hl.1 (Nat.le_of_ble_eq_true rfl) dX5_hearPlain_64 rfl rfl ⟨Nat.zero_le _, Nat.zero_le _⟩ rfl (fun H locs hw => ?_)
    obtain ⟨M13, eM13, hD⟩ := g_let hD
    refine mr_putI C hw kc_5 9 (Ea_N0 hk0) (Ea_T0 hk0) wd_116 dX5_hearPlain_67 (by decide) rfl rfl rfl rfl (fun H locs hw => ?_)
    replace hw : mw_W G ad NF TF FF M13 L11 H locs := by rw [eM13]; exact hw
    refine lv_iload_n C.1.1 C.1.2.1 dX5_hearPlain_70 rfl (lv_at hl 1 rfl) ?_
    refine lv_aload_n C.1.1 C.1.2.1 dX5_hearPlain_71 rfl (lv_at hl 0 rfl) ?_
    refine mr_getI C hw kc_5 15 (Ea_N0 hk0) (Ea_T0 hk0) wd_123 dX5_hearPlain_72 (by decide) rfl ?_
    refine lv_icmp_ge (tgt := 87) C.1.1 C.1.2.1 dX5_hearPlain_75 (by decide) (fun c14 => ?_) (fun c14 => ?_)
    · replace hD := g_pos c14 hD
      refine lv_iload_n C.1.1 C.1.2.1 dX5_hearPlain_87 rfl (lv_at hl 1 rfl) ?_
      refine lv_aload_n C.1.1 C.1.2.1 dX5_hearPlain_88 rfl (lv_at hl 0 rfl) ?_
      refine mr_getI C hw kc_5 15 (Ea_N0 hk0) (Ea_T0 hk0) wd_123 dX5_hearPlain_89 (by decide) rfl ?_
      refine lv_iconst (v := 4) C.1.1 C.1.2.1 dX5_hearPlain_92 (by decide) ?_
      refine lv_iadd C.1.1 C.1.2.1 dX5_hearPlain_93 ?_
      refine lv_icmp_ge (tgt := 126) C.1.1 C.1.2.1 dX5_hearPlain_94 (by decide) (fun c15 => ?_) (fun c15 => ?_)
      · replace hD := g_pos c15 hD
        refine lv_iload_n C.1.1 C.1.2.1 dX5_hearPlain_126 rfl (lv_at hl 1 rfl) ?_
        refine lv_aload_n C.1.1 C.1.2.1 dX5_hearPlain_127 rfl (lv_at hl 0 rfl) ?_
        refine mr_getI C hw kc_5 15 (Ea_N0 hk0) (Ea_T0 hk0) wd_123 dX5_hearPlain_128 (by decide) rfl ?_
        refine lv_isub C.1.1 C.1.2.1 dX5_hearPlain_131 ?_
        refine lv_iconst (v := 4) C.1.1 C.1.2.1 dX5_hearPlain_132 (by decide) ?_
        refine lv_isub C.1.1 C.1.2.1 dX5_hearPlain_133 ?_
        refine lv_bipush (v := 8) C.1.1 C.1.2.1 dX5_hearPlain_134 (by decide) ?_
        refine lv_idiv C.1.1 C.1.2.1 dX5_hearPlain_136 (by decide) ?_
        obtain ⟨x17, ex17, hD⟩ := g_let hD
        refine W.eq (g2 := F0 m 137 ls (.int x17 :: [])) (by rw [ex17]) ?_
        refine lv_istore_n (lv' := [(3, .int x17), (0, .ref (ad k)), (1, .int a1), (2, .int a2)]) C.1.1 C.1.2.1 dX5_hearPlain_137 rfl hl (by decide) rfl (fun ls hl => ?_)
        refine lv_aload_n C.1.1 C.1.2.1 dX5_hearPlain_138 rfl (lv_at hl 1 rfl) ?_
        refine mr_getR C hw kc_5 0 (Ea_N0 hk0) (Ea_T0 hk0) (Ea_F0_0 hk0) wd_106 dX5_hearPlain_139 (by decide) rfl ?_
        refine lv_iload_n C.1.1 C.1.2.1 dX5_hearPlain_142 rfl (lv_at hl 0 rfl) ?_
        refine lv_aload_n C.1.1 C.1.2.1 dX5_hearPlain_143 rfl (lv_at hl 1 rfl) ?_
        refine mr_getR C hw kc_5 0 (Ea_N0 hk0) (Ea_T0 hk0) (Ea_F0_0 hk0) wd_106 dX5_hearPlain_144 (by decide) rfl ?_
        refine lv_iload_n C.1.1 C.1.2.1 dX5_hearPlain_147 rfl (lv_at hl 0 rfl) ?_
        obtain ⟨q18, hD⟩ := g_ck hD
        refine mr_iald C hw (Ea_N1 hk0) (Ea_T1 hk0) q18 dX5_hearPlain_148 ?_
        refine lv_iconst (v := 1) C.1.1 C.1.2.1 dX5_hearPlain_149 (by decide) ?_
        refine lv_ishl C.1.1 C.1.2.1 dX5_hearPlain_150 ?_
        refine lv_iload_n C.1.1 C.1.2.1 dX5_hearPlain_151 rfl (lv_at hl 3 rfl) ?_
        refine lv_ior C.1.1 C.1.2.1 dX5_hearPlain_152 ?_
        refine lv_sipush (v := 255) C.1.1 C.1.2.1 dX5_hearPlain_153 (by decide) ?_
        refine lv_iand C.1.1 C.1.2.1 dX5_hearPlain_156 ?_
        obtain ⟨q19, hD⟩ := g_ck hD
        obtain ⟨M20, eM20, hD⟩ := g_let hD
        refine mr_iast C hw (Ea_N1 hk0) (Ea_T1 hk0) q19 dX5_hearPlain_157 (fun H locs hw => ?_)
        replace hw : mw_W G ad NF TF FF M20 L11 H locs := by rw [eM20]; exact hw
        exact hb158 M20 L11 _ _ ls hD hw (lv_sub hl [] rfl)
      · replace hD := g_neg c15 hD
        refine lv_aload_n C.1.1 C.1.2.1 dX5_hearPlain_97 rfl (lv_at hl 0 rfl) ?_
        refine lv_aload_n C.1.1 C.1.2.1 dX5_hearPlain_98 rfl (lv_at hl 0 rfl) ?_
        refine mr_getI C hw kc_5 14 (Ea_N0 hk0) (Ea_T0 hk0) wd_122 dX5_hearPlain_99 (by decide) rfl ?_
        refine lv_iconst (v := 1) C.1.1 C.1.2.1 dX5_hearPlain_102 (by decide) ?_
        refine lv_ishl C.1.1 C.1.2.1 dX5_hearPlain_103 ?_
        refine lv_iload_n C.1.1 C.1.2.1 dX5_hearPlain_104 rfl (lv_at hl 2 rfl) ?_
        refine lv_ior C.1.1 C.1.2.1 dX5_hearPlain_105 ?_
        obtain ⟨M21, eM21, hD⟩ := g_let hD
        refine mr_putI C hw kc_5 14 (Ea_N0 hk0) (Ea_T0 hk0) wd_122 dX5_hearPlain_106 (by decide) rfl rfl rfl rfl (fun H locs hw => ?_)
        replace hw : mw_W G ad NF TF FF M21 L11 H locs := by rw [eM21]; exact hw
        refine lv_iload_n C.1.1 C.1.2.1 dX5_hearPlain_109 rfl (lv_at hl 1 rfl) ?_
        refine lv_aload_n C.1.1 C.1.2.1 dX5_hearPlain_110 rfl (lv_at hl 0 rfl) ?_
        refine mr_getI C hw kc_5 15 (Ea_N0 hk0) (Ea_T0 hk0) wd_123 dX5_hearPlain_111 (by decide) rfl ?_
        refine lv_iconst (v := 3) C.1.1 C.1.2.1 dX5_hearPlain_114 (by decide) ?_
        refine lv_iadd C.1.1 C.1.2.1 dX5_hearPlain_115 ?_
        refine lv_icmp_ne (tgt := 158) C.1.1 C.1.2.1 dX5_hearPlain_116 (by decide) (fun c22 => ?_) (fun c22 => ?_)
        · replace hD := g_neg c22 hD
          exact hb158 M21 L11 _ _ ls hD hw (lv_sub hl [] rfl)
        · replace hD := g_pos c22 hD
          refine lv_aload_n C.1.1 C.1.2.1 dX5_hearPlain_119 rfl (lv_at hl 0 rfl) ?_
          obtain ⟨M23, L24, h1, hD⟩ := g_b2 hD
          refine md_cvV (As := []) (rest := []) C hw (tX5_findEnds l G ad fu k M21 L11 h1 hk0) kc_5 (Ea_N0 hk0) (Ea_T0 hk0) wd_1437 cwX5_findEnds ⟨Nat.le_of_ble_eq_true rfl, Nat.le_of_ble_eq_true rfl⟩ rfl hl.1 (Nat.le_of_ble_eq_true rfl) dX5_hearPlain_120 rfl rfl ⟨Nat.zero_le _, Nat.zero_le _⟩ rfl (fun H locs hw => ?_)
          refine lv_goto (tgt := 158) C.1.1 C.1.2.1 dX5_hearPlain_123 (by decide) ?_
          exact hb158 M23 L24 _ _ ls hD hw (lv_sub hl [] rfl)
    · replace hD := g_neg c14 hD
      refine lv_aload_n C.1.1 C.1.2.1 dX5_hearPlain_78 rfl (lv_at hl 0 rfl) ?_
      refine lv_iload_n C.1.1 C.1.2.1 dX5_hearPlain_79 rfl (lv_at hl 1 rfl) ?_
      refine lv_iload_n C.1.1 C.1.2.1 dX5_hearPlain_80 rfl (lv_at hl 2 rfl) ?_
      obtain ⟨M25, L26, h1, hD⟩ := g_b2 hD
      refine md_cvV (As := [.int a1, .int a2]) (rest := []) C hw (tX5_hearHead l G ad fu k a1 a2 M13 L11 h1 hk0) kc_5 (Ea_N0 hk0) (Ea_T0 hk0) wd_1433 cwX5_hearHead ⟨Nat.le_of_ble_eq_true rfl, Nat.le_of_ble_eq_true rfl⟩ rfl hl.1 (Nat.le_of_ble_eq_true rfl) dX5_hearPlain_81 rfl rfl ⟨Nat.zero_le _, Nat.zero_le _⟩ rfl (fun H locs hw => ?_)
      refine lv_goto (tgt := 158) C.1.1 C.1.2.1 dX5_hearPlain_84 (by decide) ?_
      exact hb158 M25 L26 _ _ ls hD hw (lv_sub hl [] rfl)
  · replace hD := g_neg c1 hD
    refine lv_aload_n C.1.1 C.1.2.1 dX5_hearPlain_8 rfl (lv_at hl 0 rfl) ?_
    refine lv_aload_n C.1.1 C.1.2.1 dX5_hearPlain_9 rfl (lv_at hl 0 rfl) ?_
    refine mr_getI C hw kc_5 18 (Ea_N0 hk0) (Ea_T0 hk0) wd_127 dX5_hearPlain_10 (by decide) rfl ?_
    refine lv_iconst (v := 1) C.1.1 C.1.2.1 dX5_hearPlain_13 (by decide) ?_
    refine lv_ishl C.1.1 C.1.2.1 dX5_hearPlain_14 ?_
    refine lv_iload_n C.1.1 C.1.2.1 dX5_hearPlain_15 rfl (lv_at hl 2 rfl) ?_
    refine lv_ior C.1.1 C.1.2.1 dX5_hearPlain_16 ?_
    obtain ⟨M27, eM27, hD⟩ := g_let hD
    refine mr_putI C hw kc_5 18 (Ea_N0 hk0) (Ea_T0 hk0) wd_127 dX5_hearPlain_17 (by decide) rfl rfl rfl rfl (fun H locs hw => ?_)
    replace hw : mw_W G ad NF TF FF M27 L H locs := by rw [eM27]; exact hw
    exact mr_vret C hr hlocks hw (Option.some.inj hD) dX5_hearPlain_20

theorem dX5_hear_0 : decode cX5_hear 0 = .ok (.aload_n 0, 1) := by decide +kernel
theorem dX5_hear_1 : decode cX5_hear 1 = .ok (.getfield 13, 3) := by decide +kernel
theorem dX5_hear_4 : decode cX5_hear 4 = .ok (.iconst 1, 1) := by decide +kernel
theorem dX5_hear_5 : decode cX5_hear 5 = .ok (.if_icmp .ne 9, 3) := by decide +kernel
theorem dX5_hear_8 : decode cX5_hear 8 = .ok (.aload_n 0, 1) := by decide +kernel
theorem dX5_hear_9 : decode cX5_hear 9 = .ok (.iload_n 1, 1) := by decide +kernel
theorem dX5_hear_10 : decode cX5_hear 10 = .ok (.invokevirtual 84, 3) := by decide +kernel
theorem dX5_hear_13 : decode cX5_hear 13 = .ok (.ireturn, 1) := by decide +kernel
theorem dX5_hear_14 : decode cX5_hear 14 = .ok (.aload_n 0, 1) := by decide +kernel
theorem dX5_hear_15 : decode cX5_hear 15 = .ok (.getfield 13, 3) := by decide +kernel
theorem dX5_hear_18 : decode cX5_hear 18 = .ok (.iconst 2, 1) := by decide +kernel
theorem dX5_hear_19 : decode cX5_hear 19 = .ok (.if_icmp .ne 9, 3) := by decide +kernel
theorem dX5_hear_22 : decode cX5_hear 22 = .ok (.aload_n 0, 1) := by decide +kernel
theorem dX5_hear_23 : decode cX5_hear 23 = .ok (.iload_n 1, 1) := by decide +kernel
theorem dX5_hear_24 : decode cX5_hear 24 = .ok (.invokevirtual 88, 3) := by decide +kernel
theorem dX5_hear_27 : decode cX5_hear 27 = .ok (.ireturn, 1) := by decide +kernel
theorem dX5_hear_28 : decode cX5_hear 28 = .ok (.aload_n 0, 1) := by decide +kernel
theorem dX5_hear_29 : decode cX5_hear 29 = .ok (.getfield 20, 3) := by decide +kernel
theorem dX5_hear_32 : decode cX5_hear 32 = .ok (.iconst 5, 1) := by decide +kernel
theorem dX5_hear_33 : decode cX5_hear 33 = .ok (.if_icmp .ne 9, 3) := by decide +kernel
theorem dX5_hear_36 : decode cX5_hear 36 = .ok (.aload_n 0, 1) := by decide +kernel
theorem dX5_hear_37 : decode cX5_hear 37 = .ok (.iload_n 1, 1) := by decide +kernel
theorem dX5_hear_38 : decode cX5_hear 38 = .ok (.invokevirtual 91, 3) := by decide +kernel
theorem dX5_hear_41 : decode cX5_hear 41 = .ok (.ireturn, 1) := by decide +kernel
theorem dX5_hear_42 : decode cX5_hear 42 = .ok (.aload_n 0, 1) := by decide +kernel
theorem dX5_hear_43 : decode cX5_hear 43 = .ok (.iload_n 1, 1) := by decide +kernel
theorem dX5_hear_44 : decode cX5_hear 44 = .ok (.aload_n 0, 1) := by decide +kernel
theorem dX5_hear_45 : decode cX5_hear 45 = .ok (.getfield 17, 3) := by decide +kernel
theorem dX5_hear_48 : decode cX5_hear 48 = .ok (.if_icmp .ne 12, 3) := by decide +kernel
theorem dX5_hear_51 : decode cX5_hear 51 = .ok (.aload_n 0, 1) := by decide +kernel
theorem dX5_hear_52 : decode cX5_hear 52 = .ok (.getfield 20, 3) := by decide +kernel
theorem dX5_hear_55 : decode cX5_hear 55 = .ok (.iconst 1, 1) := by decide +kernel
theorem dX5_hear_56 : decode cX5_hear 56 = .ok (.iadd, 1) := by decide +kernel
theorem dX5_hear_57 : decode cX5_hear 57 = .ok (.goto 4, 3) := by decide +kernel
theorem dX5_hear_60 : decode cX5_hear 60 = .ok (.iconst 1, 1) := by decide +kernel
theorem dX5_hear_61 : decode cX5_hear 61 = .ok (.putfield 20, 3) := by decide +kernel
theorem dX5_hear_64 : decode cX5_hear 64 = .ok (.aload_n 0, 1) := by decide +kernel
theorem dX5_hear_65 : decode cX5_hear 65 = .ok (.iload_n 1, 1) := by decide +kernel
theorem dX5_hear_66 : decode cX5_hear 66 = .ok (.putfield 17, 3) := by decide +kernel
theorem dX5_hear_69 : decode cX5_hear 69 = .ok (.aload_n 0, 1) := by decide +kernel
theorem dX5_hear_70 : decode cX5_hear 70 = .ok (.getfield 26, 3) := by decide +kernel
theorem dX5_hear_73 : decode cX5_hear 73 = .ok (.istore_n 2, 1) := by decide +kernel
theorem dX5_hear_74 : decode cX5_hear 74 = .ok (.aload_n 0, 1) := by decide +kernel
theorem dX5_hear_75 : decode cX5_hear 75 = .ok (.dup, 1) := by decide +kernel
theorem dX5_hear_76 : decode cX5_hear 76 = .ok (.getfield 26, 3) := by decide +kernel
theorem dX5_hear_79 : decode cX5_hear 79 = .ok (.iconst 1, 1) := by decide +kernel
theorem dX5_hear_80 : decode cX5_hear 80 = .ok (.iadd, 1) := by decide +kernel
theorem dX5_hear_81 : decode cX5_hear 81 = .ok (.putfield 26, 3) := by decide +kernel
theorem dX5_hear_84 : decode cX5_hear 84 = .ok (.aload_n 0, 1) := by decide +kernel
theorem dX5_hear_85 : decode cX5_hear 85 = .ok (.iload_n 2, 1) := by decide +kernel
theorem dX5_hear_86 : decode cX5_hear 86 = .ok (.iload_n 1, 1) := by decide +kernel
theorem dX5_hear_87 : decode cX5_hear 87 = .ok (.invokevirtual 94, 3) := by decide +kernel
theorem dX5_hear_90 : decode cX5_hear 90 = .ok (.iload_n 1, 1) := by decide +kernel
theorem dX5_hear_91 : decode cX5_hear 91 = .ok (.iconst 1, 1) := by decide +kernel
theorem dX5_hear_92 : decode cX5_hear 92 = .ok (.if_icmp .ne 32, 3) := by decide +kernel
theorem dX5_hear_95 : decode cX5_hear 95 = .ok (.aload_n 0, 1) := by decide +kernel
theorem dX5_hear_96 : decode cX5_hear 96 = .ok (.getfield 58, 3) := by decide +kernel
theorem dX5_hear_99 : decode cX5_hear 99 = .ok (.iconst 1, 1) := by decide +kernel
theorem dX5_hear_100 : decode cX5_hear 100 = .ok (.if_icmp .ne 24, 3) := by decide +kernel
theorem dX5_hear_103 : decode cX5_hear 103 = .ok (.iload_n 2, 1) := by decide +kernel
theorem dX5_hear_104 : decode cX5_hear 104 = .ok (.aload_n 0, 1) := by decide +kernel
theorem dX5_hear_105 : decode cX5_hear 105 = .ok (.getfield 55, 3) := by decide +kernel
theorem dX5_hear_108 : decode cX5_hear 108 = .ok (.iconst 1, 1) := by decide +kernel
theorem dX5_hear_109 : decode cX5_hear 109 = .ok (.if_icmp .ne 8, 3) := by decide +kernel
theorem dX5_hear_112 : decode cX5_hear 112 = .ok (.bipush 34, 2) := by decide +kernel
theorem dX5_hear_114 : decode cX5_hear 114 = .ok (.goto 5, 3) := by decide +kernel
theorem dX5_hear_117 : decode cX5_hear 117 = .ok (.bipush 15, 2) := by decide +kernel
theorem dX5_hear_119 : decode cX5_hear 119 = .ok (.if_icmp .ne 5, 3) := by decide +kernel
theorem dX5_hear_122 : decode cX5_hear 122 = .ok (.iconst 2, 1) := by decide +kernel
theorem dX5_hear_123 : decode cX5_hear 123 = .ok (.ireturn, 1) := by decide +kernel
theorem dX5_hear_124 : decode cX5_hear 124 = .ok (.aload_n 0, 1) := by decide +kernel
theorem dX5_hear_125 : decode cX5_hear 125 = .ok (.getfield 26, 3) := by decide +kernel
theorem dX5_hear_128 : decode cX5_hear 128 = .ok (.aload_n 0, 1) := by decide +kernel
theorem dX5_hear_129 : decode cX5_hear 129 = .ok (.invokevirtual 98, 3) := by decide +kernel
theorem dX5_hear_132 : decode cX5_hear 132 = .ok (.if_icmp .ne 19, 3) := by decide +kernel
theorem dX5_hear_135 : decode cX5_hear 135 = .ok (.aload_n 0, 1) := by decide +kernel
theorem dX5_hear_136 : decode cX5_hear 136 = .ok (.getfield 58, 3) := by decide +kernel
theorem dX5_hear_139 : decode cX5_hear 139 = .ok (.iconst 1, 1) := by decide +kernel
theorem dX5_hear_140 : decode cX5_hear 140 = .ok (.if_icmp .ne 11, 3) := by decide +kernel
theorem dX5_hear_143 : decode cX5_hear 143 = .ok (.aload_n 0, 1) := by decide +kernel
theorem dX5_hear_144 : decode cX5_hear 144 = .ok (.iconst 1, 1) := by decide +kernel
theorem dX5_hear_145 : decode cX5_hear 145 = .ok (.putfield 13, 3) := by decide +kernel
theorem dX5_hear_148 : decode cX5_hear 148 = .ok (.goto 27, 3) := by decide +kernel
theorem dX5_hear_151 : decode cX5_hear 151 = .ok (.aload_n 0, 1) := by decide +kernel
theorem dX5_hear_152 : decode cX5_hear 152 = .ok (.getfield 26, 3) := by decide +kernel
theorem dX5_hear_155 : decode cX5_hear 155 = .ok (.aload_n 0, 1) := by decide +kernel
theorem dX5_hear_156 : decode cX5_hear 156 = .ok (.invokevirtual 98, 3) := by decide +kernel
theorem dX5_hear_159 : decode cX5_hear 159 = .ok (.if_icmp .ne 16, 3) := by decide +kernel
theorem dX5_hear_162 : decode cX5_hear 162 = .ok (.aload_n 0, 1) := by decide +kernel
theorem dX5_hear_163 : decode cX5_hear 163 = .ok (.getfield 20, 3) := by decide +kernel
theorem dX5_hear_166 : decode cX5_hear 166 = .ok (.iconst 5, 1) := by decide +kernel
theorem dX5_hear_167 : decode cX5_hear 167 = .ok (.if_icmp .ge 8, 3) := by decide +kernel
theorem dX5_hear_170 : decode cX5_hear 170 = .ok (.aload_n 0, 1) := by decide +kernel
theorem dX5_hear_171 : decode cX5_hear 171 = .ok (.iconst 2, 1) := by decide +kernel
theorem dX5_hear_172 : decode cX5_hear 172 = .ok (.putfield 13, 3) := by decide +kernel
theorem dX5_hear_175 : decode cX5_hear 175 = .ok (.iconst (-1), 1) := by decide +kernel
theorem dX5_hear_176 : decode cX5_hear 176 = .ok (.ireturn, 1) := by decide +kernel
theorem cwX5_hear : mw_cwV yX5_hear cX5_hear 3 ((some .int)) 1 := ⟨⟨wd_6, wd_1402, by decide +kernel⟩, wd_1400, wd_1401⟩
set_option maxHeartbeats 4000000 in
set_option maxRecDepth 100000 in
theorem tX5_hear (l : Launch) (G : mwG) (ad : Nat → Nat) (fu : Nat) (k : Nat) (a1 : Int32) (M : mwM) (L : mwL) {r0 : Int32} {M0 : mwM} {L0 : mwL} (hD : DX5_hear fu k a1 M L = some (r0, M0, L0)) (hk0 : isEa k) : Met l yX5_hear (Cond.code yX5_hear cX5_hear 3 ((some .int)) :: GT) ({ frames := 3, cells := 0, slots := 0, locals := 66 }) (mw_Pre G ad NF TF FF M L [.ref (ad k), .int a1]) (mw_Qi G ad NF TF FF (mw_eqI r0 M0 L0)) 0 0 (mw_fr G) := by
  refine mw_enter (by decide) (Nat.le_of_ble_eq_true rfl) ?_
  intro p e s m below meth c ls C hr hlocks hnm hw hl
  have hl : lv_has ls 3 [(0, .ref (ad k)), (1, .int a1)] := hl
  have hb175 : ∀ (M : mwM) (L : mwL) (H : Heap) (locs : List Loc) (ls : Array Slot), fX5_hear_b175 fu k a1 M L = some (r0, M0, L0) → mw_W G ad NF TF FF M L H locs → lv_has ls 3 [] → W p l e ({ frames := 3, cells := 0, slots := 0, locals := 66 }) s m [.ref (ad k), .int a1].toArray below meth c H locs 0 0 (MQ below (mw_Qi G ad NF TF FF (mw_eqI r0 M0 L0)) [.ref (ad k), .int a1].toArray s 0 0 (mw_fr G)) (F0 m 175 ls []) := by
    intro M L H locs ls hD hw hl
    unfold fX5_hear_b175 at hD
    refine lv_iconst (v := (-1)) C.1.1 C.1.2.1 dX5_hear_175 (by decide) ?_
    exact mr_iret C hr hlocks hw rfl (Option.some.inj hD) dX5_hear_176
  have hb151 : ∀ (M : mwM) (L : mwL) (H : Heap) (locs : List Loc) (ls : Array Slot), fX5_hear_b151 fu k a1 M L = some (r0, M0, L0) → mw_W G ad NF TF FF M L H locs → lv_has ls 3 [(0, .ref (ad k))] → W p l e ({ frames := 3, cells := 0, slots := 0, locals := 66 }) s m [.ref (ad k), .int a1].toArray below meth c H locs 0 0 (MQ below (mw_Qi G ad NF TF FF (mw_eqI r0 M0 L0)) [.ref (ad k), .int a1].toArray s 0 0 (mw_fr G)) (F0 m 151 ls []) := by
    intro M L H locs ls hD hw hl
    unfold fX5_hear_b151 at hD
    refine lv_aload_n C.1.1 C.1.2.1 dX5_hear_151 rfl (lv_at hl 0 rfl) ?_
    refine mr_getI C hw kc_5 5 (Ea_N0 hk0) (Ea_T0 hk0) wd_112 dX5_hear_152 (by decide) rfl ?_
    refine lv_aload_n C.1.1 C.1.2.1 dX5_hear_155 rfl (lv_at hl 0 rfl) ?_
    obtain ⟨r19, M17, L18, h1, hD⟩ := g_b3 hD
    refine md_cvI (As := []) (rest := [.int (M k 5)]) C hw (tX5_stuffedEnd l G ad fu k M L h1 hk0) kc_5 (Ea_N0 hk0) (Ea_T0 hk0) wd_1425 cwX5_stuffedEnd ⟨Nat.le_of_ble_eq_true rfl, Nat.le_of_ble_eq_true rfl⟩ rfl hl.1 (Nat.le_of_ble_eq_true rfl) dX5_hear_156 rfl rfl ⟨Nat.zero_le _, Nat.zero_le _⟩ rfl (fun H locs hw => ?_)
    refine lv_icmp_ne (tgt := 175) C.1.1 C.1.2.1 dX5_hear_159 (by decide) (fun c20 => ?_) (fun c20 => ?_)
    · replace hD := g_neg c20 hD
      exact hb175 M17 L18 _ _ ls hD hw (lv_sub hl [] rfl)
    · replace hD := g_pos c20 hD
      refine lv_aload_n C.1.1 C.1.2.1 dX5_hear_162 rfl (lv_at hl 0 rfl) ?_
      refine mr_getI C hw kc_5 3 (Ea_N0 hk0) (Ea_T0 hk0) wd_110 dX5_hear_163 (by decide) rfl ?_
      refine lv_iconst (v := 5) C.1.1 C.1.2.1 dX5_hear_166 (by decide) ?_
      refine lv_icmp_ge (tgt := 175) C.1.1 C.1.2.1 dX5_hear_167 (by decide) (fun c21 => ?_) (fun c21 => ?_)
      · replace hD := g_pos c21 hD
        exact hb175 M17 L18 _ _ ls hD hw (lv_sub hl [] rfl)
      · replace hD := g_neg c21 hD
        refine lv_aload_n C.1.1 C.1.2.1 dX5_hear_170 rfl (lv_at hl 0 rfl) ?_
        refine lv_iconst (v := 2) C.1.1 C.1.2.1 dX5_hear_171 (by decide) ?_
        obtain ⟨M22, eM22, hD⟩ := g_let hD
        refine mr_putI C hw kc_5 1 (Ea_N0 hk0) (Ea_T0 hk0) wd_108 dX5_hear_172 (by decide) rfl rfl rfl rfl (fun H locs hw => ?_)
        replace hw : mw_W G ad NF TF FF M22 L18 H locs := by rw [eM22]; exact hw
        exact hb175 M22 L18 _ _ ls hD hw (lv_sub hl [] rfl)
  have hb124 : ∀ (M : mwM) (L : mwL) (H : Heap) (locs : List Loc) (ls : Array Slot), fX5_hear_b124 fu k a1 M L = some (r0, M0, L0) → mw_W G ad NF TF FF M L H locs → lv_has ls 3 [(0, .ref (ad k))] → W p l e ({ frames := 3, cells := 0, slots := 0, locals := 66 }) s m [.ref (ad k), .int a1].toArray below meth c H locs 0 0 (MQ below (mw_Qi G ad NF TF FF (mw_eqI r0 M0 L0)) [.ref (ad k), .int a1].toArray s 0 0 (mw_fr G)) (F0 m 124 ls []) := by
    intro M L H locs ls hD hw hl
    unfold fX5_hear_b124 at hD
    refine lv_aload_n C.1.1 C.1.2.1 dX5_hear_124 rfl (lv_at hl 0 rfl) ?_
    refine mr_getI C hw kc_5 5 (Ea_N0 hk0) (Ea_T0 hk0) wd_112 dX5_hear_125 (by decide) rfl ?_
    refine lv_aload_n C.1.1 C.1.2.1 dX5_hear_128 rfl (lv_at hl 0 rfl) ?_
    obtain ⟨r13, M11, L12, h1, hD⟩ := g_b3 hD
    refine md_cvI (As := []) (rest := [.int (M k 5)]) C hw (tX5_stuffedEnd l G ad fu k M L h1 hk0) kc_5 (Ea_N0 hk0) (Ea_T0 hk0) wd_1425 cwX5_stuffedEnd ⟨Nat.le_of_ble_eq_true rfl, Nat.le_of_ble_eq_true rfl⟩ rfl hl.1 (Nat.le_of_ble_eq_true rfl) dX5_hear_129 rfl rfl ⟨Nat.zero_le _, Nat.zero_le _⟩ rfl (fun H locs hw => ?_)
    refine lv_icmp_ne (tgt := 151) C.1.1 C.1.2.1 dX5_hear_132 (by decide) (fun c14 => ?_) (fun c14 => ?_)
    · replace hD := g_neg c14 hD
      exact hb151 M11 L12 _ _ ls hD hw (lv_sub hl [0] rfl)
    · replace hD := g_pos c14 hD
      refine lv_aload_n C.1.1 C.1.2.1 dX5_hear_135 rfl (lv_at hl 0 rfl) ?_
      refine mr_getI C hw kc_5 13 (Ea_N0 hk0) (Ea_T0 hk0) wd_121 dX5_hear_136 (by decide) rfl ?_
      refine lv_iconst (v := 1) C.1.1 C.1.2.1 dX5_hear_139 (by decide) ?_
      refine lv_icmp_ne (tgt := 151) C.1.1 C.1.2.1 dX5_hear_140 (by decide) (fun c15 => ?_) (fun c15 => ?_)
      · replace hD := g_neg c15 hD
        exact hb151 M11 L12 _ _ ls hD hw (lv_sub hl [0] rfl)
      · replace hD := g_pos c15 hD
        refine lv_aload_n C.1.1 C.1.2.1 dX5_hear_143 rfl (lv_at hl 0 rfl) ?_
        refine lv_iconst (v := 1) C.1.1 C.1.2.1 dX5_hear_144 (by decide) ?_
        obtain ⟨M16, eM16, hD⟩ := g_let hD
        refine mr_putI C hw kc_5 1 (Ea_N0 hk0) (Ea_T0 hk0) wd_108 dX5_hear_145 (by decide) rfl rfl rfl rfl (fun H locs hw => ?_)
        replace hw : mw_W G ad NF TF FF M16 L12 H locs := by rw [eM16]; exact hw
        refine lv_goto (tgt := 175) C.1.1 C.1.2.1 dX5_hear_148 (by decide) ?_
        exact hb175 M16 L12 _ _ ls hD hw (lv_sub hl [] rfl)
  have hb119 : ∀ (s0 : Int32) (s1 : Int32) (M : mwM) (L : mwL) (H : Heap) (locs : List Loc) (ls : Array Slot), fX5_hear_b119 fu k a1 s0 s1 M L = some (r0, M0, L0) → mw_W G ad NF TF FF M L H locs → lv_has ls 3 [(0, .ref (ad k))] → W p l e ({ frames := 3, cells := 0, slots := 0, locals := 66 }) s m [.ref (ad k), .int a1].toArray below meth c H locs 0 0 (MQ below (mw_Qi G ad NF TF FF (mw_eqI r0 M0 L0)) [.ref (ad k), .int a1].toArray s 0 0 (mw_fr G)) (F0 m 119 ls [.int s1, .int s0]) := by
    intro s0 s1 M L H locs ls hD hw hl
    unfold fX5_hear_b119 at hD
    refine lv_icmp_ne (tgt := 124) C.1.1 C.1.2.1 dX5_hear_119 (by decide) (fun c10 => ?_) (fun c10 => ?_)
    · replace hD := g_neg c10 hD
      exact hb124 M L _ _ ls hD hw (lv_sub hl [0] rfl)
    · replace hD := g_pos c10 hD
      refine lv_iconst (v := 2) C.1.1 C.1.2.1 dX5_hear_122 (by decide) ?_
      exact mr_iret C hr hlocks hw rfl (Option.some.inj hD) dX5_hear_123
  have hb61 : ∀ (s1 : Int32) (M : mwM) (L : mwL) (H : Heap) (locs : List Loc) (ls : Array Slot), fX5_hear_b61 fu k a1 s1 M L = some (r0, M0, L0) → mw_W G ad NF TF FF M L H locs → lv_has ls 3 [(0, .ref (ad k)), (1, .int a1)] → W p l e ({ frames := 3, cells := 0, slots := 0, locals := 66 }) s m [.ref (ad k), .int a1].toArray below meth c H locs 0 0 (MQ below (mw_Qi G ad NF TF FF (mw_eqI r0 M0 L0)) [.ref (ad k), .int a1].toArray s 0 0 (mw_fr G)) (F0 m 61 ls [.int s1, .ref (ad k)]) := by
    intro s1 M L H locs ls hD hw hl
    unfold fX5_hear_b61 at hD
    obtain ⟨M1, eM1, hD⟩ := g_let hD
    refine mr_putI C hw kc_5 3 (Ea_N0 hk0) (Ea_T0 hk0) wd_110 dX5_hear_61 (by decide) rfl rfl rfl rfl (fun H locs hw => ?_)
    replace hw : mw_W G ad NF TF FF M1 L H locs := by rw [eM1]; exact hw
    refine lv_aload_n C.1.1 C.1.2.1 dX5_hear_64 rfl (lv_at hl 0 rfl) ?_
    refine lv_iload_n C.1.1 C.1.2.1 dX5_hear_65 rfl (lv_at hl 1 rfl) ?_
    obtain ⟨M2, eM2, hD⟩ := g_let hD
    refine mr_putI C hw kc_5 2 (Ea_N0 hk0) (Ea_T0 hk0) wd_109 dX5_hear_66 (by decide) rfl rfl rfl rfl (fun H locs hw => ?_)
    replace hw : mw_W G ad NF TF FF M2 L H locs := by rw [eM2]; exact hw
    refine lv_aload_n C.1.1 C.1.2.1 dX5_hear_69 rfl (lv_at hl 0 rfl) ?_
    refine mr_getI C hw kc_5 5 (Ea_N0 hk0) (Ea_T0 hk0) wd_112 dX5_hear_70 (by decide) rfl ?_
    obtain ⟨x3, ex3, hD⟩ := g_let hD
    refine W.eq (g2 := F0 m 73 ls (.int x3 :: [])) (by rw [ex3]) ?_
    refine lv_istore_n (lv' := [(2, .int x3), (0, .ref (ad k)), (1, .int a1)]) C.1.1 C.1.2.1 dX5_hear_73 rfl hl (by decide) rfl (fun ls hl => ?_)
    refine lv_aload_n C.1.1 C.1.2.1 dX5_hear_74 rfl (lv_at hl 1 rfl) ?_
    refine lv_dup C.1.1 C.1.2.1 dX5_hear_75 rfl ?_
    refine mr_getI C hw kc_5 5 (Ea_N0 hk0) (Ea_T0 hk0) wd_112 dX5_hear_76 (by decide) rfl ?_
    refine lv_iconst (v := 1) C.1.1 C.1.2.1 dX5_hear_79 (by decide) ?_
    refine lv_iadd C.1.1 C.1.2.1 dX5_hear_80 ?_
    obtain ⟨M4, eM4, hD⟩ := g_let hD
    refine mr_putI C hw kc_5 5 (Ea_N0 hk0) (Ea_T0 hk0) wd_112 dX5_hear_81 (by decide) rfl rfl rfl rfl (fun H locs hw => ?_)
    replace hw : mw_W G ad NF TF FF M4 L H locs := by rw [eM4]; exact hw
    refine lv_aload_n C.1.1 C.1.2.1 dX5_hear_84 rfl (lv_at hl 1 rfl) ?_
    refine lv_iload_n C.1.1 C.1.2.1 dX5_hear_85 rfl (lv_at hl 0 rfl) ?_
    refine lv_iload_n C.1.1 C.1.2.1 dX5_hear_86 rfl (lv_at hl 2 rfl) ?_
    obtain ⟨M5, L6, h1, hD⟩ := g_b2 hD
    refine md_cvV (As := [.int x3, .int a1]) (rest := []) C hw (tX5_hearPlain l G ad fu k x3 a1 M4 L h1 hk0) kc_5 (Ea_N0 hk0) (Ea_T0 hk0) wd_1429 cwX5_hearPlain ⟨Nat.le_of_ble_eq_true rfl, Nat.le_of_ble_eq_true rfl⟩ rfl hl.1 (Nat.le_of_ble_eq_true rfl) dX5_hear_87 rfl rfl ⟨Nat.zero_le _, Nat.zero_le _⟩ rfl (fun H locs hw => ?_)
    refine lv_iload_n C.1.1 C.1.2.1 dX5_hear_90 rfl (lv_at hl 2 rfl) ?_
    refine lv_iconst (v := 1) C.1.1 C.1.2.1 dX5_hear_91 (by decide) ?_
    refine lv_icmp_ne (tgt := 124) C.1.1 C.1.2.1 dX5_hear_92 (by decide) (fun c7 => ?_) (fun c7 => ?_)
    · replace hD := g_neg c7 hD
      exact hb124 M5 L6 _ _ ls hD hw (lv_sub hl [1] rfl)
    · replace hD := g_pos c7 hD
      refine lv_aload_n C.1.1 C.1.2.1 dX5_hear_95 rfl (lv_at hl 1 rfl) ?_
      refine mr_getI C hw kc_5 13 (Ea_N0 hk0) (Ea_T0 hk0) wd_121 dX5_hear_96 (by decide) rfl ?_
      refine lv_iconst (v := 1) C.1.1 C.1.2.1 dX5_hear_99 (by decide) ?_
      refine lv_icmp_ne (tgt := 124) C.1.1 C.1.2.1 dX5_hear_100 (by decide) (fun c8 => ?_) (fun c8 => ?_)
      · replace hD := g_neg c8 hD
        exact hb124 M5 L6 _ _ ls hD hw (lv_sub hl [1] rfl)
      · replace hD := g_pos c8 hD
        refine lv_iload_n C.1.1 C.1.2.1 dX5_hear_103 rfl (lv_at hl 0 rfl) ?_
        refine lv_aload_n C.1.1 C.1.2.1 dX5_hear_104 rfl (lv_at hl 1 rfl) ?_
        refine mr_getI C hw kc_5 12 (Ea_N0 hk0) (Ea_T0 hk0) wd_120 dX5_hear_105 (by decide) rfl ?_
        refine lv_iconst (v := 1) C.1.1 C.1.2.1 dX5_hear_108 (by decide) ?_
        refine lv_icmp_ne (tgt := 117) C.1.1 C.1.2.1 dX5_hear_109 (by decide) (fun c9 => ?_) (fun c9 => ?_)
        · replace hD := g_neg c9 hD
          refine lv_bipush (v := 15) C.1.1 C.1.2.1 dX5_hear_117 (by decide) ?_
          exact hb119 x3 15 M5 L6 _ _ ls hD hw (lv_sub hl [1] rfl)
        · replace hD := g_pos c9 hD
          refine lv_bipush (v := 34) C.1.1 C.1.2.1 dX5_hear_112 (by decide) ?_
          refine lv_goto (tgt := 119) C.1.1 C.1.2.1 dX5_hear_114 (by decide) ?_
          exact hb119 x3 34 M5 L6 _ _ ls hD hw (lv_sub hl [1] rfl)
  unfold DX5_hear at hD
  refine lv_aload_n C.1.1 C.1.2.1 dX5_hear_0 rfl (lv_at hl 0 rfl) ?_
  refine mr_getI C hw kc_5 1 (Ea_N0 hk0) (Ea_T0 hk0) wd_108 dX5_hear_1 (by decide) rfl ?_
  refine lv_iconst (v := 1) C.1.1 C.1.2.1 dX5_hear_4 (by decide) ?_
  refine lv_icmp_ne (tgt := 14) C.1.1 C.1.2.1 dX5_hear_5 (by decide) (fun c23 => ?_) (fun c23 => ?_)
  · replace hD := g_neg c23 hD
    refine lv_aload_n C.1.1 C.1.2.1 dX5_hear_14 rfl (lv_at hl 0 rfl) ?_
    refine mr_getI C hw kc_5 1 (Ea_N0 hk0) (Ea_T0 hk0) wd_108 dX5_hear_15 (by decide) rfl ?_
    refine lv_iconst (v := 2) C.1.1 C.1.2.1 dX5_hear_18 (by decide) ?_
    refine lv_icmp_ne (tgt := 28) C.1.1 C.1.2.1 dX5_hear_19 (by decide) (fun c24 => ?_) (fun c24 => ?_)
    · replace hD := g_neg c24 hD
      refine lv_aload_n C.1.1 C.1.2.1 dX5_hear_28 rfl (lv_at hl 0 rfl) ?_
      refine mr_getI C hw kc_5 3 (Ea_N0 hk0) (Ea_T0 hk0) wd_110 dX5_hear_29 (by decide) rfl ?_
      refine lv_iconst (v := 5) C.1.1 C.1.2.1 dX5_hear_32 (by decide) ?_
      refine lv_icmp_ne (tgt := 42) C.1.1 C.1.2.1 dX5_hear_33 (by decide) (fun c25 => ?_) (fun c25 => ?_)
      · replace hD := g_neg c25 hD
        refine lv_aload_n C.1.1 C.1.2.1 dX5_hear_42 rfl (lv_at hl 0 rfl) ?_
        refine lv_iload_n C.1.1 C.1.2.1 dX5_hear_43 rfl (lv_at hl 1 rfl) ?_
        refine lv_aload_n C.1.1 C.1.2.1 dX5_hear_44 rfl (lv_at hl 0 rfl) ?_
        refine mr_getI C hw kc_5 2 (Ea_N0 hk0) (Ea_T0 hk0) wd_109 dX5_hear_45 (by decide) rfl ?_
        refine lv_icmp_ne (tgt := 60) C.1.1 C.1.2.1 dX5_hear_48 (by decide) (fun c26 => ?_) (fun c26 => ?_)
        · replace hD := g_neg c26 hD
          refine lv_iconst (v := 1) C.1.1 C.1.2.1 dX5_hear_60 (by decide) ?_
          exact hb61 1 M L _ _ ls hD hw (lv_sub hl [0, 1] rfl)
        · replace hD := g_pos c26 hD
          refine lv_aload_n C.1.1 C.1.2.1 dX5_hear_51 rfl (lv_at hl 0 rfl) ?_
          refine mr_getI C hw kc_5 3 (Ea_N0 hk0) (Ea_T0 hk0) wd_110 dX5_hear_52 (by decide) rfl ?_
          refine lv_iconst (v := 1) C.1.1 C.1.2.1 dX5_hear_55 (by decide) ?_
          refine lv_iadd C.1.1 C.1.2.1 dX5_hear_56 ?_
          refine lv_goto (tgt := 61) C.1.1 C.1.2.1 dX5_hear_57 (by decide) ?_
          exact hb61 ((M k 3) + 1) M L _ _ ls hD hw (lv_sub hl [0, 1] rfl)
      · replace hD := g_pos c25 hD
        refine lv_aload_n C.1.1 C.1.2.1 dX5_hear_36 rfl (lv_at hl 0 rfl) ?_
        refine lv_iload_n C.1.1 C.1.2.1 dX5_hear_37 rfl (lv_at hl 1 rfl) ?_
        obtain ⟨r29, M27, L28, h1, hD⟩ := g_b3 hD
        refine md_cvI (As := [.int a1]) (rest := []) C hw (tX5_hearStuffBit l G ad fu k a1 M L h1 hk0) kc_5 (Ea_N0 hk0) (Ea_T0 hk0) wd_1421 cwX5_hearStuffBit ⟨Nat.le_of_ble_eq_true rfl, Nat.le_of_ble_eq_true rfl⟩ rfl hl.1 (Nat.le_of_ble_eq_true rfl) dX5_hear_38 rfl rfl ⟨Nat.zero_le _, Nat.zero_le _⟩ rfl (fun H locs hw => ?_)
        exact mr_iret C hr hlocks hw rfl (Option.some.inj hD) dX5_hear_41
    · replace hD := g_pos c24 hD
      refine lv_aload_n C.1.1 C.1.2.1 dX5_hear_22 rfl (lv_at hl 0 rfl) ?_
      refine lv_iload_n C.1.1 C.1.2.1 dX5_hear_23 rfl (lv_at hl 1 rfl) ?_
      obtain ⟨r32, M30, L31, h1, hD⟩ := g_b3 hD
      refine md_cvI (As := [.int a1]) (rest := []) C hw (tX5_hearTail l G ad fu k a1 M L h1 hk0) kc_5 (Ea_N0 hk0) (Ea_T0 hk0) wd_1417 cwX5_hearTail ⟨Nat.le_of_ble_eq_true rfl, Nat.le_of_ble_eq_true rfl⟩ rfl hl.1 (Nat.le_of_ble_eq_true rfl) dX5_hear_24 rfl rfl ⟨Nat.zero_le _, Nat.zero_le _⟩ rfl (fun H locs hw => ?_)
      exact mr_iret C hr hlocks hw rfl (Option.some.inj hD) dX5_hear_27
  · replace hD := g_pos c23 hD
    refine lv_aload_n C.1.1 C.1.2.1 dX5_hear_8 rfl (lv_at hl 0 rfl) ?_
    refine lv_iload_n C.1.1 C.1.2.1 dX5_hear_9 rfl (lv_at hl 1 rfl) ?_
    obtain ⟨r35, M33, L34, h1, hD⟩ := g_b3 hD
    refine md_cvI (As := [.int a1]) (rest := []) C hw (tX5_hearFixed l G ad fu k a1 M L h1 hk0) kc_5 (Ea_N0 hk0) (Ea_T0 hk0) wd_1403 cwX5_hearFixed ⟨Nat.le_of_ble_eq_true rfl, Nat.le_of_ble_eq_true rfl⟩ rfl hl.1 (Nat.le_of_ble_eq_true rfl) dX5_hear_10 rfl rfl ⟨Nat.zero_le _, Nat.zero_le _⟩ rfl (fun H locs hw => ?_)
    exact mr_iret C hr hlocks hw rfl (Option.some.inj hD) dX5_hear_13
