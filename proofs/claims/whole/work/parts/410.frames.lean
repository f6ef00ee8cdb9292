theorem dX6_clear_0 : decode cX6_clear 0 = .ok (.aload_n 0, 1) := by decide +kernel
theorem dX6_clear_1 : decode cX6_clear 1 = .ok (.iconst 0, 1) := by decide +kernel
theorem dX6_clear_2 : decode cX6_clear 2 = .ok (.putfield 44, 3) := by decide +kernel
theorem dX6_clear_5 : decode cX6_clear 5 = .ok (.aload_n 0, 1) := by decide +kernel
theorem dX6_clear_6 : decode cX6_clear 6 = .ok (.iconst 0, 1) := by decide +kernel
theorem dX6_clear_7 : decode cX6_clear 7 = .ok (.putfield 48, 3) := by decide +kernel
theorem dX6_clear_10 : decode cX6_clear 10 = .ok (.aload_n 0, 1) := by decide +kernel
theorem dX6_clear_11 : decode cX6_clear 11 = .ok (.iconst 0, 1) := by decide +kernel
theorem dX6_clear_12 : decode cX6_clear 12 = .ok (.putfield 51, 3) := by decide +kernel
theorem dX6_clear_15 : decode cX6_clear 15 = .ok (.aload_n 0, 1) := by decide +kernel
theorem dX6_clear_16 : decode cX6_clear 16 = .ok (.ldc 54, 2) := by decide +kernel
theorem dX6_clear_18 : decode cX6_clear 18 = .ok (.putfield 55, 3) := by decide +kernel
theorem dX6_clear_21 : decode cX6_clear 21 = .ok (.return_, 1) := by decide +kernel
theorem cwX6_clear : mw_cwV yX6_clear cX6_clear 1 (none) 0 := ⟨⟨wd_7, wd_808, by decide +kernel⟩, wd_806, wd_807⟩
set_option maxHeartbeats 4000000 in
set_option maxRecDepth 100000 in
theorem tX6_clear (l : Launch) (G : mwG) (ad : Nat → Nat) (fu : Nat) (M : mwM) (L : mwL) {M0 : mwM} {L0 : mwL} (hD : DX6_clear fu M L = some (M0, L0)) : Met l yX6_clear (Cond.code yX6_clear cX6_clear 1 (none) :: GT) ({ frames := 0, cells := 0, slots := 0, locals := 0 }) (mw_Pre G ad NF TF FF M L [.ref (ad 61)]) (mw_Qv G ad NF TF FF (mw_eqV M0 L0)) 0 0 (mw_fr G) := by
  refine mw_enter (by decide) (Nat.le_of_ble_eq_true rfl) ?_
  intro p e s m below meth c ls C hr hlocks hnm hw hl
  have hl : lv_has ls 1 [(0, .ref (ad 61))] := hl
  unfold DX6_clear at hD
  refine lv_aload_n C.1.1 C.1.2.1 dX6_clear_0 rfl (lv_at hl 0 rfl) ?_
  refine lv_iconst (v := 0) C.1.1 C.1.2.1 dX6_clear_1 (by decide) ?_
  obtain ⟨M1, eM1, hD⟩ := g_let hD
  refine mr_putI C hw kc_6 10 (by decide) tf_61 wd_243 dX6_clear_2 (by decide) rfl rfl rfl rfl (fun H locs hw => ?_)
  replace hw : mw_W G ad NF TF FF M1 L H locs := by rw [eM1]; exact hw
  refine lv_aload_n C.1.1 C.1.2.1 dX6_clear_5 rfl (lv_at hl 0 rfl) ?_
  refine lv_iconst (v := 0) C.1.1 C.1.2.1 dX6_clear_6 (by decide) ?_
  obtain ⟨M2, eM2, hD⟩ := g_let hD
  refine mr_putI C hw kc_6 11 (by decide) tf_61 wd_246 dX6_clear_7 (by decide) rfl rfl rfl rfl (fun H locs hw => ?_)
  replace hw : mw_W G ad NF TF FF M2 L H locs := by rw [eM2]; exact hw
  refine lv_aload_n C.1.1 C.1.2.1 dX6_clear_10 rfl (lv_at hl 0 rfl) ?_
  refine lv_iconst (v := 0) C.1.1 C.1.2.1 dX6_clear_11 (by decide) ?_
  obtain ⟨M3, eM3, hD⟩ := g_let hD
  refine mr_putI C hw kc_6 12 (by decide) tf_61 wd_249 dX6_clear_12 (by decide) rfl rfl rfl rfl (fun H locs hw => ?_)
  replace hw : mw_W G ad NF TF FF M3 L H locs := by rw [eM3]; exact hw
  refine lv_aload_n C.1.1 C.1.2.1 dX6_clear_15 rfl (lv_at hl 0 rfl) ?_
  refine lv_ldc (v := 1000000) C.1.1 C.1.2.1 C.1.2.2.2.1 (C.1.2.2.2.2 _ wd_809) dX6_clear_16 ?_
  obtain ⟨M4, eM4, hD⟩ := g_let hD
  refine mr_putI C hw kc_6 14 (by decide) tf_61 wd_251 dX6_clear_18 (by decide) rfl rfl rfl rfl (fun H locs hw => ?_)
  replace hw : mw_W G ad NF TF FF M4 L H locs := by rw [eM4]; exact hw
  exact mr_vret C hr hlocks hw (Option.some.inj hD) dX6_clear_21

theorem dX6_addSignal_0 : decode cX6_addSignal 0 = .ok (.aload_n 0, 1) := by decide +kernel
theorem dX6_addSignal_1 : decode cX6_addSignal 1 = .ok (.getfield 44, 3) := by decide +kernel
theorem dX6_addSignal_4 : decode cX6_addSignal 4 = .ok (.bipush 40, 2) := by decide +kernel
theorem dX6_addSignal_6 : decode cX6_addSignal 6 = .ok (.if_icmp .lt 4, 3) := by decide +kernel
theorem dX6_addSignal_9 : decode cX6_addSignal 9 = .ok (.return_, 1) := by decide +kernel
theorem dX6_addSignal_10 : decode cX6_addSignal 10 = .ok (.aload_n 0, 1) := by decide +kernel
theorem dX6_addSignal_11 : decode cX6_addSignal 11 = .ok (.getfield 11, 3) := by decide +kernel
theorem dX6_addSignal_14 : decode cX6_addSignal 14 = .ok (.bipush 6, 2) := by decide +kernel
theorem dX6_addSignal_16 : decode cX6_addSignal 16 = .ok (.aaload, 1) := by decide +kernel
theorem dX6_addSignal_17 : decode cX6_addSignal 17 = .ok (.aload_n 0, 1) := by decide +kernel
theorem dX6_addSignal_18 : decode cX6_addSignal 18 = .ok (.getfield 44, 3) := by decide +kernel
theorem dX6_addSignal_21 : decode cX6_addSignal 21 = .ok (.iload_n 1, 1) := by decide +kernel
theorem dX6_addSignal_22 : decode cX6_addSignal 22 = .ok (.iastore, 1) := by decide +kernel
theorem dX6_addSignal_23 : decode cX6_addSignal 23 = .ok (.aload_n 0, 1) := by decide +kernel
theorem dX6_addSignal_24 : decode cX6_addSignal 24 = .ok (.getfield 11, 3) := by decide +kernel
theorem dX6_addSignal_27 : decode cX6_addSignal 27 = .ok (.iconst 0, 1) := by decide +kernel
theorem dX6_addSignal_28 : decode cX6_addSignal 28 = .ok (.aaload, 1) := by decide +kernel
theorem dX6_addSignal_29 : decode cX6_addSignal 29 = .ok (.aload_n 0, 1) := by decide +kernel
theorem dX6_addSignal_30 : decode cX6_addSignal 30 = .ok (.getfield 44, 3) := by decide +kernel
theorem dX6_addSignal_33 : decode cX6_addSignal 33 = .ok (.iload_n 2, 1) := by decide +kernel
theorem dX6_addSignal_34 : decode cX6_addSignal 34 = .ok (.iastore, 1) := by decide +kernel
theorem dX6_addSignal_35 : decode cX6_addSignal 35 = .ok (.aload_n 0, 1) := by decide +kernel
theorem dX6_addSignal_36 : decode cX6_addSignal 36 = .ok (.getfield 11, 3) := by decide +kernel
theorem dX6_addSignal_39 : decode cX6_addSignal 39 = .ok (.iconst 1, 1) := by decide +kernel
theorem dX6_addSignal_40 : decode cX6_addSignal 40 = .ok (.aaload, 1) := by decide +kernel
theorem dX6_addSignal_41 : decode cX6_addSignal 41 = .ok (.aload_n 0, 1) := by decide +kernel
theorem dX6_addSignal_42 : decode cX6_addSignal 42 = .ok (.getfield 44, 3) := by decide +kernel
theorem dX6_addSignal_45 : decode cX6_addSignal 45 = .ok (.iload_n 3, 1) := by decide +kernel
theorem dX6_addSignal_46 : decode cX6_addSignal 46 = .ok (.iastore, 1) := by decide +kernel
theorem dX6_addSignal_47 : decode cX6_addSignal 47 = .ok (.aload_n 0, 1) := by decide +kernel
theorem dX6_addSignal_48 : decode cX6_addSignal 48 = .ok (.getfield 11, 3) := by decide +kernel
theorem dX6_addSignal_51 : decode cX6_addSignal 51 = .ok (.iconst 2, 1) := by decide +kernel
theorem dX6_addSignal_52 : decode cX6_addSignal 52 = .ok (.aaload, 1) := by decide +kernel
theorem dX6_addSignal_53 : decode cX6_addSignal 53 = .ok (.aload_n 0, 1) := by decide +kernel
theorem dX6_addSignal_54 : decode cX6_addSignal 54 = .ok (.getfield 44, 3) := by decide +kernel
theorem dX6_addSignal_57 : decode cX6_addSignal 57 = .ok (.iload 4, 2) := by decide +kernel
theorem dX6_addSignal_59 : decode cX6_addSignal 59 = .ok (.iastore, 1) := by decide +kernel
theorem dX6_addSignal_60 : decode cX6_addSignal 60 = .ok (.aload_n 0, 1) := by decide +kernel
theorem dX6_addSignal_61 : decode cX6_addSignal 61 = .ok (.getfield 11, 3) := by decide +kernel
theorem dX6_addSignal_64 : decode cX6_addSignal 64 = .ok (.iconst 3, 1) := by decide +kernel
theorem dX6_addSignal_65 : decode cX6_addSignal 65 = .ok (.aaload, 1) := by decide +kernel
theorem dX6_addSignal_66 : decode cX6_addSignal 66 = .ok (.aload_n 0, 1) := by decide +kernel
theorem dX6_addSignal_67 : decode cX6_addSignal 67 = .ok (.getfield 44, 3) := by decide +kernel
theorem dX6_addSignal_70 : decode cX6_addSignal 70 = .ok (.iload 5, 2) := by decide +kernel
theorem dX6_addSignal_72 : decode cX6_addSignal 72 = .ok (.iastore, 1) := by decide +kernel
theorem dX6_addSignal_73 : decode cX6_addSignal 73 = .ok (.aload_n 0, 1) := by decide +kernel
theorem dX6_addSignal_74 : decode cX6_addSignal 74 = .ok (.getfield 11, 3) := by decide +kernel
theorem dX6_addSignal_77 : decode cX6_addSignal 77 = .ok (.iconst 4, 1) := by decide +kernel
theorem dX6_addSignal_78 : decode cX6_addSignal 78 = .ok (.aaload, 1) := by decide +kernel
theorem dX6_addSignal_79 : decode cX6_addSignal 79 = .ok (.aload_n 0, 1) := by decide +kernel
theorem dX6_addSignal_80 : decode cX6_addSignal 80 = .ok (.getfield 44, 3) := by decide +kernel
theorem dX6_addSignal_83 : decode cX6_addSignal 83 = .ok (.iload 6, 2) := by decide +kernel
theorem dX6_addSignal_85 : decode cX6_addSignal 85 = .ok (.ifCond .eq 7, 3) := by decide +kernel
theorem dX6_addSignal_88 : decode cX6_addSignal 88 = .ok (.iconst 1, 1) := by decide +kernel
theorem dX6_addSignal_89 : decode cX6_addSignal 89 = .ok (.goto 4, 3) := by decide +kernel
theorem dX6_addSignal_92 : decode cX6_addSignal 92 = .ok (.iconst 0, 1) := by decide +kernel
theorem dX6_addSignal_93 : decode cX6_addSignal 93 = .ok (.iastore, 1) := by decide +kernel
theorem dX6_addSignal_94 : decode cX6_addSignal 94 = .ok (.aload_n 0, 1) := by decide +kernel
theorem dX6_addSignal_95 : decode cX6_addSignal 95 = .ok (.getfield 11, 3) := by decide +kernel
theorem dX6_addSignal_98 : decode cX6_addSignal 98 = .ok (.iconst 5, 1) := by decide +kernel
theorem dX6_addSignal_99 : decode cX6_addSignal 99 = .ok (.aaload, 1) := by decide +kernel
theorem dX6_addSignal_100 : decode cX6_addSignal 100 = .ok (.aload_n 0, 1) := by decide +kernel
theorem dX6_addSignal_101 : decode cX6_addSignal 101 = .ok (.getfield 44, 3) := by decide +kernel
theorem dX6_addSignal_104 : decode cX6_addSignal 104 = .ok (.iload 7, 2) := by decide +kernel
theorem dX6_addSignal_106 : decode cX6_addSignal 106 = .ok (.iastore, 1) := by decide +kernel
theorem dX6_addSignal_107 : decode cX6_addSignal 107 = .ok (.aload_n 0, 1) := by decide +kernel
theorem dX6_addSignal_108 : decode cX6_addSignal 108 = .ok (.dup, 1) := by decide +kernel
theorem dX6_addSignal_109 : decode cX6_addSignal 109 = .ok (.getfield 44, 3) := by decide +kernel
theorem dX6_addSignal_112 : decode cX6_addSignal 112 = .ok (.iconst 1, 1) := by decide +kernel
theorem dX6_addSignal_113 : decode cX6_addSignal 113 = .ok (.iadd, 1) := by decide +kernel
theorem dX6_addSignal_114 : decode cX6_addSignal 114 = .ok (.putfield 44, 3) := by decide +kernel
theorem dX6_addSignal_117 : decode cX6_addSignal 117 = .ok (.return_, 1) := by decide +kernel
theorem cwX6_addSignal : mw_cwV yX6_addSignal cX6_addSignal 8 (none) 7 := ⟨⟨wd_7, wd_1079, by decide +kernel⟩, wd_1077, wd_1078⟩
set_option maxHeartbeats 4000000 in
set_option maxRecDepth 100000 in
theorem tX6_addSignal (l : Launch) (G : mwG) (ad : Nat → Nat) (fu : Nat) (a1 : Int32) (a2 : Int32) (a3 : Int32) (a4 : Int32) (a5 : Int32) (a6 : Int32) (a7 : Int32) (M : mwM) (L : mwL) {M0 : mwM} {L0 : mwL} (hD : DX6_addSignal fu a1 a2 a3 a4 a5 a6 a7 M L = some (M0, L0)) : Met l yX6_addSignal (Cond.code yX6_addSignal cX6_addSignal 8 (none) :: GT) ({ frames := 0, cells := 0, slots := 0, locals := 0 }) (mw_Pre G ad NF TF FF M L [.ref (ad 61), .int a1, .int a2, .int a3, .int a4, .int a5, .int a6, .int a7]) (mw_Qv G ad NF TF FF (mw_eqV M0 L0)) 0 0 (mw_fr G) := by
  refine mw_enter (by decide) (Nat.le_of_ble_eq_true rfl) ?_
  intro p e s m below meth c ls C hr hlocks hnm hw hl
  have hl : lv_has ls 8 [(0, .ref (ad 61)), (1, .int a1), (2, .int a2), (3, .int a3), (4, .int a4), (5, .int a5), (6, .int a6), (7, .int a7)] := hl
  have hb93 : ∀ (s1 : Int32) (s2 : Int32) (M : mwM) (L : mwL) (H : Heap) (locs : List Loc) (ls : Array Slot), fX6_addSignal_b93 fu a1 a2 a3 a4 a5 a6 a7 s1 s2 M L = some (M0, L0) → mw_W G ad NF TF FF M L H locs → lv_has ls 8 [(0, .ref (ad 61)), (7, .int a7)] → W p l e ({ frames := 0, cells := 0, slots := 0, locals := 0 }) s m [.ref (ad 61), .int a1, .int a2, .int a3, .int a4, .int a5, .int a6, .int a7].toArray below meth c H locs 0 0 (MQ below (mw_Qv G ad NF TF FF (mw_eqV M0 L0)) [.ref (ad 61), .int a1, .int a2, .int a3, .int a4, .int a5, .int a6, .int a7].toArray s 0 0 (mw_fr G)) (F0 m 93 ls [.int s2, .int s1, .ref (ad 67)]) := by
    intro s1 s2 M L H locs ls hD hw hl
    unfold fX6_addSignal_b93 at hD
    obtain ⟨q1, hD⟩ := g_ck hD
    obtain ⟨M2, eM2, hD⟩ := g_let hD
    refine mr_iast C hw (by decide) tf_67 q1 dX6_addSignal_93 (fun H locs hw => ?_)
    replace hw : mw_W G ad NF TF FF M2 L H locs := by rw [eM2]; exact hw
    refine lv_aload_n C.1.1 C.1.2.1 dX6_addSignal_94 rfl (lv_at hl 0 rfl) ?_
    refine mr_getR C hw kc_6 0 (by decide) tf_61 ff_61_0 wd_228 dX6_addSignal_95 (by decide) rfl ?_
    refine lv_iconst (v := 5) C.1.1 C.1.2.1 dX6_addSignal_98 (by decide) ?_
    refine mr_aald C hw (by decide) tf_62 (by decide) (by decide) rfl rfl (show vp_in 5 10 from by unfold vp_in; decide) ff_62_5 dX6_addSignal_99 ?_
    refine lv_aload_n C.1.1 C.1.2.1 dX6_addSignal_100 rfl (lv_at hl 0 rfl) ?_
    refine mr_getI C hw kc_6 10 (by decide) tf_61 wd_243 dX6_addSignal_101 (by decide) rfl ?_
    refine lv_iload C.1.1 C.1.2.1 dX6_addSignal_104 (lv_at hl 1 rfl) ?_
    obtain ⟨q4, hD⟩ := g_ck hD
    obtain ⟨M5, eM5, hD⟩ := g_let hD
    refine mr_iast C hw (by decide) tf_68 q4 dX6_addSignal_106 (fun H locs hw => ?_)
    replace hw : mw_W G ad NF TF FF M5 L H locs := by rw [eM5]; exact hw
    refine lv_aload_n C.1.1 C.1.2.1 dX6_addSignal_107 rfl (lv_at hl 0 rfl) ?_
    refine lv_dup C.1.1 C.1.2.1 dX6_addSignal_108 rfl ?_
    refine mr_getI C hw kc_6 10 (by decide) tf_61 wd_243 dX6_addSignal_109 (by decide) rfl ?_
    refine lv_iconst (v := 1) C.1.1 C.1.2.1 dX6_addSignal_112 (by decide) ?_
    refine lv_iadd C.1.1 C.1.2.1 dX6_addSignal_113 ?_
    obtain ⟨M6, eM6, hD⟩ := g_let hD
    refine mr_putI C hw kc_6 10 (by decide) tf_61 wd_243 dX6_addSignal_114 (by decide) rfl rfl rfl rfl (fun H locs hw => ?_)
    replace hw : mw_W G ad NF TF FF M6 L H locs := by rw [eM6]; exact hw
    exact mr_vret C hr hlocks hw (Option.some.inj hD) dX6_addSignal_117
  unfold DX6_addSignal at hD
  refine lv_aload_n C.1.1 C.1.2.1 dX6_addSignal_0 rfl (lv_at hl 0 rfl) ?_
  refine mr_getI C hw kc_6 10 (by decide) tf_61 wd_243 dX6_addSignal_1 (by decide) rfl ?_
  refine lv_bipush (v := 40) C.1.1 C.1.2.1 dX6_addSignal_4 (by decide) ?_
  refine lv_icmp_lt (tgt := 10) C.1.1 C.1.2.1 dX6_addSignal_6 (by decide) (fun c7 => ?_) (fun c7 => ?_)
  · replace hD := g_pos c7 hD
    refine lv_aload_n C.1.1 C.1.2.1 dX6_addSignal_10 rfl (lv_at hl 0 rfl) ?_
    refine mr_getR C hw kc_6 0 (by decide) tf_61 ff_61_0 wd_228 dX6_addSignal_11 (by decide) rfl ?_
    refine lv_bipush (v := 6) C.1.1 C.1.2.1 dX6_addSignal_14 (by decide) ?_
    refine mr_aald C hw (by decide) tf_62 (by decide) (by decide) rfl rfl (show vp_in 6 10 from by unfold vp_in; decide) ff_62_6 dX6_addSignal_16 ?_
    refine lv_aload_n C.1.1 C.1.2.1 dX6_addSignal_17 rfl (lv_at hl 0 rfl) ?_
    refine mr_getI C hw kc_6 10 (by decide) tf_61 wd_243 dX6_addSignal_18 (by decide) rfl ?_
    refine lv_iload_n C.1.1 C.1.2.1 dX6_addSignal_21 rfl (lv_at hl 1 rfl) ?_
    obtain ⟨q9, hD⟩ := g_ck hD
    obtain ⟨M10, eM10, hD⟩ := g_let hD
    refine mr_iast C hw (by decide) tf_69 q9 dX6_addSignal_22 (fun H locs hw => ?_)
    replace hw : mw_W G ad NF TF FF M10 L H locs := by rw [eM10]; exact hw
    refine lv_aload_n C.1.1 C.1.2.1 dX6_addSignal_23 rfl (lv_at hl 0 rfl) ?_
    refine mr_getR C hw kc_6 0 (by decide) tf_61 ff_61_0 wd_228 dX6_addSignal_24 (by decide) rfl ?_
    refine lv_iconst (v := 0) C.1.1 C.1.2.1 dX6_addSignal_27 (by decide) ?_
    refine mr_aald C hw (by decide) tf_62 (by decide) (by decide) rfl rfl (show vp_in 0 10 from by unfold vp_in; decide) ff_62_0 dX6_addSignal_28 ?_
    refine lv_aload_n C.1.1 C.1.2.1 dX6_addSignal_29 rfl (lv_at hl 0 rfl) ?_
    refine mr_getI C hw kc_6 10 (by decide) tf_61 wd_243 dX6_addSignal_30 (by decide) rfl ?_
    refine lv_iload_n C.1.1 C.1.2.1 dX6_addSignal_33 rfl (lv_at hl 2 rfl) ?_
    obtain ⟨q12, hD⟩ := g_ck hD
    obtain ⟨M13, eM13, hD⟩ := g_let hD
    refine mr_iast C hw (by decide) tf_63 q12 dX6_addSignal_34 (fun H locs hw => ?_)
    replace hw : mw_W G ad NF TF FF M13 L H locs := by rw [eM13]; exact hw
    refine lv_aload_n C.1.1 C.1.2.1 dX6_addSignal_35 rfl (lv_at hl 0 rfl) ?_
    refine mr_getR C hw kc_6 0 (by decide) tf_61 ff_61_0 wd_228 dX6_addSignal_36 (by decide) rfl ?_
    refine lv_iconst (v := 1) C.1.1 C.1.2.1 dX6_addSignal_39 (by decide) ?_
    refine mr_aald C hw (by decide) tf_62 (by decide) (by decide) rfl rfl (show vp_in 1 10 from by unfold vp_in; decide) ff_62_1 dX6_addSignal_40 ?_
    refine lv_aload_n C.1.1 C.1.2.1 dX6_addSignal_41 rfl (lv_at hl 0 rfl) ?_
    refine mr_getI C hw kc_6 10 (by decide) tf_61 wd_243 dX6_addSignal_42 (by decide) rfl ?_
    refine lv_iload_n C.1.1 C.1.2.1 dX6_addSignal_45 rfl (lv_at hl 3 rfl) ?_
    obtain ⟨q15, hD⟩ := g_ck hD
    obtain ⟨M16, eM16, hD⟩ := g_let hD
    refine mr_iast C hw (by decide) tf_64 q15 dX6_addSignal_46 (fun H locs hw => ?_)
    replace hw : mw_W G ad NF TF FF M16 L H locs := by rw [eM16]; exact hw
    refine lv_aload_n C.1.1 C.1.2.1 dX6_addSignal_47 rfl (lv_at hl 0 rfl) ?_
    refine mr_getR C hw kc_6 0 (by decide) tf_61 ff_61_0 wd_228 dX6_addSignal_48 (by decide) rfl ?_
    refine lv_iconst (v := 2) C.1.1 C.1.2.1 dX6_addSignal_51 (by decide) ?_
    refine mr_aald C hw (by decide) tf_62 (by decide) (by decide) rfl rfl (show vp_in 2 10 from by unfold vp_in; decide) ff_62_2 dX6_addSignal_52 ?_
    refine lv_aload_n C.1.1 C.1.2.1 dX6_addSignal_53 rfl (lv_at hl 0 rfl) ?_
    refine mr_getI C hw kc_6 10 (by decide) tf_61 wd_243 dX6_addSignal_54 (by decide) rfl ?_
    refine lv_iload C.1.1 C.1.2.1 dX6_addSignal_57 (lv_at hl 4 rfl) ?_
    obtain ⟨q18, hD⟩ := g_ck hD
    obtain ⟨M19, eM19, hD⟩ := g_let hD
    refine mr_iast C hw (by decide) tf_65 q18 dX6_addSignal_59 (fun H locs hw => ?_)
    replace hw : mw_W G ad NF TF FF M19 L H locs := by rw [eM19]; exact hw
    refine lv_aload_n C.1.1 C.1.2.1 dX6_addSignal_60 rfl (lv_at hl 0 rfl) ?_
    refine mr_getR C hw kc_6 0 (by decide) tf_61 ff_61_0 wd_228 dX6_addSignal_61 (by decide) rfl ?_
    refine lv_iconst (v := 3) C.1.1 C.1.2.1 dX6_addSignal_64 (by decide) ?_
    refine mr_aald C hw (by decide) tf_62 (by decide) (by decide) rfl rfl (show vp_in 3 10 from by unfold vp_in; decide) ff_62_3 dX6_addSignal_65 ?_
    refine lv_aload_n C.1.1 C.1.2.1 dX6_addSignal_66 rfl (lv_at hl 0 rfl) ?_
    refine mr_getI C hw kc_6 10 (by decide) tf_61 wd_243 dX6_addSignal_67 (by decide) rfl ?_
    refine lv_iload C.1.1 C.1.2.1 dX6_addSignal_70 (lv_at hl 5 rfl) ?_
    obtain ⟨q21, hD⟩ := g_ck hD
    obtain ⟨M22, eM22, hD⟩ := g_let hD
    refine mr_iast C hw (by decide) tf_66 q21 dX6_addSignal_72 (fun H locs hw => ?_)
    replace hw : mw_W G ad NF TF FF M22 L H locs := by rw [eM22]; exact hw
    refine lv_aload_n C.1.1 C.1.2.1 dX6_addSignal_73 rfl (lv_at hl 0 rfl) ?_
    refine mr_getR C hw kc_6 0 (by decide) tf_61 ff_61_0 wd_228 dX6_addSignal_74 (by decide) rfl ?_
    refine lv_iconst (v := 4) C.1.1 C.1.2.1 dX6_addSignal_77 (by decide) ?_
    refine mr_aald C hw (by decide) tf_62 (by decide) (by decide) rfl rfl (show vp_in 4 10 from by unfold vp_in; decide) ff_62_4 dX6_addSignal_78 ?_
    refine lv_aload_n C.1.1 C.1.2.1 dX6_addSignal_79 rfl (lv_at hl 0 rfl) ?_
    refine mr_getI C hw kc_6 10 (by decide) tf_61 wd_243 dX6_addSignal_80 (by decide) rfl ?_
    refine lv_iload C.1.1 C.1.2.1 dX6_addSignal_83 (lv_at hl 6 rfl) ?_
    refine lv_if_eq (tgt := 92) C.1.1 C.1.2.1 dX6_addSignal_85 (by decide) (fun c24 => ?_) (fun c24 => ?_)
    · replace hD := g_pos c24 hD
      refine lv_iconst (v := 0) C.1.1 C.1.2.1 dX6_addSignal_92 (by decide) ?_
      exact hb93 (M22 61 10) 0 M22 L _ _ ls hD hw (lv_sub hl [0, 7] rfl)
    · replace hD := g_neg c24 hD
      refine lv_iconst (v := 1) C.1.1 C.1.2.1 dX6_addSignal_88 (by decide) ?_
      refine lv_goto (tgt := 93) C.1.1 C.1.2.1 dX6_addSignal_89 (by decide) ?_
      exact hb93 (M22 61 10) 1 M22 L _ _ ls hD hw (lv_sub hl [0, 7] rfl)
  · replace hD := g_neg c7 hD
    exact mr_vret C hr hlocks hw (Option.some.inj hD) dX6_addSignal_9

theorem dX6_addKey_0 : decode cX6_addKey 0 = .ok (.aload_n 0, 1) := by decide +kernel
theorem dX6_addKey_1 : decode cX6_addKey 1 = .ok (.getfield 51, 3) := by decide +kernel
theorem dX6_addKey_4 : decode cX6_addKey 4 = .ok (.sipush 400, 3) := by decide +kernel
theorem dX6_addKey_7 : decode cX6_addKey 7 = .ok (.if_icmp .lt 4, 3) := by decide +kernel
theorem dX6_addKey_10 : decode cX6_addKey 10 = .ok (.return_, 1) := by decide +kernel
theorem dX6_addKey_11 : decode cX6_addKey 11 = .ok (.aload_n 0, 1) := by decide +kernel
theorem dX6_addKey_12 : decode cX6_addKey 12 = .ok (.getfield 23, 3) := by decide +kernel
theorem dX6_addKey_15 : decode cX6_addKey 15 = .ok (.iconst 0, 1) := by decide +kernel
theorem dX6_addKey_16 : decode cX6_addKey 16 = .ok (.aaload, 1) := by decide +kernel
theorem dX6_addKey_17 : decode cX6_addKey 17 = .ok (.aload_n 0, 1) := by decide +kernel
theorem dX6_addKey_18 : decode cX6_addKey 18 = .ok (.getfield 51, 3) := by decide +kernel
theorem dX6_addKey_21 : decode cX6_addKey 21 = .ok (.iload_n 1, 1) := by decide +kernel
theorem dX6_addKey_22 : decode cX6_addKey 22 = .ok (.iastore, 1) := by decide +kernel
theorem dX6_addKey_23 : decode cX6_addKey 23 = .ok (.aload_n 0, 1) := by decide +kernel
theorem dX6_addKey_24 : decode cX6_addKey 24 = .ok (.getfield 23, 3) := by decide +kernel
theorem dX6_addKey_27 : decode cX6_addKey 27 = .ok (.iconst 1, 1) := by decide +kernel
theorem dX6_addKey_28 : decode cX6_addKey 28 = .ok (.aaload, 1) := by decide +kernel
theorem dX6_addKey_29 : decode cX6_addKey 29 = .ok (.aload_n 0, 1) := by decide +kernel
theorem dX6_addKey_30 : decode cX6_addKey 30 = .ok (.getfield 51, 3) := by decide +kernel
theorem dX6_addKey_33 : decode cX6_addKey 33 = .ok (.iload_n 2, 1) := by decide +kernel
theorem dX6_addKey_34 : decode cX6_addKey 34 = .ok (.iastore, 1) := by decide +kernel
theorem dX6_addKey_35 : decode cX6_addKey 35 = .ok (.aload_n 0, 1) := by decide +kernel
theorem dX6_addKey_36 : decode cX6_addKey 36 = .ok (.getfield 23, 3) := by decide +kernel
theorem dX6_addKey_39 : decode cX6_addKey 39 = .ok (.iconst 2, 1) := by decide +kernel
theorem dX6_addKey_40 : decode cX6_addKey 40 = .ok (.aaload, 1) := by decide +kernel
theorem dX6_addKey_41 : decode cX6_addKey 41 = .ok (.aload_n 0, 1) := by decide +kernel
theorem dX6_addKey_42 : decode cX6_addKey 42 = .ok (.getfield 51, 3) := by decide +kernel
theorem dX6_addKey_45 : decode cX6_addKey 45 = .ok (.iload_n 3, 1) := by decide +kernel
theorem dX6_addKey_46 : decode cX6_addKey 46 = .ok (.iastore, 1) := by decide +kernel
theorem dX6_addKey_47 : decode cX6_addKey 47 = .ok (.aload_n 0, 1) := by decide +kernel
theorem dX6_addKey_48 : decode cX6_addKey 48 = .ok (.dup, 1) := by decide +kernel
theorem dX6_addKey_49 : decode cX6_addKey 49 = .ok (.getfield 51, 3) := by decide +kernel
theorem dX6_addKey_52 : decode cX6_addKey 52 = .ok (.iconst 1, 1) := by decide +kernel
theorem dX6_addKey_53 : decode cX6_addKey 53 = .ok (.iadd, 1) := by decide +kernel
theorem dX6_addKey_54 : decode cX6_addKey 54 = .ok (.putfield 51, 3) := by decide +kernel
theorem dX6_addKey_57 : decode cX6_addKey 57 = .ok (.return_, 1) := by decide +kernel
theorem cwX6_addKey : mw_cwV yX6_addKey cX6_addKey 4 (none) 3 := ⟨⟨wd_7, wd_1091, by decide +kernel⟩, wd_1089, wd_1090⟩
set_option maxHeartbeats 4000000 in
set_option maxRecDepth 100000 in
theorem tX6_addKey (l : Launch) (G : mwG) (ad : Nat → Nat) (fu : Nat) (a1 : Int32) (a2 : Int32) (a3 : Int32) (M : mwM) (L : mwL) {M0 : mwM} {L0 : mwL} (hD : DX6_addKey fu a1 a2 a3 M L = some (M0, L0)) : Met l yX6_addKey (Cond.code yX6_addKey cX6_addKey 4 (none) :: GT) ({ frames := 0, cells := 0, slots := 0, locals := 0 }) (mw_Pre G ad NF TF FF M L [.ref (ad 61), .int a1, .int a2, .int a3]) (mw_Qv G ad NF TF FF (mw_eqV M0 L0)) 0 0 (mw_fr G) := by
  refine mw_enter (by decide) (Nat.le_of_ble_eq_true rfl) ?_
  intro p e s m below meth c ls C hr hlocks hnm hw hl
  have hl : lv_has ls 4 [(0, .ref (ad 61)), (1, .int a1), (2, .int a2), (3, .int a3)] := hl
  unfold DX6_addKey at hD
  refine lv_aload_n C.1.1 C.1.2.1 dX6_addKey_0 rfl (lv_at hl 0 rfl) ?_
  refine mr_getI C hw kc_6 12 (by decide) tf_61 wd_249 dX6_addKey_1 (by decide) rfl ?_
  refine lv_sipush (v := 400) C.1.1 C.1.2.1 dX6_addKey_4 (by decide) ?_
  refine lv_icmp_lt (tgt := 11) C.1.1 C.1.2.1 dX6_addKey_7 (by decide) (fun c1 => ?_) (fun c1 => ?_)
  · replace hD := g_pos c1 hD
    refine lv_aload_n C.1.1 C.1.2.1 dX6_addKey_11 rfl (lv_at hl 0 rfl) ?_
    refine mr_getR C hw kc_6 3 (by decide) tf_61 ff_61_3 wd_235 dX6_addKey_12 (by decide) rfl ?_
    refine lv_iconst (v := 0) C.1.1 C.1.2.1 dX6_addKey_15 (by decide) ?_
    refine mr_aald C hw (by decide) tf_81 (by decide) (by decide) rfl rfl (show vp_in 0 3 from by unfold vp_in; decide) ff_81_0 dX6_addKey_16 ?_
    refine lv_aload_n C.1.1 C.1.2.1 dX6_addKey_17 rfl (lv_at hl 0 rfl) ?_
    refine mr_getI C hw kc_6 12 (by decide) tf_61 wd_249 dX6_addKey_18 (by decide) rfl ?_
    refine lv_iload_n C.1.1 C.1.2.1 dX6_addKey_21 rfl (lv_at hl 1 rfl) ?_
    obtain ⟨q3, hD⟩ := g_ck hD
    obtain ⟨M4, eM4, hD⟩ := g_let hD
    refine mr_iast C hw (by decide) tf_82 q3 dX6_addKey_22 (fun H locs hw => ?_)
    replace hw : mw_W G ad NF TF FF M4 L H locs := by rw [eM4]; exact hw
    refine lv_aload_n C.1.1 C.1.2.1 dX6_addKey_23 rfl (lv_at hl 0 rfl) ?_
    refine mr_getR C hw kc_6 3 (by decide) tf_61 ff_61_3 wd_235 dX6_addKey_24 (by decide) rfl ?_
    refine lv_iconst (v := 1) C.1.1 C.1.2.1 dX6_addKey_27 (by decide) ?_
    refine mr_aald C hw (by decide) tf_81 (by decide) (by decide) rfl rfl (show vp_in 1 3 from by unfold vp_in; decide) ff_81_1 dX6_addKey_28 ?_
    refine lv_aload_n C.1.1 C.1.2.1 dX6_addKey_29 rfl (lv_at hl 0 rfl) ?_
    refine mr_getI C hw kc_6 12 (by decide) tf_61 wd_249 dX6_addKey_30 (by decide) rfl ?_
    refine lv_iload_n C.1.1 C.1.2.1 dX6_addKey_33 rfl (lv_at hl 2 rfl) ?_
    obtain ⟨q6, hD⟩ := g_ck hD
    obtain ⟨M7, eM7, hD⟩ := g_let hD
    refine mr_iast C hw (by decide) tf_83 q6 dX6_addKey_34 (fun H locs hw => ?_)
    replace hw : mw_W G ad NF TF FF M7 L H locs := by rw [eM7]; exact hw
    refine lv_aload_n C.1.1 C.1.2.1 dX6_addKey_35 rfl (lv_at hl 0 rfl) ?_
    refine mr_getR C hw kc_6 3 (by decide) tf_61 ff_61_3 wd_235 dX6_addKey_36 (by decide) rfl ?_
    refine lv_iconst (v := 2) C.1.1 C.1.2.1 dX6_addKey_39 (by decide) ?_
    refine mr_aald C hw (by decide) tf_81 (by decide) (by decide) rfl rfl (show vp_in 2 3 from by unfold vp_in; decide) ff_81_2 dX6_addKey_40 ?_
    refine lv_aload_n C.1.1 C.1.2.1 dX6_addKey_41 rfl (lv_at hl 0 rfl) ?_
    refine mr_getI C hw kc_6 12 (by decide) tf_61 wd_249 dX6_addKey_42 (by decide) rfl ?_
    refine lv_iload_n C.1.1 C.1.2.1 dX6_addKey_45 rfl (lv_at hl 3 rfl) ?_
    obtain ⟨q9, hD⟩ := g_ck hD
    obtain ⟨M10, eM10, hD⟩ := g_let hD
    refine mr_iast C hw (by decide) tf_84 q9 dX6_addKey_46 (fun H locs hw => ?_)
    replace hw : mw_W G ad NF TF FF M10 L H locs := by rw [eM10]; exact hw
    refine lv_aload_n C.1.1 C.1.2.1 dX6_addKey_47 rfl (lv_at hl 0 rfl) ?_
    refine lv_dup C.1.1 C.1.2.1 dX6_addKey_48 rfl ?_
    refine mr_getI C hw kc_6 12 (by decide) tf_61 wd_249 dX6_addKey_49 (by decide) rfl ?_
    refine lv_iconst (v := 1) C.1.1 C.1.2.1 dX6_addKey_52 (by decide) ?_
    refine lv_iadd C.1.1 C.1.2.1 dX6_addKey_53 ?_
    obtain ⟨M11, eM11, hD⟩ := g_let hD
    refine mr_putI C hw kc_6 12 (by decide) tf_61 wd_249 dX6_addKey_54 (by decide) rfl rfl rfl rfl (fun H locs hw => ?_)
    replace hw : mw_W G ad NF TF FF M11 L H locs := by rw [eM11]; exact hw
    exact mr_vret C hr hlocks hw (Option.some.inj hD) dX6_addKey_57
  · replace hD := g_neg c1 hD
    exact mr_vret C hr hlocks hw (Option.some.inj hD) dX6_addKey_10

theorem dX6_keyOf_0 : decode cX6_keyOf 0 = .ok (.iconst 0, 1) := by decide +kernel
theorem dX6_keyOf_1 : decode cX6_keyOf 1 = .ok (.istore_n 3, 1) := by decide +kernel
theorem dX6_keyOf_2 : decode cX6_keyOf 2 = .ok (.iload_n 3, 1) := by decide +kernel
theorem dX6_keyOf_3 : decode cX6_keyOf 3 = .ok (.aload_n 0, 1) := by decide +kernel
theorem dX6_keyOf_4 : decode cX6_keyOf 4 = .ok (.getfield 51, 3) := by decide +kernel
theorem dX6_keyOf_7 : decode cX6_keyOf 7 = .ok (.if_icmp .ge 42, 3) := by decide +kernel
theorem dX6_keyOf_10 : decode cX6_keyOf 10 = .ok (.aload_n 0, 1) := by decide +kernel
theorem dX6_keyOf_11 : decode cX6_keyOf 11 = .ok (.getfield 23, 3) := by decide +kernel
theorem dX6_keyOf_14 : decode cX6_keyOf 14 = .ok (.iconst 0, 1) := by decide +kernel
theorem dX6_keyOf_15 : decode cX6_keyOf 15 = .ok (.aaload, 1) := by decide +kernel
theorem dX6_keyOf_16 : decode cX6_keyOf 16 = .ok (.iload_n 3, 1) := by decide +kernel
theorem dX6_keyOf_17 : decode cX6_keyOf 17 = .ok (.iaload, 1) := by decide +kernel
theorem dX6_keyOf_18 : decode cX6_keyOf 18 = .ok (.iload_n 1, 1) := by decide +kernel
theorem dX6_keyOf_19 : decode cX6_keyOf 19 = .ok (.if_icmp .ne 24, 3) := by decide +kernel
theorem dX6_keyOf_22 : decode cX6_keyOf 22 = .ok (.aload_n 0, 1) := by decide +kernel
theorem dX6_keyOf_23 : decode cX6_keyOf 23 = .ok (.getfield 23, 3) := by decide +kernel
theorem dX6_keyOf_26 : decode cX6_keyOf 26 = .ok (.iconst 1, 1) := by decide +kernel
theorem dX6_keyOf_27 : decode cX6_keyOf 27 = .ok (.aaload, 1) := by decide +kernel
theorem dX6_keyOf_28 : decode cX6_keyOf 28 = .ok (.iload_n 3, 1) := by decide +kernel
theorem dX6_keyOf_29 : decode cX6_keyOf 29 = .ok (.iaload, 1) := by decide +kernel
theorem dX6_keyOf_30 : decode cX6_keyOf 30 = .ok (.iload_n 2, 1) := by decide +kernel
theorem dX6_keyOf_31 : decode cX6_keyOf 31 = .ok (.if_icmp .ne 12, 3) := by decide +kernel
theorem dX6_keyOf_34 : decode cX6_keyOf 34 = .ok (.aload_n 0, 1) := by decide +kernel
theorem dX6_keyOf_35 : decode cX6_keyOf 35 = .ok (.getfield 23, 3) := by decide +kernel
theorem dX6_keyOf_38 : decode cX6_keyOf 38 = .ok (.iconst 2, 1) := by decide +kernel
theorem dX6_keyOf_39 : decode cX6_keyOf 39 = .ok (.aaload, 1) := by decide +kernel
theorem dX6_keyOf_40 : decode cX6_keyOf 40 = .ok (.iload_n 3, 1) := by decide +kernel
theorem dX6_keyOf_41 : decode cX6_keyOf 41 = .ok (.iaload, 1) := by decide +kernel
theorem dX6_keyOf_42 : decode cX6_keyOf 42 = .ok (.ireturn, 1) := by decide +kernel
theorem dX6_keyOf_43 : decode cX6_keyOf 43 = .ok (.iinc 3 1, 3) := by decide +kernel
theorem dX6_keyOf_46 : decode cX6_keyOf 46 = .ok (.goto (-44), 3) := by decide +kernel
theorem dX6_keyOf_49 : decode cX6_keyOf 49 = .ok (.iconst 0, 1) := by decide +kernel
theorem dX6_keyOf_50 : decode cX6_keyOf 50 = .ok (.ireturn, 1) := by decide +kernel
theorem cwX6_keyOf : mw_cwV yX6_keyOf cX6_keyOf 4 ((some .int)) 2 := ⟨⟨wd_7, wd_1087, by decide +kernel⟩, wd_1085, wd_1086⟩
set_option maxHeartbeats 4000000 in
set_option maxRecDepth 100000 in
theorem tX6_keyOf (l : Launch) (G : mwG) (ad : Nat → Nat) (fu : Nat) (a1 : Int32) (a2 : Int32) (M : mwM) (L : mwL) {r0 : Int32} {M0 : mwM} {L0 : mwL} (hD : DX6_keyOf fu a1 a2 M L = some (r0, M0, L0)) : Met l yX6_keyOf (Cond.code yX6_keyOf cX6_keyOf 4 ((some .int)) :: GT) ({ frames := 0, cells := 0, slots := 0, locals := 0 }) (mw_Pre G ad NF TF FF M L [.ref (ad 61), .int a1, .int a2]) (mw_Qi G ad NF TF FF (mw_eqI r0 M0 L0)) 0 0 (mw_fr G) := by
  refine mw_enter (by decide) (Nat.le_of_ble_eq_true rfl) ?_
  intro p e s m below meth c ls C hr hlocks hnm hw hl
  have hl : lv_has ls 4 [(0, .ref (ad 61)), (1, .int a1), (2, .int a2)] := hl
  have hh2 : ∀ (f : Nat) (v3 : Int32) (M : mwM) (L : mwL) (H : Heap) (locs : List Loc) (ls : Array Slot), fX6_keyOf_h2 fu a1 a2 f (v3, M, L) = some (r0, M0, L0) → mw_W G ad NF TF FF M L H locs → lv_has ls 4 [(0, .ref (ad 61)), (1, .int a1), (2, .int a2), (3, .int v3)] → W p l e ({ frames := 0, cells := 0, slots := 0, locals := 0 }) s m [.ref (ad 61), .int a1, .int a2].toArray below meth c H locs 0 0 (MQ below (mw_Qi G ad NF TF FF (mw_eqI r0 M0 L0)) [.ref (ad 61), .int a1, .int a2].toArray s 0 0 (mw_fr G)) (F0 m 2 ls []) := by
    intro f
    induction f with
    | zero => intro v3 M L H locs ls hD; cases hD
    | succ f2 ih2 =>
      intro v3 M L H locs ls hD hw hl
      replace hD : fX6_keyOf_i2 fu a1 a2 (fX6_keyOf_h2 fu a1 a2 f2) v3 M L = some (r0, M0, L0) := hD
      have hb43 : ∀ (v3 : Int32) (M : mwM) (L : mwL) (H : Heap) (locs : List Loc) (ls : Array Slot), fX6_keyOf_b43 fu a1 a2 (fX6_keyOf_h2 fu a1 a2 f2) v3 M L = some (r0, M0, L0) → mw_W G ad NF TF FF M L H locs → lv_has ls 4 [(0, .ref (ad 61)), (1, .int a1), (2, .int a2), (3, .int v3)] → W p l e ({ frames := 0, cells := 0, slots := 0, locals := 0 }) s m [.ref (ad 61), .int a1, .int a2].toArray below meth c H locs 0 0 (MQ below (mw_Qi G ad NF TF FF (mw_eqI r0 M0 L0)) [.ref (ad 61), .int a1, .int a2].toArray s 0 0 (mw_fr G)) (F0 m 43 ls []) := by
        intro v3 M L H locs ls hD hw hl
        unfold fX6_keyOf_b43 at hD
        obtain ⟨x10, ex10, hD⟩ := g_let hD
        refine lv_iinc (v := x10) (lv' := [(3, .int x10), (0, .ref (ad 61)), (1, .int a1), (2, .int a2)]) C.1.1 C.1.2.1 dX6_keyOf_43 hl (k := 3) rfl (by rw [ex10]; rfl) (by decide) rfl (fun ls hl => ?_)
        refine lv_goto (tgt := 2) C.1.1 C.1.2.1 dX6_keyOf_46 (by decide) ?_
        exact ih2 x10 M L _ _ ls hD hw (lv_sub hl [1, 2, 3, 0] rfl)
      unfold fX6_keyOf_i2 at hD
      refine lv_iload_n C.1.1 C.1.2.1 dX6_keyOf_2 rfl (lv_at hl 3 rfl) ?_
      refine lv_aload_n C.1.1 C.1.2.1 dX6_keyOf_3 rfl (lv_at hl 0 rfl) ?_
      refine mr_getI C hw kc_6 12 (by decide) tf_61 wd_249 dX6_keyOf_4 (by decide) rfl ?_
      refine lv_icmp_ge (tgt := 49) C.1.1 C.1.2.1 dX6_keyOf_7 (by decide) (fun c1 => ?_) (fun c1 => ?_)
      · replace hD := g_pos c1 hD
        refine lv_iconst (v := 0) C.1.1 C.1.2.1 dX6_keyOf_49 (by decide) ?_
        exact mr_iret C hr hlocks hw rfl (Option.some.inj hD) dX6_keyOf_50
      · replace hD := g_neg c1 hD
        refine lv_aload_n C.1.1 C.1.2.1 dX6_keyOf_10 rfl (lv_at hl 0 rfl) ?_
        refine mr_getR C hw kc_6 3 (by decide) tf_61 ff_61_3 wd_235 dX6_keyOf_11 (by decide) rfl ?_
        refine lv_iconst (v := 0) C.1.1 C.1.2.1 dX6_keyOf_14 (by decide) ?_
        refine mr_aald C hw (by decide) tf_81 (by decide) (by decide) rfl rfl (show vp_in 0 3 from by unfold vp_in; decide) ff_81_0 dX6_keyOf_15 ?_
        refine lv_iload_n C.1.1 C.1.2.1 dX6_keyOf_16 rfl (lv_at hl 3 rfl) ?_
        obtain ⟨q3, hD⟩ := g_ck hD
        refine mr_iald C hw (by decide) tf_82 q3 dX6_keyOf_17 ?_
        refine lv_iload_n C.1.1 C.1.2.1 dX6_keyOf_18 rfl (lv_at hl 1 rfl) ?_
        refine lv_icmp_ne (tgt := 43) C.1.1 C.1.2.1 dX6_keyOf_19 (by decide) (fun c4 => ?_) (fun c4 => ?_)
        · replace hD := g_neg c4 hD
          exact hb43 v3 M L _ _ ls hD hw (lv_sub hl [0, 1, 2, 3] rfl)
        · replace hD := g_pos c4 hD
          refine lv_aload_n C.1.1 C.1.2.1 dX6_keyOf_22 rfl (lv_at hl 0 rfl) ?_
          refine mr_getR C hw kc_6 3 (by decide) tf_61 ff_61_3 wd_235 dX6_keyOf_23 (by decide) rfl ?_
          refine lv_iconst (v := 1) C.1.1 C.1.2.1 dX6_keyOf_26 (by decide) ?_
          refine mr_aald C hw (by decide) tf_81 (by decide) (by decide) rfl rfl (show vp_in 1 3 from by unfold vp_in; decide) ff_81_1 dX6_keyOf_27 ?_
          refine lv_iload_n C.1.1 C.1.2.1 dX6_keyOf_28 rfl (lv_at hl 3 rfl) ?_
          obtain ⟨q6, hD⟩ := g_ck hD
          refine mr_iald C hw (by decide) tf_83 q6 dX6_keyOf_29 ?_
          refine lv_iload_n C.1.1 C.1.2.1 dX6_keyOf_30 rfl (lv_at hl 2 rfl) ?_
          refine lv_icmp_ne (tgt := 43) C.1.1 C.1.2.1 dX6_keyOf_31 (by decide) (fun c7 => ?_) (fun c7 => ?_)
          · replace hD := g_neg c7 hD
            exact hb43 v3 M L _ _ ls hD hw (lv_sub hl [0, 1, 2, 3] rfl)
          · replace hD := g_pos c7 hD
            refine lv_aload_n C.1.1 C.1.2.1 dX6_keyOf_34 rfl (lv_at hl 0 rfl) ?_
            refine mr_getR C hw kc_6 3 (by decide) tf_61 ff_61_3 wd_235 dX6_keyOf_35 (by decide) rfl ?_
            refine lv_iconst (v := 2) C.1.1 C.1.2.1 dX6_keyOf_38 (by decide) ?_
            refine mr_aald C hw (by decide) tf_81 (by decide) (by decide) rfl rfl (show vp_in 2 3 from by unfold vp_in; decide) ff_81_2 dX6_keyOf_39 ?_
            refine lv_iload_n C.1.1 C.1.2.1 dX6_keyOf_40 rfl (lv_at hl 3 rfl) ?_
            obtain ⟨q9, hD⟩ := g_ck hD
            refine mr_iald C hw (by decide) tf_84 q9 dX6_keyOf_41 ?_
            exact mr_iret C hr hlocks hw rfl (Option.some.inj hD) dX6_keyOf_42
  unfold DX6_keyOf at hD
  refine lv_iconst (v := 0) C.1.1 C.1.2.1 dX6_keyOf_0 (by decide) ?_
  refine lv_istore_n (lv' := [(3, .int 0), (0, .ref (ad 61)), (1, .int a1), (2, .int a2)]) C.1.1 C.1.2.1 dX6_keyOf_1 rfl hl (by decide) rfl (fun ls hl => ?_)
  exact hh2 fu 0 M L _ _ ls hD hw (lv_sub hl [1, 2, 3, 0] rfl)

theorem dX6_octetsOf_0 : decode cX6_octetsOf 0 = .ok (.aload_n 0, 1) := by decide +kernel
theorem dX6_octetsOf_1 : decode cX6_octetsOf 1 = .ok (.getfield 11, 3) := by decide +kernel
theorem dX6_octetsOf_4 : decode cX6_octetsOf 4 = .ok (.iconst 0, 1) := by decide +kernel
theorem dX6_octetsOf_5 : decode cX6_octetsOf 5 = .ok (.aaload, 1) := by decide +kernel
theorem dX6_octetsOf_6 : decode cX6_octetsOf 6 = .ok (.iload_n 1, 1) := by decide +kernel
theorem dX6_octetsOf_7 : decode cX6_octetsOf 7 = .ok (.iaload, 1) := by decide +kernel
theorem dX6_octetsOf_8 : decode cX6_octetsOf 8 = .ok (.bipush 7, 2) := by decide +kernel
theorem dX6_octetsOf_10 : decode cX6_octetsOf 10 = .ok (.iadd, 1) := by decide +kernel
theorem dX6_octetsOf_11 : decode cX6_octetsOf 11 = .ok (.bipush 8, 2) := by decide +kernel
theorem dX6_octetsOf_13 : decode cX6_octetsOf 13 = .ok (.idiv, 1) := by decide +kernel
theorem dX6_octetsOf_14 : decode cX6_octetsOf 14 = .ok (.ireturn, 1) := by decide +kernel
theorem cwX6_octetsOf : mw_cwV yX6_octetsOf cX6_octetsOf 2 ((some .int)) 1 := ⟨⟨wd_7, wd_1128, by decide +kernel⟩, wd_1127, sl_45⟩
set_option maxHeartbeats 4000000 in
set_option maxRecDepth 100000 in
theorem tX6_octetsOf (l : Launch) (G : mwG) (ad : Nat → Nat) (fu : Nat) (a1 : Int32) (M : mwM) (L : mwL) {r0 : Int32} {M0 : mwM} {L0 : mwL} (hD : DX6_octetsOf fu a1 M L = some (r0, M0, L0)) : Met l yX6_octetsOf (Cond.code yX6_octetsOf cX6_octetsOf 2 ((some .int)) :: GT) ({ frames := 0, cells := 0, slots := 0, locals := 0 }) (mw_Pre G ad NF TF FF M L [.ref (ad 61), .int a1]) (mw_Qi G ad NF TF FF (mw_eqI r0 M0 L0)) 0 0 (mw_fr G) := by
  refine mw_enter (by decide) (Nat.le_of_ble_eq_true rfl) ?_
  intro p e s m below meth c ls C hr hlocks hnm hw hl
  have hl : lv_has ls 2 [(0, .ref (ad 61)), (1, .int a1)] := hl
  unfold DX6_octetsOf at hD
  refine lv_aload_n C.1.1 C.1.2.1 dX6_octetsOf_0 rfl (lv_at hl 0 rfl) ?_
  refine mr_getR C hw kc_6 0 (by decide) tf_61 ff_61_0 wd_228 dX6_octetsOf_1 (by decide) rfl ?_
  refine lv_iconst (v := 0) C.1.1 C.1.2.1 dX6_octetsOf_4 (by decide) ?_
  refine mr_aald C hw (by decide) tf_62 (by decide) (by decide) rfl rfl (show vp_in 0 10 from by unfold vp_in; decide) ff_62_0 dX6_octetsOf_5 ?_
  refine lv_iload_n C.1.1 C.1.2.1 dX6_octetsOf_6 rfl (lv_at hl 1 rfl) ?_
  obtain ⟨q2, hD⟩ := g_ck hD
  refine mr_iald C hw (by decide) tf_63 q2 dX6_octetsOf_7 ?_
  refine lv_bipush (v := 7) C.1.1 C.1.2.1 dX6_octetsOf_8 (by decide) ?_
  refine lv_iadd C.1.1 C.1.2.1 dX6_octetsOf_10 ?_
  refine lv_bipush (v := 8) C.1.1 C.1.2.1 dX6_octetsOf_11 (by decide) ?_
  refine lv_idiv C.1.1 C.1.2.1 dX6_octetsOf_13 (by decide) ?_
  exact mr_iret C hr hlocks hw rfl (Option.some.inj hD) dX6_octetsOf_14

theorem dX6_findTooLarge_0 : decode cX6_findTooLarge 0 = .ok (.iconst 0, 1) := by decide +kernel
theorem dX6_findTooLarge_1 : decode cX6_findTooLarge 1 = .ok (.istore_n 2, 1) := by decide +kernel
theorem dX6_findTooLarge_2 : decode cX6_findTooLarge 2 = .ok (.iload_n 2, 1) := by decide +kernel
theorem dX6_findTooLarge_3 : decode cX6_findTooLarge 3 = .ok (.iload_n 1, 1) := by decide +kernel
theorem dX6_findTooLarge_4 : decode cX6_findTooLarge 4 = .ok (.if_icmp .ge 76, 3) := by decide +kernel
theorem dX6_findTooLarge_7 : decode cX6_findTooLarge 7 = .ok (.iconst 0, 1) := by decide +kernel
theorem dX6_findTooLarge_8 : decode cX6_findTooLarge 8 = .ok (.istore_n 3, 1) := by decide +kernel
theorem dX6_findTooLarge_9 : decode cX6_findTooLarge 9 = .ok (.iload_n 3, 1) := by decide +kernel
theorem dX6_findTooLarge_10 : decode cX6_findTooLarge 10 = .ok (.aload_n 0, 1) := by decide +kernel
theorem dX6_findTooLarge_11 : decode cX6_findTooLarge 11 = .ok (.getfield 44, 3) := by decide +kernel
theorem dX6_findTooLarge_14 : decode cX6_findTooLarge 14 = .ok (.if_icmp .ge 60, 3) := by decide +kernel
theorem dX6_findTooLarge_17 : decode cX6_findTooLarge 17 = .ok (.aload_n 0, 1) := by decide +kernel
theorem dX6_findTooLarge_18 : decode cX6_findTooLarge 18 = .ok (.getfield 11, 3) := by decide +kernel
theorem dX6_findTooLarge_21 : decode cX6_findTooLarge 21 = .ok (.iconst 5, 1) := by decide +kernel
theorem dX6_findTooLarge_22 : decode cX6_findTooLarge 22 = .ok (.aaload, 1) := by decide +kernel
theorem dX6_findTooLarge_23 : decode cX6_findTooLarge 23 = .ok (.iload_n 3, 1) := by decide +kernel
theorem dX6_findTooLarge_24 : decode cX6_findTooLarge 24 = .ok (.iaload, 1) := by decide +kernel
theorem dX6_findTooLarge_25 : decode cX6_findTooLarge 25 = .ok (.iload_n 2, 1) := by decide +kernel
theorem dX6_findTooLarge_26 : decode cX6_findTooLarge 26 = .ok (.if_icmp .ne 23, 3) := by decide +kernel
theorem dX6_findTooLarge_29 : decode cX6_findTooLarge 29 = .ok (.aload_n 0, 1) := by decide +kernel
theorem dX6_findTooLarge_30 : decode cX6_findTooLarge 30 = .ok (.iload_n 2, 1) := by decide +kernel
theorem dX6_findTooLarge_31 : decode cX6_findTooLarge 31 = .ok (.aload_n 0, 1) := by decide +kernel
theorem dX6_findTooLarge_32 : decode cX6_findTooLarge 32 = .ok (.getfield 11, 3) := by decide +kernel
theorem dX6_findTooLarge_35 : decode cX6_findTooLarge 35 = .ok (.iconst 3, 1) := by decide +kernel
theorem dX6_findTooLarge_36 : decode cX6_findTooLarge 36 = .ok (.aaload, 1) := by decide +kernel
theorem dX6_findTooLarge_37 : decode cX6_findTooLarge 37 = .ok (.iload_n 3, 1) := by decide +kernel
theorem dX6_findTooLarge_38 : decode cX6_findTooLarge 38 = .ok (.iaload, 1) := by decide +kernel
theorem dX6_findTooLarge_39 : decode cX6_findTooLarge 39 = .ok (.invokevirtual 58, 3) := by decide +kernel
theorem dX6_findTooLarge_42 : decode cX6_findTooLarge 42 = .ok (.ifCond .eq 7, 3) := by decide +kernel
theorem dX6_findTooLarge_45 : decode cX6_findTooLarge 45 = .ok (.iconst 1, 1) := by decide +kernel
theorem dX6_findTooLarge_46 : decode cX6_findTooLarge 46 = .ok (.goto 4, 3) := by decide +kernel
theorem dX6_findTooLarge_49 : decode cX6_findTooLarge 49 = .ok (.iconst 0, 1) := by decide +kernel
theorem dX6_findTooLarge_50 : decode cX6_findTooLarge 50 = .ok (.istore 4, 2) := by decide +kernel
theorem dX6_findTooLarge_52 : decode cX6_findTooLarge 52 = .ok (.iload 4, 2) := by decide +kernel
theorem dX6_findTooLarge_54 : decode cX6_findTooLarge 54 = .ok (.ifCond .eq 14, 3) := by decide +kernel
theorem dX6_findTooLarge_57 : decode cX6_findTooLarge 57 = .ok (.aload_n 0, 1) := by decide +kernel
theorem dX6_findTooLarge_58 : decode cX6_findTooLarge 58 = .ok (.iload_n 3, 1) := by decide +kernel
theorem dX6_findTooLarge_59 : decode cX6_findTooLarge 59 = .ok (.invokevirtual 62, 3) := by decide +kernel
theorem dX6_findTooLarge_62 : decode cX6_findTooLarge 62 = .ok (.iconst 3, 1) := by decide +kernel
theorem dX6_findTooLarge_63 : decode cX6_findTooLarge 63 = .ok (.if_icmp .le 5, 3) := by decide +kernel
theorem dX6_findTooLarge_66 : decode cX6_findTooLarge 66 = .ok (.iload_n 3, 1) := by decide +kernel
theorem dX6_findTooLarge_67 : decode cX6_findTooLarge 67 = .ok (.ireturn, 1) := by decide +kernel
theorem dX6_findTooLarge_68 : decode cX6_findTooLarge 68 = .ok (.iinc 3 1, 3) := by decide +kernel
theorem dX6_findTooLarge_71 : decode cX6_findTooLarge 71 = .ok (.goto (-62), 3) := by decide +kernel
theorem dX6_findTooLarge_74 : decode cX6_findTooLarge 74 = .ok (.iinc 2 1, 3) := by decide +kernel
theorem dX6_findTooLarge_77 : decode cX6_findTooLarge 77 = .ok (.goto (-75), 3) := by decide +kernel
theorem dX6_findTooLarge_80 : decode cX6_findTooLarge 80 = .ok (.iconst (-1), 1) := by decide +kernel
theorem dX6_findTooLarge_81 : decode cX6_findTooLarge 81 = .ok (.ireturn, 1) := by decide +kernel
theorem cwX6_findTooLarge : mw_cwV yX6_findTooLarge cX6_findTooLarge 5 ((some .int)) 1 := ⟨⟨wd_7, wd_1123, by decide +kernel⟩, wd_1121, wd_1122⟩
set_option maxHeartbeats 4000000 in
set_option maxRecDepth 100000 in
theorem tX6_findTooLarge (l : Launch) (G : mwG) (ad : Nat → Nat) (fu : Nat) (a1 : Int32) (M : mwM) (L : mwL) {r0 : Int32} {M0 : mwM} {L0 : mwL} (hD : DX6_findTooLarge fu a1 M L = some (r0, M0, L0)) : Met l yX6_findTooLarge (Cond.code yX6_findTooLarge cX6_findTooLarge 5 ((some .int)) :: GT) ({ frames := 1, cells := 0, slots := 0, locals := 23 }) (mw_Pre G ad NF TF FF M L [.ref (ad 61), .int a1]) (mw_Qi G ad NF TF FF (mw_eqI r0 M0 L0)) 0 0 (mw_fr G) := by
  refine mw_enter (by decide) (Nat.le_of_ble_eq_true rfl) ?_
  intro p e s m below meth c ls C hr hlocks hnm hw hl
  have hl : lv_has ls 5 [(0, .ref (ad 61)), (1, .int a1)] := hl
  have hh2 : ∀ (f : Nat) (v2 : Int32) (M : mwM) (L : mwL) (H : Heap) (locs : List Loc) (ls : Array Slot), fX6_findTooLarge_h2 fu a1 f (v2, M, L) = some (r0, M0, L0) → mw_W G ad NF TF FF M L H locs → lv_has ls 5 [(0, .ref (ad 61)), (1, .int a1), (2, .int v2)] → W p l e ({ frames := 1, cells := 0, slots := 0, locals := 23 }) s m [.ref (ad 61), .int a1].toArray below meth c H locs 0 0 (MQ below (mw_Qi G ad NF TF FF (mw_eqI r0 M0 L0)) [.ref (ad 61), .int a1].toArray s 0 0 (mw_fr G)) (F0 m 2 ls []) := by
    intro f
    induction f with
    | zero => intro v2 M L H locs ls hD; cases hD
    | succ f2 ih2 =>
      intro v2 M L H locs ls hD hw hl
      replace hD : fX6_findTooLarge_i2 fu a1 (fX6_findTooLarge_h2 fu a1 f2) v2 M L = some (r0, M0, L0) := hD
      have hh9 : ∀ (f : Nat) (v2 : Int32) (v3 : Int32) (M : mwM) (L : mwL) (H : Heap) (locs : List Loc) (ls : Array Slot), fX6_findTooLarge_h9 fu a1 (fX6_findTooLarge_h2 fu a1 f2) f (v2, v3, M, L) = some (r0, M0, L0) → mw_W G ad NF TF FF M L H locs → lv_has ls 5 [(0, .ref (ad 61)), (1, .int a1), (2, .int v2), (3, .int v3)] → W p l e ({ frames := 1, cells := 0, slots := 0, locals := 23 }) s m [.ref (ad 61), .int a1].toArray below meth c H locs 0 0 (MQ below (mw_Qi G ad NF TF FF (mw_eqI r0 M0 L0)) [.ref (ad 61), .int a1].toArray s 0 0 (mw_fr G)) (F0 m 9 ls []) := by
        intro f
        induction f with
        | zero => intro v2 v3 M L H locs ls hD; cases hD
        | succ f9 ih9 =>
          intro v2 v3 M L H locs ls hD hw hl
          replace hD : fX6_findTooLarge_i9 fu a1 (fX6_findTooLarge_h2 fu a1 f2) (fX6_findTooLarge_h9 fu a1 (fX6_findTooLarge_h2 fu a1 f2) f9) v2 v3 M L = some (r0, M0, L0) := hD
          have hb68 : ∀ (v2 : Int32) (v3 : Int32) (M : mwM) (L : mwL) (H : Heap) (locs : List Loc) (ls : Array Slot), fX6_findTooLarge_b68 fu a1 (fX6_findTooLarge_h2 fu a1 f2) (fX6_findTooLarge_h9 fu a1 (fX6_findTooLarge_h2 fu a1 f2) f9) v2 v3 M L = some (r0, M0, L0) → mw_W G ad NF TF FF M L H locs → lv_has ls 5 [(0, .ref (ad 61)), (1, .int a1), (2, .int v2), (3, .int v3)] → W p l e ({ frames := 1, cells := 0, slots := 0, locals := 23 }) s m [.ref (ad 61), .int a1].toArray below meth c H locs 0 0 (MQ below (mw_Qi G ad NF TF FF (mw_eqI r0 M0 L0)) [.ref (ad 61), .int a1].toArray s 0 0 (mw_fr G)) (F0 m 68 ls []) := by
            intro v2 v3 M L H locs ls hD hw hl
            unfold fX6_findTooLarge_b68 at hD
            obtain ⟨x18, ex18, hD⟩ := g_let hD
            refine lv_iinc (v := x18) (lv' := [(3, .int x18), (0, .ref (ad 61)), (1, .int a1), (2, .int v2)]) C.1.1 C.1.2.1 dX6_findTooLarge_68 hl (k := 3) rfl (by rw [ex18]; rfl) (by decide) rfl (fun ls hl => ?_)
            refine lv_goto (tgt := 9) C.1.1 C.1.2.1 dX6_findTooLarge_71 (by decide) ?_
            exact ih9 v2 x18 M L _ _ ls hD hw (lv_sub hl [1, 2, 3, 0] rfl)
          have hb50 : ∀ (v2 : Int32) (v3 : Int32) (s0 : Int32) (M : mwM) (L : mwL) (H : Heap) (locs : List Loc) (ls : Array Slot), fX6_findTooLarge_b50 fu a1 (fX6_findTooLarge_h2 fu a1 f2) (fX6_findTooLarge_h9 fu a1 (fX6_findTooLarge_h2 fu a1 f2) f9) v2 v3 s0 M L = some (r0, M0, L0) → mw_W G ad NF TF FF M L H locs → lv_has ls 5 [(0, .ref (ad 61)), (1, .int a1), (2, .int v2), (3, .int v3)] → W p l e ({ frames := 1, cells := 0, slots := 0, locals := 23 }) s m [.ref (ad 61), .int a1].toArray below meth c H locs 0 0 (MQ below (mw_Qi G ad NF TF FF (mw_eqI r0 M0 L0)) [.ref (ad 61), .int a1].toArray s 0 0 (mw_fr G)) (F0 m 50 ls [.int s0]) := by
            intro v2 v3 s0 M L H locs ls hD hw hl
            unfold fX6_findTooLarge_b50 at hD
            refine lv_istore (lv' := [(4, .int s0), (0, .ref (ad 61)), (1, .int a1), (2, .int v2), (3, .int v3)]) C.1.1 C.1.2.1 dX6_findTooLarge_50 hl (by decide) rfl (fun ls hl => ?_)
            refine lv_iload C.1.1 C.1.2.1 dX6_findTooLarge_52 (lv_at hl 0 rfl) ?_
            refine lv_if_eq (tgt := 68) C.1.1 C.1.2.1 dX6_findTooLarge_54 (by decide) (fun c13 => ?_) (fun c13 => ?_)
            · replace hD := g_pos c13 hD
              exact hb68 v2 v3 M L _ _ ls hD hw (lv_sub hl [1, 2, 3, 4] rfl)
            · replace hD := g_neg c13 hD
              refine lv_aload_n C.1.1 C.1.2.1 dX6_findTooLarge_57 rfl (lv_at hl 1 rfl) ?_
              refine lv_iload_n C.1.1 C.1.2.1 dX6_findTooLarge_58 rfl (lv_at hl 4 rfl) ?_
              obtain ⟨r16, M14, L15, h1, hD⟩ := g_b3 hD
              refine md_cvI (As := [.int v3]) (rest := []) C hw (tX6_octetsOf l G ad fu v3 M L h1) kc_6 (by decide) tf_61 wd_1125 cwX6_octetsOf ⟨Nat.le_of_ble_eq_true rfl, Nat.le_of_ble_eq_true rfl⟩ rfl hl.1 (Nat.le_of_ble_eq_true rfl) dX6_findTooLarge_59 rfl rfl ⟨Nat.zero_le _, Nat.zero_le _⟩ rfl (fun H locs hw => ?_)
              refine lv_iconst (v := 3) C.1.1 C.1.2.1 dX6_findTooLarge_62 (by decide) ?_
              refine lv_icmp_le (tgt := 68) C.1.1 C.1.2.1 dX6_findTooLarge_63 (by decide) (fun c17 => ?_) (fun c17 => ?_)
              · replace hD := g_pos c17 hD
                exact hb68 v2 v3 M14 L15 _ _ ls hD hw (lv_sub hl [1, 2, 3, 4] rfl)
              · replace hD := g_neg c17 hD
                refine lv_iload_n C.1.1 C.1.2.1 dX6_findTooLarge_66 rfl (lv_at hl 4 rfl) ?_
                exact mr_iret C hr hlocks hw rfl (Option.some.inj hD) dX6_findTooLarge_67
          have hb49 : ∀ (v2 : Int32) (v3 : Int32) (M : mwM) (L : mwL) (H : Heap) (locs : List Loc) (ls : Array Slot), fX6_findTooLarge_b49 fu a1 (fX6_findTooLarge_h2 fu a1 f2) (fX6_findTooLarge_h9 fu a1 (fX6_findTooLarge_h2 fu a1 f2) f9) v2 v3 M L = some (r0, M0, L0) → mw_W G ad NF TF FF M L H locs → lv_has ls 5 [(0, .ref (ad 61)), (1, .int a1), (2, .int v2), (3, .int v3)] → W p l e ({ frames := 1, cells := 0, slots := 0, locals := 23 }) s m [.ref (ad 61), .int a1].toArray below meth c H locs 0 0 (MQ below (mw_Qi G ad NF TF FF (mw_eqI r0 M0 L0)) [.ref (ad 61), .int a1].toArray s 0 0 (mw_fr G)) (F0 m 49 ls []) := by
            intro v2 v3 M L H locs ls hD hw hl
            unfold fX6_findTooLarge_b49 at hD
            refine lv_iconst (v := 0) C.1.1 C.1.2.1 dX6_findTooLarge_49 (by decide) ?_
            exact hb50 v2 v3 0 M L _ _ ls hD hw (lv_sub hl [0, 1, 2, 3] rfl)
          unfold fX6_findTooLarge_i9 at hD
          refine lv_iload_n C.1.1 C.1.2.1 dX6_findTooLarge_9 rfl (lv_at hl 3 rfl) ?_
          refine lv_aload_n C.1.1 C.1.2.1 dX6_findTooLarge_10 rfl (lv_at hl 0 rfl) ?_
          refine mr_getI C hw kc_6 10 (by decide) tf_61 wd_243 dX6_findTooLarge_11 (by decide) rfl ?_
          refine lv_icmp_ge (tgt := 74) C.1.1 C.1.2.1 dX6_findTooLarge_14 (by decide) (fun c2 => ?_) (fun c2 => ?_)
          · replace hD := g_pos c2 hD
            obtain ⟨x3, ex3, hD⟩ := g_let hD
            refine lv_iinc (v := x3) (lv' := [(2, .int x3), (0, .ref (ad 61)), (1, .int a1), (3, .int v3)]) C.1.1 C.1.2.1 dX6_findTooLarge_74 hl (k := 2) rfl (by rw [ex3]; rfl) (by decide) rfl (fun ls hl => ?_)
            refine lv_goto (tgt := 2) C.1.1 C.1.2.1 dX6_findTooLarge_77 (by decide) ?_
            exact ih2 x3 M L _ _ ls hD hw (lv_sub hl [1, 2, 0] rfl)
          · replace hD := g_neg c2 hD
            refine lv_aload_n C.1.1 C.1.2.1 dX6_findTooLarge_17 rfl (lv_at hl 0 rfl) ?_
            refine mr_getR C hw kc_6 0 (by decide) tf_61 ff_61_0 wd_228 dX6_findTooLarge_18 (by decide) rfl ?_
            refine lv_iconst (v := 5) C.1.1 C.1.2.1 dX6_findTooLarge_21 (by decide) ?_
            refine mr_aald C hw (by decide) tf_62 (by decide) (by decide) rfl rfl (show vp_in 5 10 from by unfold vp_in; decide) ff_62_5 dX6_findTooLarge_22 ?_
            refine lv_iload_n C.1.1 C.1.2.1 dX6_findTooLarge_23 rfl (lv_at hl 3 rfl) ?_
            obtain ⟨q5, hD⟩ := g_ck hD
            refine mr_iald C hw (by decide) tf_68 q5 dX6_findTooLarge_24 ?_
            refine lv_iload_n C.1.1 C.1.2.1 dX6_findTooLarge_25 rfl (lv_at hl 2 rfl) ?_
            refine lv_icmp_ne (tgt := 49) C.1.1 C.1.2.1 dX6_findTooLarge_26 (by decide) (fun c6 => ?_) (fun c6 => ?_)
            · replace hD := g_neg c6 hD
              exact hb49 v2 v3 M L _ _ ls hD hw (lv_sub hl [0, 1, 2, 3] rfl)
            · replace hD := g_pos c6 hD
              refine lv_aload_n C.1.1 C.1.2.1 dX6_findTooLarge_29 rfl (lv_at hl 0 rfl) ?_
              refine lv_iload_n C.1.1 C.1.2.1 dX6_findTooLarge_30 rfl (lv_at hl 2 rfl) ?_
              refine lv_aload_n C.1.1 C.1.2.1 dX6_findTooLarge_31 rfl (lv_at hl 0 rfl) ?_
              refine mr_getR C hw kc_6 0 (by decide) tf_61 ff_61_0 wd_228 dX6_findTooLarge_32 (by decide) rfl ?_
              refine lv_iconst (v := 3) C.1.1 C.1.2.1 dX6_findTooLarge_35 (by decide) ?_
              refine mr_aald C hw (by decide) tf_62 (by decide) (by decide) rfl rfl (show vp_in 3 10 from by unfold vp_in; decide) ff_62_3 dX6_findTooLarge_36 ?_
              refine lv_iload_n C.1.1 C.1.2.1 dX6_findTooLarge_37 rfl (lv_at hl 3 rfl) ?_
              obtain ⟨q8, hD⟩ := g_ck hD
              refine mr_iald C hw (by decide) tf_66 q8 dX6_findTooLarge_38 ?_
              obtain ⟨r11, M9, L10, h1, hD⟩ := g_b3 hD
              refine md_cvI (As := [.int v2, .int (M 66 v3.toNatClampNeg)]) (rest := []) C hw (tX6_keyOf l G ad fu v2 (M 66 v3.toNatClampNeg) M L h1) kc_6 (by decide) tf_61 wd_1124 cwX6_keyOf ⟨Nat.le_of_ble_eq_true rfl, Nat.le_of_ble_eq_true rfl⟩ rfl hl.1 (Nat.le_of_ble_eq_true rfl) dX6_findTooLarge_39 rfl rfl ⟨Nat.zero_le _, Nat.zero_le _⟩ rfl (fun H locs hw => ?_)
              refine lv_if_eq (tgt := 49) C.1.1 C.1.2.1 dX6_findTooLarge_42 (by decide) (fun c12 => ?_) (fun c12 => ?_)
              · replace hD := g_pos c12 hD
                exact hb49 v2 v3 M9 L10 _ _ ls hD hw (lv_sub hl [0, 1, 2, 3] rfl)
              · replace hD := g_neg c12 hD
                refine lv_iconst (v := 1) C.1.1 C.1.2.1 dX6_findTooLarge_45 (by decide) ?_
                refine lv_goto (tgt := 50) C.1.1 C.1.2.1 dX6_findTooLarge_46 (by decide) ?_
                exact hb50 v2 v3 1 M9 L10 _ _ ls hD hw (lv_sub hl [0, 1, 2, 3] rfl)
      unfold fX6_findTooLarge_i2 at hD
      refine lv_iload_n C.1.1 C.1.2.1 dX6_findTooLarge_2 rfl (lv_at hl 2 rfl) ?_
      refine lv_iload_n C.1.1 C.1.2.1 dX6_findTooLarge_3 rfl (lv_at hl 1 rfl) ?_
      refine lv_icmp_ge (tgt := 80) C.1.1 C.1.2.1 dX6_findTooLarge_4 (by decide) (fun c1 => ?_) (fun c1 => ?_)
      · replace hD := g_pos c1 hD
        refine lv_iconst (v := (-1)) C.1.1 C.1.2.1 dX6_findTooLarge_80 (by decide) ?_
        exact mr_iret C hr hlocks hw rfl (Option.some.inj hD) dX6_findTooLarge_81
      · replace hD := g_neg c1 hD
        refine lv_iconst (v := 0) C.1.1 C.1.2.1 dX6_findTooLarge_7 (by decide) ?_
        refine lv_istore_n (lv' := [(3, .int 0), (0, .ref (ad 61)), (1, .int a1), (2, .int v2)]) C.1.1 C.1.2.1 dX6_findTooLarge_8 rfl hl (by decide) rfl (fun ls hl => ?_)
        exact hh9 fu v2 0 M L _ _ ls hD hw (lv_sub hl [1, 2, 3, 0] rfl)
  unfold DX6_findTooLarge at hD
  refine lv_iconst (v := 0) C.1.1 C.1.2.1 dX6_findTooLarge_0 (by decide) ?_
  refine lv_istore_n (lv' := [(2, .int 0), (0, .ref (ad 61)), (1, .int a1)]) C.1.1 C.1.2.1 dX6_findTooLarge_1 rfl hl (by decide) rfl (fun ls hl => ?_)
  exact hh2 fu 0 M L _ _ ls hD hw (lv_sub hl [1, 2, 0] rfl)

theorem dX6_isOf_0 : decode cX6_isOf 0 = .ok (.aload_n 0, 1) := by decide +kernel
theorem dX6_isOf_1 : decode cX6_isOf 1 = .ok (.getfield 11, 3) := by decide +kernel
theorem dX6_isOf_4 : decode cX6_isOf 4 = .ok (.iconst 5, 1) := by decide +kernel
theorem dX6_isOf_5 : decode cX6_isOf 5 = .ok (.aaload, 1) := by decide +kernel
theorem dX6_isOf_6 : decode cX6_isOf 6 = .ok (.iload_n 1, 1) := by decide +kernel
theorem dX6_isOf_7 : decode cX6_isOf 7 = .ok (.iaload, 1) := by decide +kernel
theorem dX6_isOf_8 : decode cX6_isOf 8 = .ok (.iload_n 2, 1) := by decide +kernel
theorem dX6_isOf_9 : decode cX6_isOf 9 = .ok (.if_icmp .ne 28, 3) := by decide +kernel
theorem dX6_isOf_12 : decode cX6_isOf 12 = .ok (.aload_n 0, 1) := by decide +kernel
theorem dX6_isOf_13 : decode cX6_isOf 13 = .ok (.getfield 11, 3) := by decide +kernel
theorem dX6_isOf_16 : decode cX6_isOf 16 = .ok (.bipush 7, 2) := by decide +kernel
theorem dX6_isOf_18 : decode cX6_isOf 18 = .ok (.aaload, 1) := by decide +kernel
theorem dX6_isOf_19 : decode cX6_isOf 19 = .ok (.iload_n 1, 1) := by decide +kernel
theorem dX6_isOf_20 : decode cX6_isOf 20 = .ok (.iaload, 1) := by decide +kernel
theorem dX6_isOf_21 : decode cX6_isOf 21 = .ok (.ifCond .eq 7, 3) := by decide +kernel
theorem dX6_isOf_24 : decode cX6_isOf 24 = .ok (.iconst 1, 1) := by decide +kernel
theorem dX6_isOf_25 : decode cX6_isOf 25 = .ok (.goto 4, 3) := by decide +kernel
theorem dX6_isOf_28 : decode cX6_isOf 28 = .ok (.iconst 0, 1) := by decide +kernel
theorem dX6_isOf_29 : decode cX6_isOf 29 = .ok (.iload_n 3, 1) := by decide +kernel
theorem dX6_isOf_30 : decode cX6_isOf 30 = .ok (.if_icmp .ne 7, 3) := by decide +kernel
theorem dX6_isOf_33 : decode cX6_isOf 33 = .ok (.iconst 1, 1) := by decide +kernel
theorem dX6_isOf_34 : decode cX6_isOf 34 = .ok (.goto 4, 3) := by decide +kernel
theorem dX6_isOf_37 : decode cX6_isOf 37 = .ok (.iconst 0, 1) := by decide +kernel
theorem dX6_isOf_38 : decode cX6_isOf 38 = .ok (.ireturn, 1) := by decide +kernel
theorem cwX6_isOf : mw_cwV yX6_isOf cX6_isOf 4 ((some .boolean)) 3 := ⟨⟨wd_7, wd_1148, by decide +kernel⟩, wd_1147, sl_48⟩
set_option maxHeartbeats 4000000 in
set_option maxRecDepth 100000 in
theorem tX6_isOf (l : Launch) (G : mwG) (ad : Nat → Nat) (fu : Nat) (a1 : Int32) (a2 : Int32) (a3 : Int32) (M : mwM) (L : mwL) {r0 : Int32} {M0 : mwM} {L0 : mwL} (hD : DX6_isOf fu a1 a2 a3 M L = some (r0, M0, L0)) : Met l yX6_isOf (Cond.code yX6_isOf cX6_isOf 4 ((some .boolean)) :: GT) ({ frames := 0, cells := 0, slots := 0, locals := 0 }) (mw_Pre G ad NF TF FF M L [.ref (ad 61), .int a1, .int a2, .int a3]) (mw_Qi G ad NF TF FF (mw_eqI r0 M0 L0)) 0 0 (mw_fr G) := by
  refine mw_enter (by decide) (Nat.le_of_ble_eq_true rfl) ?_
  intro p e s m below meth c ls C hr hlocks hnm hw hl
  have hl : lv_has ls 4 [(0, .ref (ad 61)), (1, .int a1), (2, .int a2), (3, .int a3)] := hl
  have hb38 : ∀ (s0 : Int32) (M : mwM) (L : mwL) (H : Heap) (locs : List Loc) (ls : Array Slot), fX6_isOf_b38 fu a1 a2 a3 s0 M L = some (r0, M0, L0) → mw_W G ad NF TF FF M L H locs → lv_has ls 4 [] → W p l e ({ frames := 0, cells := 0, slots := 0, locals := 0 }) s m [.ref (ad 61), .int a1, .int a2, .int a3].toArray below meth c H locs 0 0 (MQ below (mw_Qi G ad NF TF FF (mw_eqI r0 M0 L0)) [.ref (ad 61), .int a1, .int a2, .int a3].toArray s 0 0 (mw_fr G)) (F0 m 38 ls [.int s0]) := by
    intro s0 M L H locs ls hD hw hl
    unfold fX6_isOf_b38 at hD
    obtain ⟨z2, hD⟩ := g_zz hD
    exact mr_iret C hr hlocks hw (nz_zz z2) (Option.some.inj hD) dX6_isOf_38
  have hb37 : ∀ (M : mwM) (L : mwL) (H : Heap) (locs : List Loc) (ls : Array Slot), fX6_isOf_b37 fu a1 a2 a3 M L = some (r0, M0, L0) → mw_W G ad NF TF FF M L H locs → lv_has ls 4 [] → W p l e ({ frames := 0, cells := 0, slots := 0, locals := 0 }) s m [.ref (ad 61), .int a1, .int a2, .int a3].toArray below meth c H locs 0 0 (MQ below (mw_Qi G ad NF TF FF (mw_eqI r0 M0 L0)) [.ref (ad 61), .int a1, .int a2, .int a3].toArray s 0 0 (mw_fr G)) (F0 m 37 ls []) := by
    intro M L H locs ls hD hw hl
    unfold fX6_isOf_b37 at hD
    refine lv_iconst (v := 0) C.1.1 C.1.2.1 dX6_isOf_37 (by decide) ?_
    exact hb38 0 M L _ _ ls hD hw (lv_sub hl [] rfl)
  have hb29 : ∀ (s0 : Int32) (M : mwM) (L : mwL) (H : Heap) (locs : List Loc) (ls : Array Slot), fX6_isOf_b29 fu a1 a2 a3 s0 M L = some (r0, M0, L0) → mw_W G ad NF TF FF M L H locs → lv_has ls 4 [(3, .int a3)] → W p l e ({ frames := 0, cells := 0, slots := 0, locals := 0 }) s m [.ref (ad 61), .int a1, .int a2, .int a3].toArray below meth c H locs 0 0 (MQ below (mw_Qi G ad NF TF FF (mw_eqI r0 M0 L0)) [.ref (ad 61), .int a1, .int a2, .int a3].toArray s 0 0 (mw_fr G)) (F0 m 29 ls [.int s0]) := by
    intro s0 M L H locs ls hD hw hl
    unfold fX6_isOf_b29 at hD
    refine lv_iload_n C.1.1 C.1.2.1 dX6_isOf_29 rfl (lv_at hl 0 rfl) ?_
    refine lv_icmp_ne (tgt := 37) C.1.1 C.1.2.1 dX6_isOf_30 (by decide) (fun c1 => ?_) (fun c1 => ?_)
    · replace hD := g_neg c1 hD
      exact hb37 M L _ _ ls hD hw (lv_sub hl [] rfl)
    · replace hD := g_pos c1 hD
      refine lv_iconst (v := 1) C.1.1 C.1.2.1 dX6_isOf_33 (by decide) ?_
      refine lv_goto (tgt := 38) C.1.1 C.1.2.1 dX6_isOf_34 (by decide) ?_
      exact hb38 1 M L _ _ ls hD hw (lv_sub hl [] rfl)
  unfold DX6_isOf at hD
  refine lv_aload_n C.1.1 C.1.2.1 dX6_isOf_0 rfl (lv_at hl 0 rfl) ?_
  refine mr_getR C hw kc_6 0 (by decide) tf_61 ff_61_0 wd_228 dX6_isOf_1 (by decide) rfl ?_
  refine lv_iconst (v := 5) C.1.1 C.1.2.1 dX6_isOf_4 (by decide) ?_
  refine mr_aald C hw (by decide) tf_62 (by decide) (by decide) rfl rfl (show vp_in 5 10 from by unfold vp_in; decide) ff_62_5 dX6_isOf_5 ?_
  refine lv_iload_n C.1.1 C.1.2.1 dX6_isOf_6 rfl (lv_at hl 1 rfl) ?_
  obtain ⟨q4, hD⟩ := g_ck hD
  refine mr_iald C hw (by decide) tf_68 q4 dX6_isOf_7 ?_
  refine lv_iload_n C.1.1 C.1.2.1 dX6_isOf_8 rfl (lv_at hl 2 rfl) ?_
  refine lv_icmp_ne (tgt := 37) C.1.1 C.1.2.1 dX6_isOf_9 (by decide) (fun c5 => ?_) (fun c5 => ?_)
  · replace hD := g_neg c5 hD
    exact hb37 M L _ _ ls hD hw (lv_sub hl [] rfl)
  · replace hD := g_pos c5 hD
    refine lv_aload_n C.1.1 C.1.2.1 dX6_isOf_12 rfl (lv_at hl 0 rfl) ?_
    refine mr_getR C hw kc_6 0 (by decide) tf_61 ff_61_0 wd_228 dX6_isOf_13 (by decide) rfl ?_
    refine lv_bipush (v := 7) C.1.1 C.1.2.1 dX6_isOf_16 (by decide) ?_
    refine mr_aald C hw (by decide) tf_62 (by decide) (by decide) rfl rfl (show vp_in 7 10 from by unfold vp_in; decide) ff_62_7 dX6_isOf_18 ?_
    refine lv_iload_n C.1.1 C.1.2.1 dX6_isOf_19 rfl (lv_at hl 1 rfl) ?_
    obtain ⟨q7, hD⟩ := g_ck hD
    refine mr_iald C hw (by decide) tf_70 q7 dX6_isOf_20 ?_
    refine lv_if_eq (tgt := 28) C.1.1 C.1.2.1 dX6_isOf_21 (by decide) (fun c8 => ?_) (fun c8 => ?_)
    · replace hD := g_pos c8 hD
      refine lv_iconst (v := 0) C.1.1 C.1.2.1 dX6_isOf_28 (by decide) ?_
      exact hb29 0 M L _ _ ls hD hw (lv_sub hl [3] rfl)
    · replace hD := g_neg c8 hD
      refine lv_iconst (v := 1) C.1.1 C.1.2.1 dX6_isOf_24 (by decide) ?_
      refine lv_goto (tgt := 29) C.1.1 C.1.2.1 dX6_isOf_25 (by decide) ?_
      exact hb29 1 M L _ _ ls hD hw (lv_sub hl [3] rfl)

theorem dX6_nextPeriod_0 : decode cX6_nextPeriod 0 = .ok (.ldc 54, 2) := by decide +kernel
theorem dX6_nextPeriod_2 : decode cX6_nextPeriod 2 = .ok (.istore 4, 2) := by decide +kernel
theorem dX6_nextPeriod_4 : decode cX6_nextPeriod 4 = .ok (.iconst 0, 1) := by decide +kernel
theorem dX6_nextPeriod_5 : decode cX6_nextPeriod 5 = .ok (.istore 5, 2) := by decide +kernel
theorem dX6_nextPeriod_7 : decode cX6_nextPeriod 7 = .ok (.iload 5, 2) := by decide +kernel
theorem dX6_nextPeriod_9 : decode cX6_nextPeriod 9 = .ok (.aload_n 0, 1) := by decide +kernel
theorem dX6_nextPeriod_10 : decode cX6_nextPeriod 10 = .ok (.getfield 44, 3) := by decide +kernel
theorem dX6_nextPeriod_13 : decode cX6_nextPeriod 13 = .ok (.if_icmp .ge 49, 3) := by decide +kernel
theorem dX6_nextPeriod_16 : decode cX6_nextPeriod 16 = .ok (.aload_n 0, 1) := by decide +kernel
theorem dX6_nextPeriod_17 : decode cX6_nextPeriod 17 = .ok (.iload 5, 2) := by decide +kernel
theorem dX6_nextPeriod_19 : decode cX6_nextPeriod 19 = .ok (.iload_n 1, 1) := by decide +kernel
theorem dX6_nextPeriod_20 : decode cX6_nextPeriod 20 = .ok (.iload_n 2, 1) := by decide +kernel
theorem dX6_nextPeriod_21 : decode cX6_nextPeriod 21 = .ok (.invokevirtual 88, 3) := by decide +kernel
theorem dX6_nextPeriod_24 : decode cX6_nextPeriod 24 = .ok (.ifCond .eq 32, 3) := by decide +kernel
theorem dX6_nextPeriod_27 : decode cX6_nextPeriod 27 = .ok (.aload_n 0, 1) := by decide +kernel
theorem dX6_nextPeriod_28 : decode cX6_nextPeriod 28 = .ok (.getfield 11, 3) := by decide +kernel
theorem dX6_nextPeriod_31 : decode cX6_nextPeriod 31 = .ok (.iconst 3, 1) := by decide +kernel
theorem dX6_nextPeriod_32 : decode cX6_nextPeriod 32 = .ok (.aaload, 1) := by decide +kernel
theorem dX6_nextPeriod_33 : decode cX6_nextPeriod 33 = .ok (.iload 5, 2) := by decide +kernel
theorem dX6_nextPeriod_35 : decode cX6_nextPeriod 35 = .ok (.iaload, 1) := by decide +kernel
theorem dX6_nextPeriod_36 : decode cX6_nextPeriod 36 = .ok (.iload_n 3, 1) := by decide +kernel
theorem dX6_nextPeriod_37 : decode cX6_nextPeriod 37 = .ok (.if_icmp .le 19, 3) := by decide +kernel
theorem dX6_nextPeriod_40 : decode cX6_nextPeriod 40 = .ok (.iload 4, 2) := by decide +kernel
theorem dX6_nextPeriod_42 : decode cX6_nextPeriod 42 = .ok (.aload_n 0, 1) := by decide +kernel
theorem dX6_nextPeriod_43 : decode cX6_nextPeriod 43 = .ok (.getfield 11, 3) := by decide +kernel
theorem dX6_nextPeriod_46 : decode cX6_nextPeriod 46 = .ok (.iconst 3, 1) := by decide +kernel
theorem dX6_nextPeriod_47 : decode cX6_nextPeriod 47 = .ok (.aaload, 1) := by decide +kernel
theorem dX6_nextPeriod_48 : decode cX6_nextPeriod 48 = .ok (.iload 5, 2) := by decide +kernel
theorem dX6_nextPeriod_50 : decode cX6_nextPeriod 50 = .ok (.iaload, 1) := by decide +kernel
theorem dX6_nextPeriod_51 : decode cX6_nextPeriod 51 = .ok (.invokestatic 92, 3) := by decide +kernel
theorem dX6_nextPeriod_54 : decode cX6_nextPeriod 54 = .ok (.istore 4, 2) := by decide +kernel
theorem dX6_nextPeriod_56 : decode cX6_nextPeriod 56 = .ok (.iinc 5 1, 3) := by decide +kernel
theorem dX6_nextPeriod_59 : decode cX6_nextPeriod 59 = .ok (.goto (-52), 3) := by decide +kernel
theorem dX6_nextPeriod_62 : decode cX6_nextPeriod 62 = .ok (.iload 4, 2) := by decide +kernel
theorem dX6_nextPeriod_64 : decode cX6_nextPeriod 64 = .ok (.ireturn, 1) := by decide +kernel
theorem cwX6_nextPeriod : mw_cwV yX6_nextPeriod cX6_nextPeriod 6 ((some .int)) 3 := ⟨⟨wd_7, wd_1144, by decide +kernel⟩, wd_1143, sl_47⟩
set_option maxHeartbeats 4000000 in
set_option maxRecDepth 100000 in
theorem tX6_nextPeriod (l : Launch) (G : mwG) (ad : Nat → Nat) (fu : Nat) (a1 : Int32) (a2 : Int32) (a3 : Int32) (M : mwM) (L : mwL) {r0 : Int32} {M0 : mwM} {L0 : mwL} (hD : DX6_nextPeriod fu a1 a2 a3 M L = some (r0, M0, L0)) : Met l yX6_nextPeriod (Cond.code yX6_nextPeriod cX6_nextPeriod 6 ((some .int)) :: GT) ({ frames := 1, cells := 0, slots := 0, locals := 23 }) (mw_Pre G ad NF TF FF M L [.ref (ad 61), .int a1, .int a2, .int a3]) (mw_Qi G ad NF TF FF (mw_eqI r0 M0 L0)) 0 0 (mw_fr G) := by
  refine mw_enter (by decide) (Nat.le_of_ble_eq_true rfl) ?_
  intro p e s m below meth c ls C hr hlocks hnm hw hl
  have hl : lv_has ls 6 [(0, .ref (ad 61)), (1, .int a1), (2, .int a2), (3, .int a3)] := hl
  have hh7 : ∀ (f : Nat) (v4 : Int32) (v5 : Int32) (M : mwM) (L : mwL) (H : Heap) (locs : List Loc) (ls : Array Slot), fX6_nextPeriod_h7 fu a1 a2 a3 f (v4, v5, M, L) = some (r0, M0, L0) → mw_W G ad NF TF FF M L H locs → lv_has ls 6 [(0, .ref (ad 61)), (1, .int a1), (2, .int a2), (3, .int a3), (4, .int v4), (5, .int v5)] → W p l e ({ frames := 1, cells := 0, slots := 0, locals := 23 }) s m [.ref (ad 61), .int a1, .int a2, .int a3].toArray below meth c H locs 0 0 (MQ below (mw_Qi G ad NF TF FF (mw_eqI r0 M0 L0)) [.ref (ad 61), .int a1, .int a2, .int a3].toArray s 0 0 (mw_fr G)) (F0 m 7 ls []) := by
    intro f
    induction f with
    | zero => intro v4 v5 M L H locs ls hD; cases hD
    | succ f7 ih7 =>
      intro v4 v5 M L H locs ls hD hw hl
      replace hD : fX6_nextPeriod_i7 fu a1 a2 a3 (fX6_nextPeriod_h7 fu a1 a2 a3 f7) v4 v5 M L = some (r0, M0, L0) := hD
      have hb56 : ∀ (v4 : Int32) (v5 : Int32) (M : mwM) (L : mwL) (H : Heap) (locs : List Loc) (ls : Array Slot), fX6_nextPeriod_b56 fu a1 a2 a3 (fX6_nextPeriod_h7 fu a1 a2 a3 f7) v4 v5 M L = some (r0, M0, L0) → mw_W G ad NF TF FF M L H locs → lv_has ls 6 [(0, .ref (ad 61)), (1, .int a1), (2, .int a2), (3, .int a3), (4, .int v4), (5, .int v5)] → W p l e ({ frames := 1, cells := 0, slots := 0, locals := 23 }) s m [.ref (ad 61), .int a1, .int a2, .int a3].toArray below meth c H locs 0 0 (MQ below (mw_Qi G ad NF TF FF (mw_eqI r0 M0 L0)) [.ref (ad 61), .int a1, .int a2, .int a3].toArray s 0 0 (mw_fr G)) (F0 m 56 ls []) := by
        intro v4 v5 M L H locs ls hD hw hl
        unfold fX6_nextPeriod_b56 at hD
        obtain ⟨x12, ex12, hD⟩ := g_let hD
        refine lv_iinc (v := x12) (lv' := [(5, .int x12), (0, .ref (ad 61)), (1, .int a1), (2, .int a2), (3, .int a3), (4, .int v4)]) C.1.1 C.1.2.1 dX6_nextPeriod_56 hl (k := 5) rfl (by rw [ex12]; rfl) (by decide) rfl (fun ls hl => ?_)
        refine lv_goto (tgt := 7) C.1.1 C.1.2.1 dX6_nextPeriod_59 (by decide) ?_
        exact ih7 v4 x12 M L _ _ ls hD hw (lv_sub hl [1, 2, 3, 4, 5, 0] rfl)
      unfold fX6_nextPeriod_i7 at hD
      refine lv_iload C.1.1 C.1.2.1 dX6_nextPeriod_7 (lv_at hl 5 rfl) ?_
      refine lv_aload_n C.1.1 C.1.2.1 dX6_nextPeriod_9 rfl (lv_at hl 0 rfl) ?_
      refine mr_getI C hw kc_6 10 (by decide) tf_61 wd_243 dX6_nextPeriod_10 (by decide) rfl ?_
      refine lv_icmp_ge (tgt := 62) C.1.1 C.1.2.1 dX6_nextPeriod_13 (by decide) (fun c1 => ?_) (fun c1 => ?_)
      · replace hD := g_pos c1 hD
        refine lv_iload C.1.1 C.1.2.1 dX6_nextPeriod_62 (lv_at hl 4 rfl) ?_
        exact mr_iret C hr hlocks hw rfl (Option.some.inj hD) dX6_nextPeriod_64
      · replace hD := g_neg c1 hD
        refine lv_aload_n C.1.1 C.1.2.1 dX6_nextPeriod_16 rfl (lv_at hl 0 rfl) ?_
        refine lv_iload C.1.1 C.1.2.1 dX6_nextPeriod_17 (lv_at hl 5 rfl) ?_
        refine lv_iload_n C.1.1 C.1.2.1 dX6_nextPeriod_19 rfl (lv_at hl 1 rfl) ?_
        refine lv_iload_n C.1.1 C.1.2.1 dX6_nextPeriod_20 rfl (lv_at hl 2 rfl) ?_
        obtain ⟨r4, M2, L3, h1, hD⟩ := g_b3 hD
        refine md_cvI (As := [.int v5, .int a1, .int a2]) (rest := []) C hw (tX6_isOf l G ad fu v5 a1 a2 M L h1) kc_6 (by decide) tf_61 wd_1145 cwX6_isOf ⟨Nat.le_of_ble_eq_true rfl, Nat.le_of_ble_eq_true rfl⟩ rfl hl.1 (Nat.le_of_ble_eq_true rfl) dX6_nextPeriod_21 rfl rfl ⟨Nat.zero_le _, Nat.zero_le _⟩ rfl (fun H locs hw => ?_)
        refine lv_if_eq (tgt := 56) C.1.1 C.1.2.1 dX6_nextPeriod_24 (by decide) (fun c5 => ?_) (fun c5 => ?_)
        · replace hD := g_pos c5 hD
          exact hb56 v4 v5 M2 L3 _ _ ls hD hw (lv_sub hl [0, 1, 2, 3, 4, 5] rfl)
        · replace hD := g_neg c5 hD
          refine lv_aload_n C.1.1 C.1.2.1 dX6_nextPeriod_27 rfl (lv_at hl 0 rfl) ?_
          refine mr_getR C hw kc_6 0 (by decide) tf_61 ff_61_0 wd_228 dX6_nextPeriod_28 (by decide) rfl ?_
          refine lv_iconst (v := 3) C.1.1 C.1.2.1 dX6_nextPeriod_31 (by decide) ?_
          refine mr_aald C hw (by decide) tf_62 (by decide) (by decide) rfl rfl (show vp_in 3 10 from by unfold vp_in; decide) ff_62_3 dX6_nextPeriod_32 ?_
          refine lv_iload C.1.1 C.1.2.1 dX6_nextPeriod_33 (lv_at hl 5 rfl) ?_
          obtain ⟨q7, hD⟩ := g_ck hD
          refine mr_iald C hw (by decide) tf_66 q7 dX6_nextPeriod_35 ?_
          refine lv_iload_n C.1.1 C.1.2.1 dX6_nextPeriod_36 rfl (lv_at hl 3 rfl) ?_
          refine lv_icmp_le (tgt := 56) C.1.1 C.1.2.1 dX6_nextPeriod_37 (by decide) (fun c8 => ?_) (fun c8 => ?_)
          · replace hD := g_pos c8 hD
            exact hb56 v4 v5 M2 L3 _ _ ls hD hw (lv_sub hl [0, 1, 2, 3, 4, 5] rfl)
          · replace hD := g_neg c8 hD
            refine lv_iload C.1.1 C.1.2.1 dX6_nextPeriod_40 (lv_at hl 4 rfl) ?_
            refine lv_aload_n C.1.1 C.1.2.1 dX6_nextPeriod_42 rfl (lv_at hl 0 rfl) ?_
            refine mr_getR C hw kc_6 0 (by decide) tf_61 ff_61_0 wd_228 dX6_nextPeriod_43 (by decide) rfl ?_
            refine lv_iconst (v := 3) C.1.1 C.1.2.1 dX6_nextPeriod_46 (by decide) ?_
            refine mr_aald C hw (by decide) tf_62 (by decide) (by decide) rfl rfl (show vp_in 3 10 from by unfold vp_in; decide) ff_62_3 dX6_nextPeriod_47 ?_
            refine lv_iload C.1.1 C.1.2.1 dX6_nextPeriod_48 (lv_at hl 5 rfl) ?_
            obtain ⟨q10, hD⟩ := g_ck hD
            refine mr_iald C hw (by decide) tf_66 q10 dX6_nextPeriod_50 ?_
            refine va_mmin C.1.1 C.1.2.1 (C.1.2.2.1.trans hl.1.symm) C.1.2.2.2.1 (C.1.2.2.2.2 _ wd_1149) (C.1.2.2.2.2 _ wd_1150) (C.1.2.2.2.2 _ wd_30) (C.1.2.2.2.2 _ wd_1151) (Nat.le_of_ble_eq_true rfl) (Nat.le_of_ble_eq_true rfl) (Nat.zero_le _) (Nat.zero_le _) dX6_nextPeriod_51 ?_
            obtain ⟨x11, ex11, hD⟩ := g_let hD
            refine W.eq (g2 := F0 m 54 ls (.int x11 :: [])) (by rw [ex11]) ?_
            refine lv_istore (lv' := [(4, .int x11), (0, .ref (ad 61)), (1, .int a1), (2, .int a2), (3, .int a3), (5, .int v5)]) C.1.1 C.1.2.1 dX6_nextPeriod_54 hl (by decide) rfl (fun ls hl => ?_)
            exact hb56 x11 v5 M2 L3 _ _ ls hD hw (lv_sub hl [1, 2, 3, 4, 0, 5] rfl)
  unfold DX6_nextPeriod at hD
  refine lv_ldc (v := 1000000) C.1.1 C.1.2.1 C.1.2.2.2.1 (C.1.2.2.2.2 _ wd_809) dX6_nextPeriod_0 ?_
  refine lv_istore (lv' := [(4, .int 1000000), (0, .ref (ad 61)), (1, .int a1), (2, .int a2), (3, .int a3)]) C.1.1 C.1.2.1 dX6_nextPeriod_2 hl (by decide) rfl (fun ls hl => ?_)
  refine lv_iconst (v := 0) C.1.1 C.1.2.1 dX6_nextPeriod_4 (by decide) ?_
  refine lv_istore (lv' := [(5, .int 0), (4, .int 1000000), (0, .ref (ad 61)), (1, .int a1), (2, .int a2), (3, .int a3)]) C.1.1 C.1.2.1 dX6_nextPeriod_5 hl (by decide) rfl (fun ls hl => ?_)
  exact hh7 fu 1000000 0 M L _ _ ls hD hw (lv_sub hl [2, 3, 4, 5, 1, 0] rfl)

theorem dX6_collectGroups_0 : decode cX6_collectGroups 0 = .ok (.aload_n 0, 1) := by decide +kernel
theorem dX6_collectGroups_1 : decode cX6_collectGroups 1 = .ok (.iconst 0, 1) := by decide +kernel
theorem dX6_collectGroups_2 : decode cX6_collectGroups 2 = .ok (.putfield 97, 3) := by decide +kernel
theorem dX6_collectGroups_5 : decode cX6_collectGroups 5 = .ok (.iconst 0, 1) := by decide +kernel
theorem dX6_collectGroups_6 : decode cX6_collectGroups 6 = .ok (.istore 4, 2) := by decide +kernel
theorem dX6_collectGroups_8 : decode cX6_collectGroups 8 = .ok (.iload 4, 2) := by decide +kernel
theorem dX6_collectGroups_10 : decode cX6_collectGroups 10 = .ok (.aload_n 0, 1) := by decide +kernel
theorem dX6_collectGroups_11 : decode cX6_collectGroups 11 = .ok (.getfield 44, 3) := by decide +kernel
theorem dX6_collectGroups_14 : decode cX6_collectGroups 14 = .ok (.if_icmp .ge 107, 3) := by decide +kernel
theorem dX6_collectGroups_17 : decode cX6_collectGroups 17 = .ok (.aload_n 0, 1) := by decide +kernel
theorem dX6_collectGroups_18 : decode cX6_collectGroups 18 = .ok (.iload 4, 2) := by decide +kernel
theorem dX6_collectGroups_20 : decode cX6_collectGroups 20 = .ok (.iload_n 1, 1) := by decide +kernel
theorem dX6_collectGroups_21 : decode cX6_collectGroups 21 = .ok (.iload_n 2, 1) := by decide +kernel
theorem dX6_collectGroups_22 : decode cX6_collectGroups 22 = .ok (.invokevirtual 88, 3) := by decide +kernel
theorem dX6_collectGroups_25 : decode cX6_collectGroups 25 = .ok (.ifCond .eq 90, 3) := by decide +kernel
theorem dX6_collectGroups_28 : decode cX6_collectGroups 28 = .ok (.aload_n 0, 1) := by decide +kernel
theorem dX6_collectGroups_29 : decode cX6_collectGroups 29 = .ok (.getfield 11, 3) := by decide +kernel
theorem dX6_collectGroups_32 : decode cX6_collectGroups 32 = .ok (.iconst 3, 1) := by decide +kernel
theorem dX6_collectGroups_33 : decode cX6_collectGroups 33 = .ok (.aaload, 1) := by decide +kernel
theorem dX6_collectGroups_34 : decode cX6_collectGroups 34 = .ok (.iload 4, 2) := by decide +kernel
theorem dX6_collectGroups_36 : decode cX6_collectGroups 36 = .ok (.iaload, 1) := by decide +kernel
theorem dX6_collectGroups_37 : decode cX6_collectGroups 37 = .ok (.iload_n 3, 1) := by decide +kernel
theorem dX6_collectGroups_38 : decode cX6_collectGroups 38 = .ok (.if_icmp .ne 77, 3) := by decide +kernel
theorem dX6_collectGroups_41 : decode cX6_collectGroups 41 = .ok (.aload_n 0, 1) := by decide +kernel
theorem dX6_collectGroups_42 : decode cX6_collectGroups 42 = .ok (.getfield 97, 3) := by decide +kernel
theorem dX6_collectGroups_45 : decode cX6_collectGroups 45 = .ok (.istore 5, 2) := by decide +kernel
theorem dX6_collectGroups_47 : decode cX6_collectGroups 47 = .ok (.iload 5, 2) := by decide +kernel
theorem dX6_collectGroups_49 : decode cX6_collectGroups 49 = .ok (.ifCond .le 47, 3) := by decide +kernel
theorem dX6_collectGroups_52 : decode cX6_collectGroups 52 = .ok (.aload_n 0, 1) := by decide +kernel
theorem dX6_collectGroups_53 : decode cX6_collectGroups 53 = .ok (.aload_n 0, 1) := by decide +kernel
theorem dX6_collectGroups_54 : decode cX6_collectGroups 54 = .ok (.getfield 29, 3) := by decide +kernel
theorem dX6_collectGroups_57 : decode cX6_collectGroups 57 = .ok (.iload 5, 2) := by decide +kernel
theorem dX6_collectGroups_59 : decode cX6_collectGroups 59 = .ok (.iconst 1, 1) := by decide +kernel
theorem dX6_collectGroups_60 : decode cX6_collectGroups 60 = .ok (.isub, 1) := by decide +kernel
theorem dX6_collectGroups_61 : decode cX6_collectGroups 61 = .ok (.iaload, 1) := by decide +kernel
theorem dX6_collectGroups_62 : decode cX6_collectGroups 62 = .ok (.invokevirtual 62, 3) := by decide +kernel
theorem dX6_collectGroups_65 : decode cX6_collectGroups 65 = .ok (.aload_n 0, 1) := by decide +kernel
theorem dX6_collectGroups_66 : decode cX6_collectGroups 66 = .ok (.iload 4, 2) := by decide +kernel
theorem dX6_collectGroups_68 : decode cX6_collectGroups 68 = .ok (.invokevirtual 62, 3) := by decide +kernel
theorem dX6_collectGroups_71 : decode cX6_collectGroups 71 = .ok (.if_icmp .ge 25, 3) := by decide +kernel
theorem dX6_collectGroups_74 : decode cX6_collectGroups 74 = .ok (.aload_n 0, 1) := by decide +kernel
theorem dX6_collectGroups_75 : decode cX6_collectGroups 75 = .ok (.getfield 29, 3) := by decide +kernel
theorem dX6_collectGroups_78 : decode cX6_collectGroups 78 = .ok (.iload 5, 2) := by decide +kernel
theorem dX6_collectGroups_80 : decode cX6_collectGroups 80 = .ok (.aload_n 0, 1) := by decide +kernel
theorem dX6_collectGroups_81 : decode cX6_collectGroups 81 = .ok (.getfield 29, 3) := by decide +kernel
theorem dX6_collectGroups_84 : decode cX6_collectGroups 84 = .ok (.iload 5, 2) := by decide +kernel
theorem dX6_collectGroups_86 : decode cX6_collectGroups 86 = .ok (.iconst 1, 1) := by decide +kernel
theorem dX6_collectGroups_87 : decode cX6_collectGroups 87 = .ok (.isub, 1) := by decide +kernel
theorem dX6_collectGroups_88 : decode cX6_collectGroups 88 = .ok (.iaload, 1) := by decide +kernel
theorem dX6_collectGroups_89 : decode cX6_collectGroups 89 = .ok (.iastore, 1) := by decide +kernel
theorem dX6_collectGroups_90 : decode cX6_collectGroups 90 = .ok (.iinc 5 (-1), 3) := by decide +kernel
theorem dX6_collectGroups_93 : decode cX6_collectGroups 93 = .ok (.goto (-46), 3) := by decide +kernel
theorem dX6_collectGroups_96 : decode cX6_collectGroups 96 = .ok (.aload_n 0, 1) := by decide +kernel
theorem dX6_collectGroups_97 : decode cX6_collectGroups 97 = .ok (.getfield 29, 3) := by decide +kernel
theorem dX6_collectGroups_100 : decode cX6_collectGroups 100 = .ok (.iload 5, 2) := by decide +kernel
theorem dX6_collectGroups_102 : decode cX6_collectGroups 102 = .ok (.iload 4, 2) := by decide +kernel
theorem dX6_collectGroups_104 : decode cX6_collectGroups 104 = .ok (.iastore, 1) := by decide +kernel
theorem dX6_collectGroups_105 : decode cX6_collectGroups 105 = .ok (.aload_n 0, 1) := by decide +kernel
theorem dX6_collectGroups_106 : decode cX6_collectGroups 106 = .ok (.dup, 1) := by decide +kernel
theorem dX6_collectGroups_107 : decode cX6_collectGroups 107 = .ok (.getfield 97, 3) := by decide +kernel
theorem dX6_collectGroups_110 : decode cX6_collectGroups 110 = .ok (.iconst 1, 1) := by decide +kernel
theorem dX6_collectGroups_111 : decode cX6_collectGroups 111 = .ok (.iadd, 1) := by decide +kernel
theorem dX6_collectGroups_112 : decode cX6_collectGroups 112 = .ok (.putfield 97, 3) := by decide +kernel
theorem dX6_collectGroups_115 : decode cX6_collectGroups 115 = .ok (.iinc 4 1, 3) := by decide +kernel
theorem dX6_collectGroups_118 : decode cX6_collectGroups 118 = .ok (.goto (-110), 3) := by decide +kernel
theorem dX6_collectGroups_121 : decode cX6_collectGroups 121 = .ok (.return_, 1) := by decide +kernel
theorem cwX6_collectGroups : mw_cwV yX6_collectGroups cX6_collectGroups 6 (none) 3 := ⟨⟨wd_7, wd_1155, by decide +kernel⟩, wd_1154, sl_49⟩
set_option maxHeartbeats 4000000 in
set_option maxRecDepth 100000 in
theorem tX6_collectGroups (l : Launch) (G : mwG) (ad : Nat → Nat) (fu : Nat) (a1 : Int32) (a2 : Int32) (a3 : Int32) (M : mwM) (L : mwL) {M0 : mwM} {L0 : mwL} (hD : DX6_collectGroups fu a1 a2 a3 M L = some (M0, L0)) : Met l yX6_collectGroups (Cond.code yX6_collectGroups cX6_collectGroups 6 (none) :: GT) ({ frames := 1, cells := 0, slots := 0, locals := 23 }) (mw_Pre G ad NF TF FF M L [.ref (ad 61), .int a1, .int a2, .int a3]) (mw_Qv G ad NF TF FF (mw_eqV M0 L0)) 0 0 (mw_fr G) := by
  refine mw_enter (by decide) (Nat.le_of_ble_eq_true rfl) ?_
  intro p e s m below meth c ls C hr hlocks hnm hw hl
  have hl : lv_has ls 6 [(0, .ref (ad 61)), (1, .int a1), (2, .int a2), (3, .int a3)] := hl
  have hh8 : ∀ (f : Nat) (v4 : Int32) (M : mwM) (L : mwL) (H : Heap) (locs : List Loc) (ls : Array Slot), fX6_collectGroups_h8 fu a1 a2 a3 f (v4, M, L) = some (M0, L0) → mw_W G ad NF TF FF M L H locs → lv_has ls 6 [(0, .ref (ad 61)), (1, .int a1), (2, .int a2), (3, .int a3), (4, .int v4)] → W p l e ({ frames := 1, cells := 0, slots := 0, locals := 23 }) s m [.ref (ad 61), .int a1, .int a2, .int a3].toArray below meth c H locs 0 0 (MQ below (mw_Qv G ad NF TF FF (mw_eqV M0 L0)) [.ref (ad 61), .int a1, .int a2, .int a3].toArray s 0 0 (mw_fr G)) (F0 m 8 ls []) := by
    intro f
    induction f with
    | zero => intro v4 M L H locs ls hD; cases hD
    | succ f8 ih8 =>
      intro v4 M L H locs ls hD hw hl
      replace hD : fX6_collectGroups_i8 fu a1 a2 a3 (fX6_collectGroups_h8 fu a1 a2 a3 f8) v4 M L = some (M0, L0) := hD
      have hb115 : ∀ (v4 : Int32) (M : mwM) (L : mwL) (H : Heap) (locs : List Loc) (ls : Array Slot), fX6_collectGroups_b115 fu a1 a2 a3 (fX6_collectGroups_h8 fu a1 a2 a3 f8) v4 M L = some (M0, L0) → mw_W G ad NF TF FF M L H locs → lv_has ls 6 [(0, .ref (ad 61)), (1, .int a1), (2, .int a2), (3, .int a3), (4, .int v4)] → W p l e ({ frames := 1, cells := 0, slots := 0, locals := 23 }) s m [.ref (ad 61), .int a1, .int a2, .int a3].toArray below meth c H locs 0 0 (MQ below (mw_Qv G ad NF TF FF (mw_eqV M0 L0)) [.ref (ad 61), .int a1, .int a2, .int a3].toArray s 0 0 (mw_fr G)) (F0 m 115 ls []) := by
        intro v4 M L H locs ls hD hw hl
        unfold fX6_collectGroups_b115 at hD
        obtain ⟨x26, ex26, hD⟩ := g_let hD
        refine lv_iinc (v := x26) (lv' := [(4, .int x26), (0, .ref (ad 61)), (1, .int a1), (2, .int a2), (3, .int a3)]) C.1.1 C.1.2.1 dX6_collectGroups_115 hl (k := 4) rfl (by rw [ex26]; rfl) (by decide) rfl (fun ls hl => ?_)
        refine lv_goto (tgt := 8) C.1.1 C.1.2.1 dX6_collectGroups_118 (by decide) ?_
        exact ih8 x26 M L _ _ ls hD hw (lv_sub hl [1, 2, 3, 4, 0] rfl)
      have hb96 : ∀ (v4 : Int32) (v5 : Int32) (M : mwM) (L : mwL) (H : Heap) (locs : List Loc) (ls : Array Slot), fX6_collectGroups_b96 fu a1 a2 a3 (fX6_collectGroups_h8 fu a1 a2 a3 f8) v4 v5 M L = some (M0, L0) → mw_W G ad NF TF FF M L H locs → lv_has ls 6 [(0, .ref (ad 61)), (1, .int a1), (2, .int a2), (3, .int a3), (4, .int v4), (5, .int v5)] → W p l e ({ frames := 1, cells := 0, slots := 0, locals := 23 }) s m [.ref (ad 61), .int a1, .int a2, .int a3].toArray below meth c H locs 0 0 (MQ below (mw_Qv G ad NF TF FF (mw_eqV M0 L0)) [.ref (ad 61), .int a1, .int a2, .int a3].toArray s 0 0 (mw_fr G)) (F0 m 96 ls []) := by
        intro v4 v5 M L H locs ls hD hw hl
        unfold fX6_collectGroups_b96 at hD
        refine lv_aload_n C.1.1 C.1.2.1 dX6_collectGroups_96 rfl (lv_at hl 0 rfl) ?_
        refine mr_getR C hw kc_6 5 (by decide) tf_61 ff_61_5 wd_237 dX6_collectGroups_97 (by decide) rfl ?_
        refine lv_iload C.1.1 C.1.2.1 dX6_collectGroups_100 (lv_at hl 5 rfl) ?_
        refine lv_iload C.1.1 C.1.2.1 dX6_collectGroups_102 (lv_at hl 4 rfl) ?_
        obtain ⟨q23, hD⟩ := g_ck hD
        obtain ⟨M24, eM24, hD⟩ := g_let hD
        refine mr_iast C hw (by decide) tf_92 q23 dX6_collectGroups_104 (fun H locs hw => ?_)
        replace hw : mw_W G ad NF TF FF M24 L H locs := by rw [eM24]; exact hw
        refine lv_aload_n C.1.1 C.1.2.1 dX6_collectGroups_105 rfl (lv_at hl 0 rfl) ?_
        refine lv_dup C.1.1 C.1.2.1 dX6_collectGroups_106 rfl ?_
        refine mr_getI C hw kc_6 13 (by decide) tf_61 wd_250 dX6_collectGroups_107 (by decide) rfl ?_
        refine lv_iconst (v := 1) C.1.1 C.1.2.1 dX6_collectGroups_110 (by decide) ?_
        refine lv_iadd C.1.1 C.1.2.1 dX6_collectGroups_111 ?_
        obtain ⟨M25, eM25, hD⟩ := g_let hD
        refine mr_putI C hw kc_6 13 (by decide) tf_61 wd_250 dX6_collectGroups_112 (by decide) rfl rfl rfl rfl (fun H locs hw => ?_)
        replace hw : mw_W G ad NF TF FF M25 L H locs := by rw [eM25]; exact hw
        exact hb115 v4 M25 L _ _ ls hD hw (lv_sub hl [0, 1, 2, 3, 4] rfl)
      have hh47 : ∀ (f : Nat) (v4 : Int32) (v5 : Int32) (M : mwM) (L : mwL) (H : Heap) (locs : List Loc) (ls : Array Slot), fX6_collectGroups_h47 fu a1 a2 a3 (fX6_collectGroups_h8 fu a1 a2 a3 f8) f (v4, v5, M, L) = some (M0, L0) → mw_W G ad NF TF FF M L H locs → lv_has ls 6 [(0, .ref (ad 61)), (1, .int a1), (2, .int a2), (3, .int a3), (4, .int v4), (5, .int v5)] → W p l e ({ frames := 1, cells := 0, slots := 0, locals := 23 }) s m [.ref (ad 61), .int a1, .int a2, .int a3].toArray below meth c H locs 0 0 (MQ below (mw_Qv G ad NF TF FF (mw_eqV M0 L0)) [.ref (ad 61), .int a1, .int a2, .int a3].toArray s 0 0 (mw_fr G)) (F0 m 47 ls []) := by
        intro f
        induction f with
        | zero => intro v4 v5 M L H locs ls hD; cases hD
        | succ f47 ih47 =>
          intro v4 v5 M L H locs ls hD hw hl
          replace hD : fX6_collectGroups_i47 fu a1 a2 a3 (fX6_collectGroups_h8 fu a1 a2 a3 f8) (fX6_collectGroups_h47 fu a1 a2 a3 (fX6_collectGroups_h8 fu a1 a2 a3 f8) f47) v4 v5 M L = some (M0, L0) := hD
          unfold fX6_collectGroups_i47 at hD
          refine lv_iload C.1.1 C.1.2.1 dX6_collectGroups_47 (lv_at hl 5 rfl) ?_
          refine lv_if_le (tgt := 96) C.1.1 C.1.2.1 dX6_collectGroups_49 (by decide) (fun c10 => ?_) (fun c10 => ?_)
          · replace hD := g_pos c10 hD
            exact hb96 v4 v5 M L _ _ ls hD hw (lv_sub hl [0, 1, 2, 3, 4, 5] rfl)
          · replace hD := g_neg c10 hD
            refine lv_aload_n C.1.1 C.1.2.1 dX6_collectGroups_52 rfl (lv_at hl 0 rfl) ?_
            refine lv_aload_n C.1.1 C.1.2.1 dX6_collectGroups_53 rfl (lv_at hl 0 rfl) ?_
            refine mr_getR C hw kc_6 5 (by decide) tf_61 ff_61_5 wd_237 dX6_collectGroups_54 (by decide) rfl ?_
            refine lv_iload C.1.1 C.1.2.1 dX6_collectGroups_57 (lv_at hl 5 rfl) ?_
            refine lv_iconst (v := 1) C.1.1 C.1.2.1 dX6_collectGroups_59 (by decide) ?_
            refine lv_isub C.1.1 C.1.2.1 dX6_collectGroups_60 ?_
            obtain ⟨q11, hD⟩ := g_ck hD
            refine mr_iald C hw (by decide) tf_92 q11 dX6_collectGroups_61 ?_
            obtain ⟨r14, M12, L13, h1, hD⟩ := g_b3 hD
            refine md_cvI (As := [.int (M 92 (v5 - 1).toNatClampNeg)]) (rest := []) C hw (tX6_octetsOf l G ad fu (M 92 (v5 - 1).toNatClampNeg) M L h1) kc_6 (by decide) tf_61 wd_1125 cwX6_octetsOf ⟨Nat.le_of_ble_eq_true rfl, Nat.le_of_ble_eq_true rfl⟩ rfl hl.1 (Nat.le_of_ble_eq_true rfl) dX6_collectGroups_62 rfl rfl ⟨Nat.zero_le _, Nat.zero_le _⟩ rfl (fun H locs hw => ?_)
            refine lv_aload_n C.1.1 C.1.2.1 dX6_collectGroups_65 rfl (lv_at hl 0 rfl) ?_
            refine lv_iload C.1.1 C.1.2.1 dX6_collectGroups_66 (lv_at hl 4 rfl) ?_
            obtain ⟨r17, M15, L16, h1, hD⟩ := g_b3 hD
            refine md_cvI (As := [.int v4]) (rest := [.int r14]) C hw (tX6_octetsOf l G ad fu v4 M12 L13 h1) kc_6 (by decide) tf_61 wd_1125 cwX6_octetsOf ⟨Nat.le_of_ble_eq_true rfl, Nat.le_of_ble_eq_true rfl⟩ rfl hl.1 (Nat.le_of_ble_eq_true rfl) dX6_collectGroups_68 rfl rfl ⟨Nat.zero_le _, Nat.zero_le _⟩ rfl (fun H locs hw => ?_)
            refine lv_icmp_ge (tgt := 96) C.1.1 C.1.2.1 dX6_collectGroups_71 (by decide) (fun c18 => ?_) (fun c18 => ?_)
            · replace hD := g_pos c18 hD
              exact hb96 v4 v5 M15 L16 _ _ ls hD hw (lv_sub hl [0, 1, 2, 3, 4, 5] rfl)
            · replace hD := g_neg c18 hD
              refine lv_aload_n C.1.1 C.1.2.1 dX6_collectGroups_74 rfl (lv_at hl 0 rfl) ?_
              refine mr_getR C hw kc_6 5 (by decide) tf_61 ff_61_5 wd_237 dX6_collectGroups_75 (by decide) rfl ?_
              refine lv_iload C.1.1 C.1.2.1 dX6_collectGroups_78 (lv_at hl 5 rfl) ?_
              refine lv_aload_n C.1.1 C.1.2.1 dX6_collectGroups_80 rfl (lv_at hl 0 rfl) ?_
              refine mr_getR C hw kc_6 5 (by decide) tf_61 ff_61_5 wd_237 dX6_collectGroups_81 (by decide) rfl ?_
              refine lv_iload C.1.1 C.1.2.1 dX6_collectGroups_84 (lv_at hl 5 rfl) ?_
              refine lv_iconst (v := 1) C.1.1 C.1.2.1 dX6_collectGroups_86 (by decide) ?_
              refine lv_isub C.1.1 C.1.2.1 dX6_collectGroups_87 ?_
              obtain ⟨q19, hD⟩ := g_ck hD
              refine mr_iald C hw (by decide) tf_92 q19 dX6_collectGroups_88 ?_
              obtain ⟨q20, hD⟩ := g_ck hD
              obtain ⟨M21, eM21, hD⟩ := g_let hD
              refine mr_iast C hw (by decide) tf_92 q20 dX6_collectGroups_89 (fun H locs hw => ?_)
              replace hw : mw_W G ad NF TF FF M21 L16 H locs := by rw [eM21]; exact hw
              obtain ⟨x22, ex22, hD⟩ := g_let hD
              refine lv_iinc (v := x22) (lv' := [(5, .int x22), (0, .ref (ad 61)), (1, .int a1), (2, .int a2), (3, .int a3), (4, .int v4)]) C.1.1 C.1.2.1 dX6_collectGroups_90 hl (k := 5) rfl (by rw [ex22]; rfl) (by decide) rfl (fun ls hl => ?_)
              refine lv_goto (tgt := 47) C.1.1 C.1.2.1 dX6_collectGroups_93 (by decide) ?_
              exact ih47 v4 x22 M21 L16 _ _ ls hD hw (lv_sub hl [1, 2, 3, 4, 5, 0] rfl)
      unfold fX6_collectGroups_i8 at hD
      refine lv_iload C.1.1 C.1.2.1 dX6_collectGroups_8 (lv_at hl 4 rfl) ?_
      refine lv_aload_n C.1.1 C.1.2.1 dX6_collectGroups_10 rfl (lv_at hl 0 rfl) ?_
      refine mr_getI C hw kc_6 10 (by decide) tf_61 wd_243 dX6_collectGroups_11 (by decide) rfl ?_
      refine lv_icmp_ge (tgt := 121) C.1.1 C.1.2.1 dX6_collectGroups_14 (by decide) (fun c1 => ?_) (fun c1 => ?_)
      · replace hD := g_pos c1 hD
        exact mr_vret C hr hlocks hw (Option.some.inj hD) dX6_collectGroups_121
      · replace hD := g_neg c1 hD
        refine lv_aload_n C.1.1 C.1.2.1 dX6_collectGroups_17 rfl (lv_at hl 0 rfl) ?_
        refine lv_iload C.1.1 C.1.2.1 dX6_collectGroups_18 (lv_at hl 4 rfl) ?_
        refine lv_iload_n C.1.1 C.1.2.1 dX6_collectGroups_20 rfl (lv_at hl 1 rfl) ?_
        refine lv_iload_n C.1.1 C.1.2.1 dX6_collectGroups_21 rfl (lv_at hl 2 rfl) ?_
        obtain ⟨r4, M2, L3, h1, hD⟩ := g_b3 hD
        refine md_cvI (As := [.int v4, .int a1, .int a2]) (rest := []) C hw (tX6_isOf l G ad fu v4 a1 a2 M L h1) kc_6 (by decide) tf_61 wd_1145 cwX6_isOf ⟨Nat.le_of_ble_eq_true rfl, Nat.le_of_ble_eq_true rfl⟩ rfl hl.1 (Nat.le_of_ble_eq_true rfl) dX6_collectGroups_22 rfl rfl ⟨Nat.zero_le _, Nat.zero_le _⟩ rfl (fun H locs hw => ?_)
        refine lv_if_eq (tgt := 115) C.1.1 C.1.2.1 dX6_collectGroups_25 (by decide) (fun c5 => ?_) (fun c5 => ?_)
        · replace hD := g_pos c5 hD
          exact hb115 v4 M2 L3 _ _ ls hD hw (lv_sub hl [0, 1, 2, 3, 4] rfl)
        · replace hD := g_neg c5 hD
          refine lv_aload_n C.1.1 C.1.2.1 dX6_collectGroups_28 rfl (lv_at hl 0 rfl) ?_
          refine mr_getR C hw kc_6 0 (by decide) tf_61 ff_61_0 wd_228 dX6_collectGroups_29 (by decide) rfl ?_
          refine lv_iconst (v := 3) C.1.1 C.1.2.1 dX6_collectGroups_32 (by decide) ?_
          refine mr_aald C hw (by decide) tf_62 (by decide) (by decide) rfl rfl (show vp_in 3 10 from by unfold vp_in; decide) ff_62_3 dX6_collectGroups_33 ?_
          refine lv_iload C.1.1 C.1.2.1 dX6_collectGroups_34 (lv_at hl 4 rfl) ?_
          obtain ⟨q7, hD⟩ := g_ck hD
          refine mr_iald C hw (by decide) tf_66 q7 dX6_collectGroups_36 ?_
          refine lv_iload_n C.1.1 C.1.2.1 dX6_collectGroups_37 rfl (lv_at hl 3 rfl) ?_
          refine lv_icmp_ne (tgt := 115) C.1.1 C.1.2.1 dX6_collectGroups_38 (by decide) (fun c8 => ?_) (fun c8 => ?_)
          · replace hD := g_neg c8 hD
            exact hb115 v4 M2 L3 _ _ ls hD hw (lv_sub hl [0, 1, 2, 3, 4] rfl)
          · replace hD := g_pos c8 hD
            refine lv_aload_n C.1.1 C.1.2.1 dX6_collectGroups_41 rfl (lv_at hl 0 rfl) ?_
            refine mr_getI C hw kc_6 13 (by decide) tf_61 wd_250 dX6_collectGroups_42 (by decide) rfl ?_
            obtain ⟨x9, ex9, hD⟩ := g_let hD
            refine W.eq (g2 := F0 m 45 ls (.int x9 :: [])) (by rw [ex9]) ?_
            refine lv_istore (lv' := [(5, .int x9), (0, .ref (ad 61)), (1, .int a1), (2, .int a2), (3, .int a3), (4, .int v4)]) C.1.1 C.1.2.1 dX6_collectGroups_45 hl (by decide) rfl (fun ls hl => ?_)
            exact hh47 fu v4 x9 M2 L3 _ _ ls hD hw (lv_sub hl [1, 2, 3, 4, 5, 0] rfl)
  unfold DX6_collectGroups at hD
  refine lv_aload_n C.1.1 C.1.2.1 dX6_collectGroups_0 rfl (lv_at hl 0 rfl) ?_
  refine lv_iconst (v := 0) C.1.1 C.1.2.1 dX6_collectGroups_1 (by decide) ?_
  obtain ⟨M27, eM27, hD⟩ := g_let hD
  refine mr_putI C hw kc_6 13 (by decide) tf_61 wd_250 dX6_collectGroups_2 (by decide) rfl rfl rfl rfl (fun H locs hw => ?_)
  replace hw : mw_W G ad NF TF FF M27 L H locs := by rw [eM27]; exact hw
  refine lv_iconst (v := 0) C.1.1 C.1.2.1 dX6_collectGroups_5 (by decide) ?_
  refine lv_istore (lv' := [(4, .int 0), (0, .ref (ad 61)), (1, .int a1), (2, .int a2), (3, .int a3)]) C.1.1 C.1.2.1 dX6_collectGroups_6 hl (by decide) rfl (fun ls hl => ?_)
  exact hh8 fu 0 M27 L _ _ ls hD hw (lv_sub hl [1, 2, 3, 4, 0] rfl)

theorem dX6_emptyFrames_0 : decode cX6_emptyFrames 0 = .ok (.iconst 0, 1) := by decide +kernel
theorem dX6_emptyFrames_1 : decode cX6_emptyFrames 1 = .ok (.istore_n 1, 1) := by decide +kernel
theorem dX6_emptyFrames_2 : decode cX6_emptyFrames 2 = .ok (.iload_n 1, 1) := by decide +kernel
theorem dX6_emptyFrames_3 : decode cX6_emptyFrames 3 = .ok (.aload_n 0, 1) := by decide +kernel
theorem dX6_emptyFrames_4 : decode cX6_emptyFrames 4 = .ok (.getfield 97, 3) := by decide +kernel
theorem dX6_emptyFrames_7 : decode cX6_emptyFrames 7 = .ok (.if_icmp .ge 16, 3) := by decide +kernel
theorem dX6_emptyFrames_10 : decode cX6_emptyFrames 10 = .ok (.aload_n 0, 1) := by decide +kernel
theorem dX6_emptyFrames_11 : decode cX6_emptyFrames 11 = .ok (.getfield 35, 3) := by decide +kernel
theorem dX6_emptyFrames_14 : decode cX6_emptyFrames 14 = .ok (.iload_n 1, 1) := by decide +kernel
theorem dX6_emptyFrames_15 : decode cX6_emptyFrames 15 = .ok (.iconst 0, 1) := by decide +kernel
theorem dX6_emptyFrames_16 : decode cX6_emptyFrames 16 = .ok (.iastore, 1) := by decide +kernel
theorem dX6_emptyFrames_17 : decode cX6_emptyFrames 17 = .ok (.iinc 1 1, 3) := by decide +kernel
theorem dX6_emptyFrames_20 : decode cX6_emptyFrames 20 = .ok (.goto (-18), 3) := by decide +kernel
theorem dX6_emptyFrames_23 : decode cX6_emptyFrames 23 = .ok (.return_, 1) := by decide +kernel
theorem cwX6_emptyFrames : mw_cwV yX6_emptyFrames cX6_emptyFrames 2 (none) 0 := ⟨⟨wd_7, wd_1171, by decide +kernel⟩, wd_1170, sl_53⟩
set_option maxHeartbeats 4000000 in
set_option maxRecDepth 100000 in
theorem tX6_emptyFrames (l : Launch) (G : mwG) (ad : Nat → Nat) (fu : Nat) (M : mwM) (L : mwL) {M0 : mwM} {L0 : mwL} (hD : DX6_emptyFrames fu M L = some (M0, L0)) : Met l yX6_emptyFrames (Cond.code yX6_emptyFrames cX6_emptyFrames 2 (none) :: GT) ({ frames := 0, cells := 0, slots := 0, locals := 0 }) (mw_Pre G ad NF TF FF M L [.ref (ad 61)]) (mw_Qv G ad NF TF FF (mw_eqV M0 L0)) 0 0 (mw_fr G) := by
  refine mw_enter (by decide) (Nat.le_of_ble_eq_true rfl) ?_
  intro p e s m below meth c ls C hr hlocks hnm hw hl
  have hl : lv_has ls 2 [(0, .ref (ad 61))] := hl
  have hh2 : ∀ (f : Nat) (v1 : Int32) (M : mwM) (L : mwL) (H : Heap) (locs : List Loc) (ls : Array Slot), fX6_emptyFrames_h2 fu f (v1, M, L) = some (M0, L0) → mw_W G ad NF TF FF M L H locs → lv_has ls 2 [(0, .ref (ad 61)), (1, .int v1)] → W p l e ({ frames := 0, cells := 0, slots := 0, locals := 0 }) s m [.ref (ad 61)].toArray below meth c H locs 0 0 (MQ below (mw_Qv G ad NF TF FF (mw_eqV M0 L0)) [.ref (ad 61)].toArray s 0 0 (mw_fr G)) (F0 m 2 ls []) := by
    intro f
    induction f with
    | zero => intro v1 M L H locs ls hD; cases hD
    | succ f2 ih2 =>
      intro v1 M L H locs ls hD hw hl
      replace hD : fX6_emptyFrames_i2 fu (fX6_emptyFrames_h2 fu f2) v1 M L = some (M0, L0) := hD
      unfold fX6_emptyFrames_i2 at hD
      refine lv_iload_n C.1.1 C.1.2.1 dX6_emptyFrames_2 rfl (lv_at hl 1 rfl) ?_
      refine lv_aload_n C.1.1 C.1.2.1 dX6_emptyFrames_3 rfl (lv_at hl 0 rfl) ?_
      refine mr_getI C hw kc_6 13 (by decide) tf_61 wd_250 dX6_emptyFrames_4 (by decide) rfl ?_
      refine lv_icmp_ge (tgt := 23) C.1.1 C.1.2.1 dX6_emptyFrames_7 (by decide) (fun c1 => ?_) (fun c1 => ?_)
      · replace hD := g_pos c1 hD
        exact mr_vret C hr hlocks hw (Option.some.inj hD) dX6_emptyFrames_23
      · replace hD := g_neg c1 hD
        refine lv_aload_n C.1.1 C.1.2.1 dX6_emptyFrames_10 rfl (lv_at hl 0 rfl) ?_
        refine mr_getR C hw kc_6 7 (by decide) tf_61 ff_61_7 wd_239 dX6_emptyFrames_11 (by decide) rfl ?_
        refine lv_iload_n C.1.1 C.1.2.1 dX6_emptyFrames_14 rfl (lv_at hl 1 rfl) ?_
        refine lv_iconst (v := 0) C.1.1 C.1.2.1 dX6_emptyFrames_15 (by decide) ?_
        obtain ⟨q2, hD⟩ := g_ck hD
        obtain ⟨M3, eM3, hD⟩ := g_let hD
        refine mr_iast C hw (by decide) tf_94 q2 dX6_emptyFrames_16 (fun H locs hw => ?_)
        replace hw : mw_W G ad NF TF FF M3 L H locs := by rw [eM3]; exact hw
        obtain ⟨x4, ex4, hD⟩ := g_let hD
        refine lv_iinc (v := x4) (lv' := [(1, .int x4), (0, .ref (ad 61))]) C.1.1 C.1.2.1 dX6_emptyFrames_17 hl (k := 1) rfl (by rw [ex4]; rfl) (by decide) rfl (fun ls hl => ?_)
        refine lv_goto (tgt := 2) C.1.1 C.1.2.1 dX6_emptyFrames_20 (by decide) ?_
        exact ih2 x4 M3 L _ _ ls hD hw (lv_sub hl [1, 0] rfl)
  unfold DX6_emptyFrames at hD
  refine lv_iconst (v := 0) C.1.1 C.1.2.1 dX6_emptyFrames_0 (by decide) ?_
  refine lv_istore_n (lv' := [(1, .int 0), (0, .ref (ad 61))]) C.1.1 C.1.2.1 dX6_emptyFrames_1 rfl hl (by decide) rfl (fun ls hl => ?_)
  exact hh2 fu 0 M L _ _ ls hD hw (lv_sub hl [1, 0] rfl)

theorem dX6_fits_0 : decode cX6_fits 0 = .ok (.iload_n 1, 1) := by decide +kernel
theorem dX6_fits_1 : decode cX6_fits 1 = .ok (.ifCond .ne 7, 3) := by decide +kernel
theorem dX6_fits_4 : decode cX6_fits 4 = .ok (.aload_n 0, 1) := by decide +kernel
theorem dX6_fits_5 : decode cX6_fits 5 = .ok (.invokevirtual 113, 3) := by decide +kernel
theorem dX6_fits_8 : decode cX6_fits 8 = .ok (.iload_n 1, 1) := by decide +kernel
theorem dX6_fits_9 : decode cX6_fits 9 = .ok (.aload_n 0, 1) := by decide +kernel
theorem dX6_fits_10 : decode cX6_fits 10 = .ok (.getfield 97, 3) := by decide +kernel
theorem dX6_fits_13 : decode cX6_fits 13 = .ok (.if_icmp .lt 5, 3) := by decide +kernel
theorem dX6_fits_16 : decode cX6_fits 16 = .ok (.iconst 1, 1) := by decide +kernel
theorem dX6_fits_17 : decode cX6_fits 17 = .ok (.ireturn, 1) := by decide +kernel
theorem dX6_fits_18 : decode cX6_fits 18 = .ok (.aload_n 0, 1) := by decide +kernel
theorem dX6_fits_19 : decode cX6_fits 19 = .ok (.aload_n 0, 1) := by decide +kernel
theorem dX6_fits_20 : decode cX6_fits 20 = .ok (.getfield 29, 3) := by decide +kernel
theorem dX6_fits_23 : decode cX6_fits 23 = .ok (.iload_n 1, 1) := by decide +kernel
theorem dX6_fits_24 : decode cX6_fits 24 = .ok (.iaload, 1) := by decide +kernel
theorem dX6_fits_25 : decode cX6_fits 25 = .ok (.invokevirtual 62, 3) := by decide +kernel
theorem dX6_fits_28 : decode cX6_fits 28 = .ok (.istore 5, 2) := by decide +kernel
theorem dX6_fits_30 : decode cX6_fits 30 = .ok (.iconst 0, 1) := by decide +kernel
theorem dX6_fits_31 : decode cX6_fits 31 = .ok (.istore 6, 2) := by decide +kernel
theorem dX6_fits_33 : decode cX6_fits 33 = .ok (.iload 6, 2) := by decide +kernel
theorem dX6_fits_35 : decode cX6_fits 35 = .ok (.iload_n 2, 1) := by decide +kernel
theorem dX6_fits_36 : decode cX6_fits 36 = .ok (.if_icmp .gt 85, 3) := by decide +kernel
theorem dX6_fits_39 : decode cX6_fits 39 = .ok (.iload 6, 2) := by decide +kernel
theorem dX6_fits_41 : decode cX6_fits 41 = .ok (.iload_n 3, 1) := by decide +kernel
theorem dX6_fits_42 : decode cX6_fits 42 = .ok (.if_icmp .ge 79, 3) := by decide +kernel
theorem dX6_fits_45 : decode cX6_fits 45 = .ok (.aload_n 0, 1) := by decide +kernel
theorem dX6_fits_46 : decode cX6_fits 46 = .ok (.getfield 35, 3) := by decide +kernel
theorem dX6_fits_49 : decode cX6_fits 49 = .ok (.iload 6, 2) := by decide +kernel
theorem dX6_fits_51 : decode cX6_fits 51 = .ok (.iaload, 1) := by decide +kernel
theorem dX6_fits_52 : decode cX6_fits 52 = .ok (.iload 5, 2) := by decide +kernel
theorem dX6_fits_54 : decode cX6_fits 54 = .ok (.iadd, 1) := by decide +kernel
theorem dX6_fits_55 : decode cX6_fits 55 = .ok (.iload 4, 2) := by decide +kernel
theorem dX6_fits_57 : decode cX6_fits 57 = .ok (.if_icmp .gt 58, 3) := by decide +kernel
theorem dX6_fits_60 : decode cX6_fits 60 = .ok (.aload_n 0, 1) := by decide +kernel
theorem dX6_fits_61 : decode cX6_fits 61 = .ok (.getfield 35, 3) := by decide +kernel
theorem dX6_fits_64 : decode cX6_fits 64 = .ok (.iload 6, 2) := by decide +kernel
theorem dX6_fits_66 : decode cX6_fits 66 = .ok (.dup2, 1) := by decide +kernel
theorem dX6_fits_67 : decode cX6_fits 67 = .ok (.iaload, 1) := by decide +kernel
theorem dX6_fits_68 : decode cX6_fits 68 = .ok (.iload 5, 2) := by decide +kernel
theorem dX6_fits_70 : decode cX6_fits 70 = .ok (.iadd, 1) := by decide +kernel
theorem dX6_fits_71 : decode cX6_fits 71 = .ok (.iastore, 1) := by decide +kernel
theorem dX6_fits_72 : decode cX6_fits 72 = .ok (.aload_n 0, 1) := by decide +kernel
theorem dX6_fits_73 : decode cX6_fits 73 = .ok (.getfield 32, 3) := by decide +kernel
theorem dX6_fits_76 : decode cX6_fits 76 = .ok (.iload_n 1, 1) := by decide +kernel
theorem dX6_fits_77 : decode cX6_fits 77 = .ok (.iload 6, 2) := by decide +kernel
theorem dX6_fits_79 : decode cX6_fits 79 = .ok (.iastore, 1) := by decide +kernel
theorem dX6_fits_80 : decode cX6_fits 80 = .ok (.aload_n 0, 1) := by decide +kernel
theorem dX6_fits_81 : decode cX6_fits 81 = .ok (.iload_n 1, 1) := by decide +kernel
theorem dX6_fits_82 : decode cX6_fits 82 = .ok (.iconst 1, 1) := by decide +kernel
theorem dX6_fits_83 : decode cX6_fits 83 = .ok (.iadd, 1) := by decide +kernel
theorem dX6_fits_84 : decode cX6_fits 84 = .ok (.iload_n 2, 1) := by decide +kernel
theorem dX6_fits_85 : decode cX6_fits 85 = .ok (.iload 6, 2) := by decide +kernel
theorem dX6_fits_87 : decode cX6_fits 87 = .ok (.iconst 1, 1) := by decide +kernel
theorem dX6_fits_88 : decode cX6_fits 88 = .ok (.iadd, 1) := by decide +kernel
theorem dX6_fits_89 : decode cX6_fits 89 = .ok (.invokestatic 116, 3) := by decide +kernel
theorem dX6_fits_92 : decode cX6_fits 92 = .ok (.iload_n 3, 1) := by decide +kernel
theorem dX6_fits_93 : decode cX6_fits 93 = .ok (.iload 4, 2) := by decide +kernel
theorem dX6_fits_95 : decode cX6_fits 95 = .ok (.invokevirtual 109, 3) := by decide +kernel
theorem dX6_fits_98 : decode cX6_fits 98 = .ok (.ifCond .eq 5, 3) := by decide +kernel
theorem dX6_fits_101 : decode cX6_fits 101 = .ok (.iconst 1, 1) := by decide +kernel
theorem dX6_fits_102 : decode cX6_fits 102 = .ok (.ireturn, 1) := by decide +kernel
theorem dX6_fits_103 : decode cX6_fits 103 = .ok (.aload_n 0, 1) := by decide +kernel
theorem dX6_fits_104 : decode cX6_fits 104 = .ok (.getfield 35, 3) := by decide +kernel
theorem dX6_fits_107 : decode cX6_fits 107 = .ok (.iload 6, 2) := by decide +kernel
theorem dX6_fits_109 : decode cX6_fits 109 = .ok (.dup2, 1) := by decide +kernel
theorem dX6_fits_110 : decode cX6_fits 110 = .ok (.iaload, 1) := by decide +kernel
theorem dX6_fits_111 : decode cX6_fits 111 = .ok (.iload 5, 2) := by decide +kernel
theorem dX6_fits_113 : decode cX6_fits 113 = .ok (.isub, 1) := by decide +kernel
theorem dX6_fits_114 : decode cX6_fits 114 = .ok (.iastore, 1) := by decide +kernel
theorem dX6_fits_115 : decode cX6_fits 115 = .ok (.iinc 6 1, 3) := by decide +kernel
theorem dX6_fits_118 : decode cX6_fits 118 = .ok (.goto (-85), 3) := by decide +kernel
theorem dX6_fits_121 : decode cX6_fits 121 = .ok (.iconst 0, 1) := by decide +kernel
theorem dX6_fits_122 : decode cX6_fits 122 = .ok (.ireturn, 1) := by decide +kernel
theorem cwX6_fits : mw_cwV yX6_fits cX6_fits 7 ((some .boolean)) 4 := ⟨⟨wd_7, wd_1167, by decide +kernel⟩, wd_1166, sl_52⟩
set_option maxHeartbeats 4000000 in
set_option maxRecDepth 100000 in
theorem tX6_fits (l : Launch) (G : mwG) (ad : Nat → Nat) (fu : Nat) : ∀ (dp : Nat) (a1 : Int32) (a2 : Int32) (a3 : Int32) (a4 : Int32) (M : mwM) (L : mwL) {r0 : Int32} {M0 : mwM} {L0 : mwL}, DX6_fits fu dp a1 a2 a3 a4 M L = some (r0, M0, L0) → Met l yX6_fits (Cond.code yX6_fits cX6_fits 7 ((some .boolean)) :: GT) ({ frames := 1 + dp, cells := 0, slots := 0, locals := 21 + 26 * dp }) (mw_Pre G ad NF TF FF M L [.ref (ad 61), .int a1, .int a2, .int a3, .int a4]) (mw_Qi G ad NF TF FF (mw_eqI r0 M0 L0)) 0 0 (mw_fr G) := by
  intro dp
  induction dp with
  | zero => intro a1 a2 a3 a4 M L r0 M0 L0 hD; cases hD
  | succ dp ihd =>
    intro a1 a2 a3 a4 M L r0 M0 L0 hD
    replace hD : BX6_fits fu (DX6_fits fu dp) a1 a2 a3 a4 M L = some (r0, M0, L0) := hD
    refine mw_enter (by decide) (Nat.le_of_ble_eq_true rfl) ?_
    intro p e s m below meth c ls C hr hlocks hnm hw hl
    have hl : lv_has ls 7 [(0, .ref (ad 61)), (1, .int a1), (2, .int a2), (3, .int a3), (4, .int a4)] := hl
    have hb121 : ∀ (M : mwM) (L : mwL) (H : Heap) (locs : List Loc) (ls : Array Slot), fX6_fits_b121 fu (DX6_fits fu dp) a1 a2 a3 a4 M L = some (r0, M0, L0) → mw_W G ad NF TF FF M L H locs → lv_has ls 7 [] → W p l e ({ frames := 1 + (dp + 1), cells := 0, slots := 0, locals := 21 + 26 * (dp + 1) }) s m [.ref (ad 61), .int a1, .int a2, .int a3, .int a4].toArray below meth c H locs 0 0 (MQ below (mw_Qi G ad NF TF FF (mw_eqI r0 M0 L0)) [.ref (ad 61), .int a1, .int a2, .int a3, .int a4].toArray s 0 0 (mw_fr G)) (F0 m 121 ls []) := by
      intro M L H locs ls hD hw hl
      unfold fX6_fits_b121 at hD
      refine lv_iconst (v := 0) C.1.1 C.1.2.1 dX6_fits_121 (by decide) ?_
      exact mr_iret C hr hlocks hw (by decide +kernel) (Option.some.inj hD) dX6_fits_122
    have hh33 : ∀ (f : Nat) (v5 : Int32) (v6 : Int32) (M : mwM) (L : mwL) (H : Heap) (locs : List Loc) (ls : Array Slot), fX6_fits_h33 fu (DX6_fits fu dp) a1 a2 a3 a4 f (v5, v6, M, L) = some (r0, M0, L0) → mw_W G ad NF TF FF M L H locs → lv_has ls 7 [(0, .ref (ad 61)), (1, .int a1), (2, .int a2), (3, .int a3), (4, .int a4), (5, .int v5), (6, .int v6)] → W p l e ({ frames := 1 + (dp + 1), cells := 0, slots := 0, locals := 21 + 26 * (dp + 1) }) s m [.ref (ad 61), .int a1, .int a2, .int a3, .int a4].toArray below meth c H locs 0 0 (MQ below (mw_Qi G ad NF TF FF (mw_eqI r0 M0 L0)) [.ref (ad 61), .int a1, .int a2, .int a3, .int a4].toArray s 0 0 (mw_fr G)) (F0 m 33 ls []) := by
      intro f
      induction f with
      | zero => intro v5 v6 M L H locs ls hD; cases hD
      | succ f33 ih33 =>
        intro v5 v6 M L H locs ls hD hw hl
        replace hD : fX6_fits_i33 fu (DX6_fits fu dp) a1 a2 a3 a4 (fX6_fits_h33 fu (DX6_fits fu dp) a1 a2 a3 a4 f33) v5 v6 M L = some (r0, M0, L0) := hD
        have hb115 : ∀ (v5 : Int32) (v6 : Int32) (M : mwM) (L : mwL) (H : Heap) (locs : List Loc) (ls : Array Slot), fX6_fits_b115 fu (DX6_fits fu dp) a1 a2 a3 a4 (fX6_fits_h33 fu (DX6_fits fu dp) a1 a2 a3 a4 f33) v5 v6 M L = some (r0, M0, L0) → mw_W G ad NF TF FF M L H locs → lv_has ls 7 [(0, .ref (ad 61)), (1, .int a1), (2, .int a2), (3, .int a3), (4, .int a4), (5, .int v5), (6, .int v6)] → W p l e ({ frames := 1 + (dp + 1), cells := 0, slots := 0, locals := 21 + 26 * (dp + 1) }) s m [.ref (ad 61), .int a1, .int a2, .int a3, .int a4].toArray below meth c H locs 0 0 (MQ below (mw_Qi G ad NF TF FF (mw_eqI r0 M0 L0)) [.ref (ad 61), .int a1, .int a2, .int a3, .int a4].toArray s 0 0 (mw_fr G)) (F0 m 115 ls []) := by
          intro v5 v6 M L H locs ls hD hw hl
          unfold fX6_fits_b115 at hD
          obtain ⟨x22, ex22, hD⟩ := g_let hD
          refine lv_iinc (v := x22) (lv' := [(6, .int x22), (0, .ref (ad 61)), (1, .int a1), (2, .int a2), (3, .int a3), (4, .int a4), (5, .int v5)]) C.1.1 C.1.2.1 dX6_fits_115 hl (k := 6) rfl (by rw [ex22]; rfl) (by decide) rfl (fun ls hl => ?_)
          refine lv_goto (tgt := 33) C.1.1 C.1.2.1 dX6_fits_118 (by decide) ?_
          exact ih33 v5 x22 M L _ _ ls hD hw (lv_sub hl [1, 2, 3, 4, 5, 6, 0] rfl)
        unfold fX6_fits_i33 at hD
        refine lv_iload C.1.1 C.1.2.1 dX6_fits_33 (lv_at hl 6 rfl) ?_
        refine lv_iload_n C.1.1 C.1.2.1 dX6_fits_35 rfl (lv_at hl 2 rfl) ?_
        refine lv_icmp_gt (tgt := 121) C.1.1 C.1.2.1 dX6_fits_36 (by decide) (fun c6 => ?_) (fun c6 => ?_)
        · replace hD := g_pos c6 hD
          exact hb121 M L _ _ ls hD hw (lv_sub hl [] rfl)
        · replace hD := g_neg c6 hD
          refine lv_iload C.1.1 C.1.2.1 dX6_fits_39 (lv_at hl 6 rfl) ?_
          refine lv_iload_n C.1.1 C.1.2.1 dX6_fits_41 rfl (lv_at hl 3 rfl) ?_
          refine lv_icmp_ge (tgt := 121) C.1.1 C.1.2.1 dX6_fits_42 (by decide) (fun c7 => ?_) (fun c7 => ?_)
          · replace hD := g_pos c7 hD
            exact hb121 M L _ _ ls hD hw (lv_sub hl [] rfl)
          · replace hD := g_neg c7 hD
            refine lv_aload_n C.1.1 C.1.2.1 dX6_fits_45 rfl (lv_at hl 0 rfl) ?_
            refine mr_getR C hw kc_6 7 (by decide) tf_61 ff_61_7 wd_239 dX6_fits_46 (by decide) rfl ?_
            refine lv_iload C.1.1 C.1.2.1 dX6_fits_49 (lv_at hl 6 rfl) ?_
            obtain ⟨q8, hD⟩ := g_ck hD
            refine mr_iald C hw (by decide) tf_94 q8 dX6_fits_51 ?_
            refine lv_iload C.1.1 C.1.2.1 dX6_fits_52 (lv_at hl 5 rfl) ?_
            refine lv_iadd C.1.1 C.1.2.1 dX6_fits_54 ?_
            refine lv_iload C.1.1 C.1.2.1 dX6_fits_55 (lv_at hl 4 rfl) ?_
            refine lv_icmp_gt (tgt := 115) C.1.1 C.1.2.1 dX6_fits_57 (by decide) (fun c9 => ?_) (fun c9 => ?_)
            · replace hD := g_pos c9 hD
              exact hb115 v5 v6 M L _ _ ls hD hw (lv_sub hl [0, 1, 2, 3, 4, 5, 6] rfl)
            · replace hD := g_neg c9 hD
              refine lv_aload_n C.1.1 C.1.2.1 dX6_fits_60 rfl (lv_at hl 0 rfl) ?_
              refine mr_getR C hw kc_6 7 (by decide) tf_61 ff_61_7 wd_239 dX6_fits_61 (by decide) rfl ?_
              refine lv_iload C.1.1 C.1.2.1 dX6_fits_64 (lv_at hl 6 rfl) ?_
              refine lv_dup2_11 C.1.1 C.1.2.1 dX6_fits_66 rfl rfl ?_
              obtain ⟨q10, hD⟩ := g_ck hD
              refine mr_iald C hw (by decide) tf_94 q10 dX6_fits_67 ?_
              refine lv_iload C.1.1 C.1.2.1 dX6_fits_68 (lv_at hl 5 rfl) ?_
              refine lv_iadd C.1.1 C.1.2.1 dX6_fits_70 ?_
              obtain ⟨q11, hD⟩ := g_ck hD
              obtain ⟨M12, eM12, hD⟩ := g_let hD
              refine mr_iast C hw (by decide) tf_94 q11 dX6_fits_71 (fun H locs hw => ?_)
              replace hw : mw_W G ad NF TF FF M12 L H locs := by rw [eM12]; exact hw
              refine lv_aload_n C.1.1 C.1.2.1 dX6_fits_72 rfl (lv_at hl 0 rfl) ?_
              refine mr_getR C hw kc_6 6 (by decide) tf_61 ff_61_6 wd_238 dX6_fits_73 (by decide) rfl ?_
              refine lv_iload_n C.1.1 C.1.2.1 dX6_fits_76 rfl (lv_at hl 1 rfl) ?_
              refine lv_iload C.1.1 C.1.2.1 dX6_fits_77 (lv_at hl 6 rfl) ?_
              obtain ⟨q13, hD⟩ := g_ck hD
              obtain ⟨M14, eM14, hD⟩ := g_let hD
              refine mr_iast C hw (by decide) tf_93 q13 dX6_fits_79 (fun H locs hw => ?_)
              replace hw : mw_W G ad NF TF FF M14 L H locs := by rw [eM14]; exact hw
              refine lv_aload_n C.1.1 C.1.2.1 dX6_fits_80 rfl (lv_at hl 0 rfl) ?_
              refine lv_iload_n C.1.1 C.1.2.1 dX6_fits_81 rfl (lv_at hl 1 rfl) ?_
              refine lv_iconst (v := 1) C.1.1 C.1.2.1 dX6_fits_82 (by decide) ?_
              refine lv_iadd C.1.1 C.1.2.1 dX6_fits_83 ?_
              refine lv_iload_n C.1.1 C.1.2.1 dX6_fits_84 rfl (lv_at hl 2 rfl) ?_
              refine lv_iload C.1.1 C.1.2.1 dX6_fits_85 (lv_at hl 6 rfl) ?_
              refine lv_iconst (v := 1) C.1.1 C.1.2.1 dX6_fits_87 (by decide) ?_
              refine lv_iadd C.1.1 C.1.2.1 dX6_fits_88 ?_
              refine va_mmax C.1.1 C.1.2.1 (C.1.2.2.1.trans hl.1.symm) C.1.2.2.2.1 (C.1.2.2.2.2 _ wd_1172) (C.1.2.2.2.2 _ wd_1173) (C.1.2.2.2.2 _ wd_30) (C.1.2.2.2.2 _ wd_1174) (Nat.le_trans (m := 1) (Nat.le_of_ble_eq_true rfl) (Nat.le_add_right _ _)) (Nat.le_trans (m := 21) (Nat.le_of_ble_eq_true rfl) (Nat.le_add_right _ _)) (Nat.zero_le _) (Nat.zero_le _) dX6_fits_89 ?_
              refine lv_iload_n C.1.1 C.1.2.1 dX6_fits_92 rfl (lv_at hl 3 rfl) ?_
              refine lv_iload C.1.1 C.1.2.1 dX6_fits_93 (lv_at hl 4 rfl) ?_
              obtain ⟨r17, M15, L16, h1, hD⟩ := g_b3 hD
              refine md_cvI (As := [.int (a1 + 1), .int (if a2 < (v6 + 1) then (v6 + 1) else a2), .int a3, .int a4]) (rest := []) C hw (ihd (a1 + 1) (if a2 < (v6 + 1) then (v6 + 1) else a2) a3 a4 M14 L h1) kc_6 (by decide) tf_61 wd_1164 cwX6_fits ⟨by dsimp only; omega, by dsimp only; omega⟩ rfl hl.1 (Nat.le_of_ble_eq_true rfl) dX6_fits_95 rfl rfl ⟨Nat.zero_le _, Nat.zero_le _⟩ rfl (fun H locs hw => ?_)
              refine lv_if_eq (tgt := 103) C.1.1 C.1.2.1 dX6_fits_98 (by decide) (fun c18 => ?_) (fun c18 => ?_)
              · replace hD := g_pos c18 hD
                refine lv_aload_n C.1.1 C.1.2.1 dX6_fits_103 rfl (lv_at hl 0 rfl) ?_
                refine mr_getR C hw kc_6 7 (by decide) tf_61 ff_61_7 wd_239 dX6_fits_104 (by decide) rfl ?_
                refine lv_iload C.1.1 C.1.2.1 dX6_fits_107 (lv_at hl 6 rfl) ?_
                refine lv_dup2_11 C.1.1 C.1.2.1 dX6_fits_109 rfl rfl ?_
                obtain ⟨q19, hD⟩ := g_ck hD
                refine mr_iald C hw (by decide) tf_94 q19 dX6_fits_110 ?_
                refine lv_iload C.1.1 C.1.2.1 dX6_fits_111 (lv_at hl 5 rfl) ?_
                refine lv_isub C.1.1 C.1.2.1 dX6_fits_113 ?_
                obtain ⟨q20, hD⟩ := g_ck hD
                obtain ⟨M21, eM21, hD⟩ := g_let hD
                refine mr_iast C hw (by decide) tf_94 q20 dX6_fits_114 (fun H locs hw => ?_)
                replace hw : mw_W G ad NF TF FF M21 L16 H locs := by rw [eM21]; exact hw
                exact hb115 v5 v6 M21 L16 _ _ ls hD hw (lv_sub hl [0, 1, 2, 3, 4, 5, 6] rfl)
              · replace hD := g_neg c18 hD
                refine lv_iconst (v := 1) C.1.1 C.1.2.1 dX6_fits_101 (by decide) ?_
                exact mr_iret C hr hlocks hw (by decide +kernel) (Option.some.inj hD) dX6_fits_102
    have hb8 : ∀ (M : mwM) (L : mwL) (H : Heap) (locs : List Loc) (ls : Array Slot), fX6_fits_b8 fu (DX6_fits fu dp) a1 a2 a3 a4 M L = some (r0, M0, L0) → mw_W G ad NF TF FF M L H locs → lv_has ls 7 [(0, .ref (ad 61)), (1, .int a1), (2, .int a2), (3, .int a3), (4, .int a4)] → W p l e ({ frames := 1 + (dp + 1), cells := 0, slots := 0, locals := 21 + 26 * (dp + 1) }) s m [.ref (ad 61), .int a1, .int a2, .int a3, .int a4].toArray below meth c H locs 0 0 (MQ below (mw_Qi G ad NF TF FF (mw_eqI r0 M0 L0)) [.ref (ad 61), .int a1, .int a2, .int a3, .int a4].toArray s 0 0 (mw_fr G)) (F0 m 8 ls []) := by
      intro M L H locs ls hD hw hl
      unfold fX6_fits_b8 at hD
      refine lv_iload_n C.1.1 C.1.2.1 dX6_fits_8 rfl (lv_at hl 1 rfl) ?_
      refine lv_aload_n C.1.1 C.1.2.1 dX6_fits_9 rfl (lv_at hl 0 rfl) ?_
      refine mr_getI C hw kc_6 13 (by decide) tf_61 wd_250 dX6_fits_10 (by decide) rfl ?_
      refine lv_icmp_lt (tgt := 18) C.1.1 C.1.2.1 dX6_fits_13 (by decide) (fun c1 => ?_) (fun c1 => ?_)
      · replace hD := g_pos c1 hD
        refine lv_aload_n C.1.1 C.1.2.1 dX6_fits_18 rfl (lv_at hl 0 rfl) ?_
        refine lv_aload_n C.1.1 C.1.2.1 dX6_fits_19 rfl (lv_at hl 0 rfl) ?_
        refine mr_getR C hw kc_6 5 (by decide) tf_61 ff_61_5 wd_237 dX6_fits_20 (by decide) rfl ?_
        refine lv_iload_n C.1.1 C.1.2.1 dX6_fits_23 rfl (lv_at hl 1 rfl) ?_
        obtain ⟨q2, hD⟩ := g_ck hD
        refine mr_iald C hw (by decide) tf_92 q2 dX6_fits_24 ?_
        obtain ⟨r5, M3, L4, h1, hD⟩ := g_b3 hD
        refine md_cvI (As := [.int (M 92 a1.toNatClampNeg)]) (rest := []) C hw (tX6_octetsOf l G ad fu (M 92 a1.toNatClampNeg) M L h1) kc_6 (by decide) tf_61 wd_1125 cwX6_octetsOf ⟨by dsimp only; omega, by dsimp only; omega⟩ rfl hl.1 (Nat.le_of_ble_eq_true rfl) dX6_fits_25 rfl rfl ⟨Nat.zero_le _, Nat.zero_le _⟩ rfl (fun H locs hw => ?_)
        refine lv_istore (lv' := [(5, .int r5), (0, .ref (ad 61)), (1, .int a1), (2, .int a2), (3, .int a3), (4, .int a4)]) C.1.1 C.1.2.1 dX6_fits_28 hl (by decide) rfl (fun ls hl => ?_)
        refine lv_iconst (v := 0) C.1.1 C.1.2.1 dX6_fits_30 (by decide) ?_
        refine lv_istore (lv' := [(6, .int 0), (5, .int r5), (0, .ref (ad 61)), (1, .int a1), (2, .int a2), (3, .int a3), (4, .int a4)]) C.1.1 C.1.2.1 dX6_fits_31 hl (by decide) rfl (fun ls hl => ?_)
        exact hh33 fu r5 0 M3 L4 _ _ ls hD hw (lv_sub hl [2, 3, 4, 5, 6, 1, 0] rfl)
      · replace hD := g_neg c1 hD
        refine lv_iconst (v := 1) C.1.1 C.1.2.1 dX6_fits_16 (by decide) ?_
        exact mr_iret C hr hlocks hw (by decide +kernel) (Option.some.inj hD) dX6_fits_17
    unfold BX6_fits at hD
    refine lv_iload_n C.1.1 C.1.2.1 dX6_fits_0 rfl (lv_at hl 1 rfl) ?_
    refine lv_if_ne (tgt := 8) C.1.1 C.1.2.1 dX6_fits_1 (by decide) (fun c23 => ?_) (fun c23 => ?_)
    · replace hD := g_neg c23 hD
      exact hb8 M L _ _ ls hD hw (lv_sub hl [0, 1, 2, 3, 4] rfl)
    · replace hD := g_pos c23 hD
      refine lv_aload_n C.1.1 C.1.2.1 dX6_fits_4 rfl (lv_at hl 0 rfl) ?_
      obtain ⟨M24, L25, h1, hD⟩ := g_b2 hD
      refine md_cvV (As := []) (rest := []) C hw (tX6_emptyFrames l G ad fu M L h1) kc_6 (by decide) tf_61 wd_1168 cwX6_emptyFrames ⟨by dsimp only; omega, by dsimp only; omega⟩ rfl hl.1 (Nat.le_of_ble_eq_true rfl) dX6_fits_5 rfl rfl ⟨Nat.zero_le _, Nat.zero_le _⟩ rfl (fun H locs hw => ?_)
      exact hb8 M24 L25 _ _ ls hD hw (lv_sub hl [0, 1, 2, 3, 4] rfl)
  
theorem dX6_packBest_0 : decode cX6_packBest 0 = .ok (.iconst 1, 1) := by decide +kernel
theorem dX6_packBest_1 : decode cX6_packBest 1 = .ok (.istore_n 2, 1) := by decide +kernel
theorem dX6_packBest_2 : decode cX6_packBest 2 = .ok (.iload_n 2, 1) := by decide +kernel
theorem dX6_packBest_3 : decode cX6_packBest 3 = .ok (.aload_n 0, 1) := by decide +kernel
theorem dX6_packBest_4 : decode cX6_packBest 4 = .ok (.getfield 97, 3) := by decide +kernel
theorem dX6_packBest_7 : decode cX6_packBest 7 = .ok (.if_icmp .ge 22, 3) := by decide +kernel
theorem dX6_packBest_10 : decode cX6_packBest 10 = .ok (.aload_n 0, 1) := by decide +kernel
theorem dX6_packBest_11 : decode cX6_packBest 11 = .ok (.iconst 0, 1) := by decide +kernel
theorem dX6_packBest_12 : decode cX6_packBest 12 = .ok (.iconst 0, 1) := by decide +kernel
theorem dX6_packBest_13 : decode cX6_packBest 13 = .ok (.iload_n 2, 1) := by decide +kernel
theorem dX6_packBest_14 : decode cX6_packBest 14 = .ok (.iload_n 1, 1) := by decide +kernel
theorem dX6_packBest_15 : decode cX6_packBest 15 = .ok (.invokevirtual 109, 3) := by decide +kernel
theorem dX6_packBest_18 : decode cX6_packBest 18 = .ok (.ifCond .eq 5, 3) := by decide +kernel
theorem dX6_packBest_21 : decode cX6_packBest 21 = .ok (.iload_n 2, 1) := by decide +kernel
theorem dX6_packBest_22 : decode cX6_packBest 22 = .ok (.ireturn, 1) := by decide +kernel
theorem dX6_packBest_23 : decode cX6_packBest 23 = .ok (.iinc 2 1, 3) := by decide +kernel
theorem dX6_packBest_26 : decode cX6_packBest 26 = .ok (.goto (-24), 3) := by decide +kernel
theorem dX6_packBest_29 : decode cX6_packBest 29 = .ok (.aload_n 0, 1) := by decide +kernel
theorem dX6_packBest_30 : decode cX6_packBest 30 = .ok (.iconst 0, 1) := by decide +kernel
theorem dX6_packBest_31 : decode cX6_packBest 31 = .ok (.iconst 0, 1) := by decide +kernel
theorem dX6_packBest_32 : decode cX6_packBest 32 = .ok (.aload_n 0, 1) := by decide +kernel
theorem dX6_packBest_33 : decode cX6_packBest 33 = .ok (.getfield 97, 3) := by decide +kernel
theorem dX6_packBest_36 : decode cX6_packBest 36 = .ok (.iload_n 1, 1) := by decide +kernel
theorem dX6_packBest_37 : decode cX6_packBest 37 = .ok (.invokevirtual 109, 3) := by decide +kernel
theorem dX6_packBest_40 : decode cX6_packBest 40 = .ok (.pop, 1) := by decide +kernel
theorem dX6_packBest_41 : decode cX6_packBest 41 = .ok (.aload_n 0, 1) := by decide +kernel
theorem dX6_packBest_42 : decode cX6_packBest 42 = .ok (.getfield 97, 3) := by decide +kernel
theorem dX6_packBest_45 : decode cX6_packBest 45 = .ok (.ireturn, 1) := by decide +kernel
theorem cwX6_packBest : mw_cwV yX6_packBest cX6_packBest 3 ((some .int)) 1 := ⟨⟨wd_7, wd_1163, by decide +kernel⟩, wd_1162, sl_51⟩
set_option maxHeartbeats 4000000 in
set_option maxRecDepth 100000 in
theorem tX6_packBest (l : Launch) (G : mwG) (ad : Nat → Nat) (fu : Nat) (a1 : Int32) (M : mwM) (L : mwL) {r0 : Int32} {M0 : mwM} {L0 : mwL} (hD : DX6_packBest fu a1 M L = some (r0, M0, L0)) : Met l yX6_packBest (Cond.code yX6_packBest cX6_packBest 3 ((some .int)) :: GT) ({ frames := 44, cells := 0, slots := 0, locals := 1139 }) (mw_Pre G ad NF TF FF M L [.ref (ad 61), .int a1]) (mw_Qi G ad NF TF FF (mw_eqI r0 M0 L0)) 0 0 (mw_fr G) := by
  refine mw_enter (by decide) (Nat.le_of_ble_eq_true rfl) ?_
  intro p e s m below meth c ls C hr hlocks hnm hw hl
  have hl : lv_has ls 3 [(0, .ref (ad 61)), (1, .int a1)] := hl
  have hh2 : ∀ (f : Nat) (v2 : Int32) (M : mwM) (L : mwL) (H : Heap) (locs : List Loc) (ls : Array Slot), fX6_packBest_h2 fu a1 f (v2, M, L) = some (r0, M0, L0) → mw_W G ad NF TF FF M L H locs → lv_has ls 3 [(0, .ref (ad 61)), (1, .int a1), (2, .int v2)] → W p l e ({ frames := 44, cells := 0, slots := 0, locals := 1139 }) s m [.ref (ad 61), .int a1].toArray below meth c H locs 0 0 (MQ below (mw_Qi G ad NF TF FF (mw_eqI r0 M0 L0)) [.ref (ad 61), .int a1].toArray s 0 0 (mw_fr G)) (F0 m 2 ls []) := by
    intro f
    induction f with
    | zero => intro v2 M L H locs ls hD; cases hD
    | succ f2 ih2 =>
      intro v2 M L H locs ls hD hw hl
      replace hD : fX6_packBest_i2 fu a1 (fX6_packBest_h2 fu a1 f2) v2 M L = some (r0, M0, L0) := hD
      unfold fX6_packBest_i2 at hD
      refine lv_iload_n C.1.1 C.1.2.1 dX6_packBest_2 rfl (lv_at hl 2 rfl) ?_
      refine lv_aload_n C.1.1 C.1.2.1 dX6_packBest_3 rfl (lv_at hl 0 rfl) ?_
      refine mr_getI C hw kc_6 13 (by decide) tf_61 wd_250 dX6_packBest_4 (by decide) rfl ?_
      refine lv_icmp_ge (tgt := 29) C.1.1 C.1.2.1 dX6_packBest_7 (by decide) (fun c1 => ?_) (fun c1 => ?_)
      · replace hD := g_pos c1 hD
        refine lv_aload_n C.1.1 C.1.2.1 dX6_packBest_29 rfl (lv_at hl 0 rfl) ?_
        refine lv_iconst (v := 0) C.1.1 C.1.2.1 dX6_packBest_30 (by decide) ?_
        refine lv_iconst (v := 0) C.1.1 C.1.2.1 dX6_packBest_31 (by decide) ?_
        refine lv_aload_n C.1.1 C.1.2.1 dX6_packBest_32 rfl (lv_at hl 0 rfl) ?_
        refine mr_getI C hw kc_6 13 (by decide) tf_61 wd_250 dX6_packBest_33 (by decide) rfl ?_
        refine lv_iload_n C.1.1 C.1.2.1 dX6_packBest_36 rfl (lv_at hl 1 rfl) ?_
        obtain ⟨r4, M2, L3, h1, hD⟩ := g_b3 hD
        refine md_cvI (As := [.int 0, .int 0, .int (M 61 13), .int a1]) (rest := []) C hw (tX6_fits l G ad fu 42 0 0 (M 61 13) a1 M L h1) kc_6 (by decide) tf_61 wd_1164 cwX6_fits ⟨Nat.le_of_ble_eq_true rfl, Nat.le_of_ble_eq_true rfl⟩ rfl hl.1 (Nat.le_of_ble_eq_true rfl) dX6_packBest_37 rfl rfl ⟨Nat.zero_le _, Nat.zero_le _⟩ rfl (fun H locs hw => ?_)
        refine lv_pop C.1.1 C.1.2.1 dX6_packBest_40 rfl ?_
        refine lv_aload_n C.1.1 C.1.2.1 dX6_packBest_41 rfl (lv_at hl 0 rfl) ?_
        refine mr_getI C hw kc_6 13 (by decide) tf_61 wd_250 dX6_packBest_42 (by decide) rfl ?_
        exact mr_iret C hr hlocks hw rfl (Option.some.inj hD) dX6_packBest_45
      · replace hD := g_neg c1 hD
        refine lv_aload_n C.1.1 C.1.2.1 dX6_packBest_10 rfl (lv_at hl 0 rfl) ?_
        refine lv_iconst (v := 0) C.1.1 C.1.2.1 dX6_packBest_11 (by decide) ?_
        refine lv_iconst (v := 0) C.1.1 C.1.2.1 dX6_packBest_12 (by decide) ?_
        refine lv_iload_n C.1.1 C.1.2.1 dX6_packBest_13 rfl (lv_at hl 2 rfl) ?_
        refine lv_iload_n C.1.1 C.1.2.1 dX6_packBest_14 rfl (lv_at hl 1 rfl) ?_
        obtain ⟨r7, M5, L6, h1, hD⟩ := g_b3 hD
        refine md_cvI (As := [.int 0, .int 0, .int v2, .int a1]) (rest := []) C hw (tX6_fits l G ad fu 42 0 0 v2 a1 M L h1) kc_6 (by decide) tf_61 wd_1164 cwX6_fits ⟨Nat.le_of_ble_eq_true rfl, Nat.le_of_ble_eq_true rfl⟩ rfl hl.1 (Nat.le_of_ble_eq_true rfl) dX6_packBest_15 rfl rfl ⟨Nat.zero_le _, Nat.zero_le _⟩ rfl (fun H locs hw => ?_)
        refine lv_if_eq (tgt := 23) C.1.1 C.1.2.1 dX6_packBest_18 (by decide) (fun c8 => ?_) (fun c8 => ?_)
        · replace hD := g_pos c8 hD
          obtain ⟨x9, ex9, hD⟩ := g_let hD
          refine lv_iinc (v := x9) (lv' := [(2, .int x9), (0, .ref (ad 61)), (1, .int a1)]) C.1.1 C.1.2.1 dX6_packBest_23 hl (k := 2) rfl (by rw [ex9]; rfl) (by decide) rfl (fun ls hl => ?_)
          refine lv_goto (tgt := 2) C.1.1 C.1.2.1 dX6_packBest_26 (by decide) ?_
          exact ih2 x9 M5 L6 _ _ ls hD hw (lv_sub hl [1, 2, 0] rfl)
        · replace hD := g_neg c8 hD
          refine lv_iload_n C.1.1 C.1.2.1 dX6_packBest_21 rfl (lv_at hl 2 rfl) ?_
          exact mr_iret C hr hlocks hw rfl (Option.some.inj hD) dX6_packBest_22
  unfold DX6_packBest at hD
  refine lv_iconst (v := 1) C.1.1 C.1.2.1 dX6_packBest_0 (by decide) ?_
  refine lv_istore_n (lv' := [(2, .int 1), (0, .ref (ad 61)), (1, .int a1)]) C.1.1 C.1.2.1 dX6_packBest_1 rfl hl (by decide) rfl (fun ls hl => ?_)
  exact hh2 fu 1 M L _ _ ls hD hw (lv_sub hl [1, 2, 0] rfl)

theorem dX6_packFirstFit_0 : decode cX6_packFirstFit 0 = .ok (.iconst 0, 1) := by decide +kernel
theorem dX6_packFirstFit_1 : decode cX6_packFirstFit 1 = .ok (.istore_n 2, 1) := by decide +kernel
theorem dX6_packFirstFit_2 : decode cX6_packFirstFit 2 = .ok (.aload_n 0, 1) := by decide +kernel
theorem dX6_packFirstFit_3 : decode cX6_packFirstFit 3 = .ok (.invokevirtual 113, 3) := by decide +kernel
theorem dX6_packFirstFit_6 : decode cX6_packFirstFit 6 = .ok (.iconst 0, 1) := by decide +kernel
theorem dX6_packFirstFit_7 : decode cX6_packFirstFit 7 = .ok (.istore_n 3, 1) := by decide +kernel
theorem dX6_packFirstFit_8 : decode cX6_packFirstFit 8 = .ok (.iload_n 3, 1) := by decide +kernel
theorem dX6_packFirstFit_9 : decode cX6_packFirstFit 9 = .ok (.aload_n 0, 1) := by decide +kernel
theorem dX6_packFirstFit_10 : decode cX6_packFirstFit 10 = .ok (.getfield 97, 3) := by decide +kernel
theorem dX6_packFirstFit_13 : decode cX6_packFirstFit 13 = .ok (.if_icmp .ge 79, 3) := by decide +kernel
theorem dX6_packFirstFit_16 : decode cX6_packFirstFit 16 = .ok (.aload_n 0, 1) := by decide +kernel
theorem dX6_packFirstFit_17 : decode cX6_packFirstFit 17 = .ok (.aload_n 0, 1) := by decide +kernel
theorem dX6_packFirstFit_18 : decode cX6_packFirstFit 18 = .ok (.getfield 29, 3) := by decide +kernel
theorem dX6_packFirstFit_21 : decode cX6_packFirstFit 21 = .ok (.iload_n 3, 1) := by decide +kernel
theorem dX6_packFirstFit_22 : decode cX6_packFirstFit 22 = .ok (.iaload, 1) := by decide +kernel
theorem dX6_packFirstFit_23 : decode cX6_packFirstFit 23 = .ok (.invokevirtual 62, 3) := by decide +kernel
theorem dX6_packFirstFit_26 : decode cX6_packFirstFit 26 = .ok (.istore 4, 2) := by decide +kernel
theorem dX6_packFirstFit_28 : decode cX6_packFirstFit 28 = .ok (.iconst 0, 1) := by decide +kernel
theorem dX6_packFirstFit_29 : decode cX6_packFirstFit 29 = .ok (.istore 5, 2) := by decide +kernel
theorem dX6_packFirstFit_31 : decode cX6_packFirstFit 31 = .ok (.iload 5, 2) := by decide +kernel
theorem dX6_packFirstFit_33 : decode cX6_packFirstFit 33 = .ok (.iload_n 2, 1) := by decide +kernel
theorem dX6_packFirstFit_34 : decode cX6_packFirstFit 34 = .ok (.if_icmp .ge 23, 3) := by decide +kernel
theorem dX6_packFirstFit_37 : decode cX6_packFirstFit 37 = .ok (.aload_n 0, 1) := by decide +kernel
theorem dX6_packFirstFit_38 : decode cX6_packFirstFit 38 = .ok (.getfield 35, 3) := by decide +kernel
theorem dX6_packFirstFit_41 : decode cX6_packFirstFit 41 = .ok (.iload 5, 2) := by decide +kernel
theorem dX6_packFirstFit_43 : decode cX6_packFirstFit 43 = .ok (.iaload, 1) := by decide +kernel
theorem dX6_packFirstFit_44 : decode cX6_packFirstFit 44 = .ok (.iload 4, 2) := by decide +kernel
theorem dX6_packFirstFit_46 : decode cX6_packFirstFit 46 = .ok (.iadd, 1) := by decide +kernel
theorem dX6_packFirstFit_47 : decode cX6_packFirstFit 47 = .ok (.iload_n 1, 1) := by decide +kernel
theorem dX6_packFirstFit_48 : decode cX6_packFirstFit 48 = .ok (.if_icmp .le 9, 3) := by decide +kernel
theorem dX6_packFirstFit_51 : decode cX6_packFirstFit 51 = .ok (.iinc 5 1, 3) := by decide +kernel
theorem dX6_packFirstFit_54 : decode cX6_packFirstFit 54 = .ok (.goto (-23), 3) := by decide +kernel
theorem dX6_packFirstFit_57 : decode cX6_packFirstFit 57 = .ok (.aload_n 0, 1) := by decide +kernel
theorem dX6_packFirstFit_58 : decode cX6_packFirstFit 58 = .ok (.getfield 35, 3) := by decide +kernel
theorem dX6_packFirstFit_61 : decode cX6_packFirstFit 61 = .ok (.iload 5, 2) := by decide +kernel
theorem dX6_packFirstFit_63 : decode cX6_packFirstFit 63 = .ok (.dup2, 1) := by decide +kernel
theorem dX6_packFirstFit_64 : decode cX6_packFirstFit 64 = .ok (.iaload, 1) := by decide +kernel
theorem dX6_packFirstFit_65 : decode cX6_packFirstFit 65 = .ok (.iload 4, 2) := by decide +kernel
theorem dX6_packFirstFit_67 : decode cX6_packFirstFit 67 = .ok (.iadd, 1) := by decide +kernel
theorem dX6_packFirstFit_68 : decode cX6_packFirstFit 68 = .ok (.iastore, 1) := by decide +kernel
theorem dX6_packFirstFit_69 : decode cX6_packFirstFit 69 = .ok (.aload_n 0, 1) := by decide +kernel
theorem dX6_packFirstFit_70 : decode cX6_packFirstFit 70 = .ok (.getfield 32, 3) := by decide +kernel
theorem dX6_packFirstFit_73 : decode cX6_packFirstFit 73 = .ok (.iload_n 3, 1) := by decide +kernel
theorem dX6_packFirstFit_74 : decode cX6_packFirstFit 74 = .ok (.iload 5, 2) := by decide +kernel
theorem dX6_packFirstFit_76 : decode cX6_packFirstFit 76 = .ok (.iastore, 1) := by decide +kernel
theorem dX6_packFirstFit_77 : decode cX6_packFirstFit 77 = .ok (.iload_n 2, 1) := by decide +kernel
theorem dX6_packFirstFit_78 : decode cX6_packFirstFit 78 = .ok (.iload 5, 2) := by decide +kernel
theorem dX6_packFirstFit_80 : decode cX6_packFirstFit 80 = .ok (.iconst 1, 1) := by decide +kernel
theorem dX6_packFirstFit_81 : decode cX6_packFirstFit 81 = .ok (.iadd, 1) := by decide +kernel
theorem dX6_packFirstFit_82 : decode cX6_packFirstFit 82 = .ok (.invokestatic 116, 3) := by decide +kernel
theorem dX6_packFirstFit_85 : decode cX6_packFirstFit 85 = .ok (.istore_n 2, 1) := by decide +kernel
theorem dX6_packFirstFit_86 : decode cX6_packFirstFit 86 = .ok (.iinc 3 1, 3) := by decide +kernel
theorem dX6_packFirstFit_89 : decode cX6_packFirstFit 89 = .ok (.goto (-81), 3) := by decide +kernel
theorem dX6_packFirstFit_92 : decode cX6_packFirstFit 92 = .ok (.iload_n 2, 1) := by decide +kernel
theorem dX6_packFirstFit_93 : decode cX6_packFirstFit 93 = .ok (.ireturn, 1) := by decide +kernel
theorem cwX6_packFirstFit : mw_cwV yX6_packFirstFit cX6_packFirstFit 6 ((some .int)) 1 := ⟨⟨wd_7, wd_1178, by decide +kernel⟩, wd_1177, sl_54⟩
set_option maxHeartbeats 4000000 in
set_option maxRecDepth 100000 in
theorem tX6_packFirstFit (l : Launch) (G : mwG) (ad : Nat → Nat) (fu : Nat) (a1 : Int32) (M : mwM) (L : mwL) {r0 : Int32} {M0 : mwM} {L0 : mwL} (hD : DX6_packFirstFit fu a1 M L = some (r0, M0, L0)) : Met l yX6_packFirstFit (Cond.code yX6_packFirstFit cX6_packFirstFit 6 ((some .int)) :: GT) ({ frames := 1, cells := 0, slots := 0, locals := 21 }) (mw_Pre G ad NF TF FF M L [.ref (ad 61), .int a1]) (mw_Qi G ad NF TF FF (mw_eqI r0 M0 L0)) 0 0 (mw_fr G) := by
  refine mw_enter (by decide) (Nat.le_of_ble_eq_true rfl) ?_
  intro p e s m below meth c ls C hr hlocks hnm hw hl
  have hl : lv_has ls 6 [(0, .ref (ad 61)), (1, .int a1)] := hl
  have hh8 : ∀ (f : Nat) (v2 : Int32) (v3 : Int32) (M : mwM) (L : mwL) (H : Heap) (locs : List Loc) (ls : Array Slot), fX6_packFirstFit_h8 fu a1 f (v2, v3, M, L) = some (r0, M0, L0) → mw_W G ad NF TF FF M L H locs → lv_has ls 6 [(0, .ref (ad 61)), (1, .int a1), (2, .int v2), (3, .int v3)] → W p l e ({ frames := 1, cells := 0, slots := 0, locals := 21 }) s m [.ref (ad 61), .int a1].toArray below meth c H locs 0 0 (MQ below (mw_Qi G ad NF TF FF (mw_eqI r0 M0 L0)) [.ref (ad 61), .int a1].toArray s 0 0 (mw_fr G)) (F0 m 8 ls []) := by
    intro f
    induction f with
    | zero => intro v2 v3 M L H locs ls hD; cases hD
    | succ f8 ih8 =>
      intro v2 v3 M L H locs ls hD hw hl
      replace hD : fX6_packFirstFit_i8 fu a1 (fX6_packFirstFit_h8 fu a1 f8) v2 v3 M L = some (r0, M0, L0) := hD
      have hb57 : ∀ (v2 : Int32) (v3 : Int32) (v4 : Int32) (v5 : Int32) (M : mwM) (L : mwL) (H : Heap) (locs : List Loc) (ls : Array Slot), fX6_packFirstFit_b57 fu a1 (fX6_packFirstFit_h8 fu a1 f8) v2 v3 v4 v5 M L = some (r0, M0, L0) → mw_W G ad NF TF FF M L H locs → lv_has ls 6 [(0, .ref (ad 61)), (1, .int a1), (2, .int v2), (3, .int v3), (4, .int v4), (5, .int v5)] → W p l e ({ frames := 1, cells := 0, slots := 0, locals := 21 }) s m [.ref (ad 61), .int a1].toArray below meth c H locs 0 0 (MQ below (mw_Qi G ad NF TF FF (mw_eqI r0 M0 L0)) [.ref (ad 61), .int a1].toArray s 0 0 (mw_fr G)) (F0 m 57 ls []) := by
        intro v2 v3 v4 v5 M L H locs ls hD hw hl
        unfold fX6_packFirstFit_b57 at hD
        refine lv_aload_n C.1.1 C.1.2.1 dX6_packFirstFit_57 rfl (lv_at hl 0 rfl) ?_
        refine mr_getR C hw kc_6 7 (by decide) tf_61 ff_61_7 wd_239 dX6_packFirstFit_58 (by decide) rfl ?_
        refine lv_iload C.1.1 C.1.2.1 dX6_packFirstFit_61 (lv_at hl 5 rfl) ?_
        refine lv_dup2_11 C.1.1 C.1.2.1 dX6_packFirstFit_63 rfl rfl ?_
        obtain ⟨q10, hD⟩ := g_ck hD
        refine mr_iald C hw (by decide) tf_94 q10 dX6_packFirstFit_64 ?_
        refine lv_iload C.1.1 C.1.2.1 dX6_packFirstFit_65 (lv_at hl 4 rfl) ?_
        refine lv_iadd C.1.1 C.1.2.1 dX6_packFirstFit_67 ?_
        obtain ⟨q11, hD⟩ := g_ck hD
        obtain ⟨M12, eM12, hD⟩ := g_let hD
        refine mr_iast C hw (by decide) tf_94 q11 dX6_packFirstFit_68 (fun H locs hw => ?_)
        replace hw : mw_W G ad NF TF FF M12 L H locs := by rw [eM12]; exact hw
        refine lv_aload_n C.1.1 C.1.2.1 dX6_packFirstFit_69 rfl (lv_at hl 0 rfl) ?_
        refine mr_getR C hw kc_6 6 (by decide) tf_61 ff_61_6 wd_238 dX6_packFirstFit_70 (by decide) rfl ?_
        refine lv_iload_n C.1.1 C.1.2.1 dX6_packFirstFit_73 rfl (lv_at hl 3 rfl) ?_
        refine lv_iload C.1.1 C.1.2.1 dX6_packFirstFit_74 (lv_at hl 5 rfl) ?_
        obtain ⟨q13, hD⟩ := g_ck hD
        obtain ⟨M14, eM14, hD⟩ := g_let hD
        refine mr_iast C hw (by decide) tf_93 q13 dX6_packFirstFit_76 (fun H locs hw => ?_)
        replace hw : mw_W G ad NF TF FF M14 L H locs := by rw [eM14]; exact hw
        refine lv_iload_n C.1.1 C.1.2.1 dX6_packFirstFit_77 rfl (lv_at hl 2 rfl) ?_
        refine lv_iload C.1.1 C.1.2.1 dX6_packFirstFit_78 (lv_at hl 5 rfl) ?_
        refine lv_iconst (v := 1) C.1.1 C.1.2.1 dX6_packFirstFit_80 (by decide) ?_
        refine lv_iadd C.1.1 C.1.2.1 dX6_packFirstFit_81 ?_
        refine va_mmax C.1.1 C.1.2.1 (C.1.2.2.1.trans hl.1.symm) C.1.2.2.2.1 (C.1.2.2.2.2 _ wd_1172) (C.1.2.2.2.2 _ wd_1173) (C.1.2.2.2.2 _ wd_30) (C.1.2.2.2.2 _ wd_1174) (Nat.le_of_ble_eq_true rfl) (Nat.le_of_ble_eq_true rfl) (Nat.zero_le _) (Nat.zero_le _) dX6_packFirstFit_82 ?_
        obtain ⟨x15, ex15, hD⟩ := g_let hD
        refine W.eq (g2 := F0 m 85 ls (.int x15 :: [])) (by rw [ex15]) ?_
        refine lv_istore_n (lv' := [(2, .int x15), (0, .ref (ad 61)), (1, .int a1), (3, .int v3), (4, .int v4), (5, .int v5)]) C.1.1 C.1.2.1 dX6_packFirstFit_85 rfl hl (by decide) rfl (fun ls hl => ?_)
        obtain ⟨x16, ex16, hD⟩ := g_let hD
        refine lv_iinc (v := x16) (lv' := [(3, .int x16), (2, .int x15), (0, .ref (ad 61)), (1, .int a1), (4, .int v4), (5, .int v5)]) C.1.1 C.1.2.1 dX6_packFirstFit_86 hl (k := 3) rfl (by rw [ex16]; rfl) (by decide) rfl (fun ls hl => ?_)
        refine lv_goto (tgt := 8) C.1.1 C.1.2.1 dX6_packFirstFit_89 (by decide) ?_
        exact ih8 x15 x16 M14 L _ _ ls hD hw (lv_sub hl [2, 3, 1, 0] rfl)
      have hh31 : ∀ (f : Nat) (v2 : Int32) (v3 : Int32) (v4 : Int32) (v5 : Int32) (M : mwM) (L : mwL) (H : Heap) (locs : List Loc) (ls : Array Slot), fX6_packFirstFit_h31 fu a1 (fX6_packFirstFit_h8 fu a1 f8) f (v2, v3, v4, v5, M, L) = some (r0, M0, L0) → mw_W G ad NF TF FF M L H locs → lv_has ls 6 [(0, .ref (ad 61)), (1, .int a1), (2, .int v2), (3, .int v3), (4, .int v4), (5, .int v5)] → W p l e ({ frames := 1, cells := 0, slots := 0, locals := 21 }) s m [.ref (ad 61), .int a1].toArray below meth c H locs 0 0 (MQ below (mw_Qi G ad NF TF FF (mw_eqI r0 M0 L0)) [.ref (ad 61), .int a1].toArray s 0 0 (mw_fr G)) (F0 m 31 ls []) := by
        intro f
        induction f with
        | zero => intro v2 v3 v4 v5 M L H locs ls hD; cases hD
        | succ f31 ih31 =>
          intro v2 v3 v4 v5 M L H locs ls hD hw hl
          replace hD : fX6_packFirstFit_i31 fu a1 (fX6_packFirstFit_h8 fu a1 f8) (fX6_packFirstFit_h31 fu a1 (fX6_packFirstFit_h8 fu a1 f8) f31) v2 v3 v4 v5 M L = some (r0, M0, L0) := hD
          unfold fX6_packFirstFit_i31 at hD
          refine lv_iload C.1.1 C.1.2.1 dX6_packFirstFit_31 (lv_at hl 5 rfl) ?_
          refine lv_iload_n C.1.1 C.1.2.1 dX6_packFirstFit_33 rfl (lv_at hl 2 rfl) ?_
          refine lv_icmp_ge (tgt := 57) C.1.1 C.1.2.1 dX6_packFirstFit_34 (by decide) (fun c6 => ?_) (fun c6 => ?_)
          · replace hD := g_pos c6 hD
            exact hb57 v2 v3 v4 v5 M L _ _ ls hD hw (lv_sub hl [0, 1, 2, 3, 4, 5] rfl)
          · replace hD := g_neg c6 hD
            refine lv_aload_n C.1.1 C.1.2.1 dX6_packFirstFit_37 rfl (lv_at hl 0 rfl) ?_
            refine mr_getR C hw kc_6 7 (by decide) tf_61 ff_61_7 wd_239 dX6_packFirstFit_38 (by decide) rfl ?_
            refine lv_iload C.1.1 C.1.2.1 dX6_packFirstFit_41 (lv_at hl 5 rfl) ?_
            obtain ⟨q7, hD⟩ := g_ck hD
            refine mr_iald C hw (by decide) tf_94 q7 dX6_packFirstFit_43 ?_
            refine lv_iload C.1.1 C.1.2.1 dX6_packFirstFit_44 (lv_at hl 4 rfl) ?_
            refine lv_iadd C.1.1 C.1.2.1 dX6_packFirstFit_46 ?_
            refine lv_iload_n C.1.1 C.1.2.1 dX6_packFirstFit_47 rfl (lv_at hl 1 rfl) ?_
            refine lv_icmp_le (tgt := 57) C.1.1 C.1.2.1 dX6_packFirstFit_48 (by decide) (fun c8 => ?_) (fun c8 => ?_)
            · replace hD := g_pos c8 hD
              exact hb57 v2 v3 v4 v5 M L _ _ ls hD hw (lv_sub hl [0, 1, 2, 3, 4, 5] rfl)
            · replace hD := g_neg c8 hD
              obtain ⟨x9, ex9, hD⟩ := g_let hD
              refine lv_iinc (v := x9) (lv' := [(5, .int x9), (0, .ref (ad 61)), (1, .int a1), (2, .int v2), (3, .int v3), (4, .int v4)]) C.1.1 C.1.2.1 dX6_packFirstFit_51 hl (k := 5) rfl (by rw [ex9]; rfl) (by decide) rfl (fun ls hl => ?_)
              refine lv_goto (tgt := 31) C.1.1 C.1.2.1 dX6_packFirstFit_54 (by decide) ?_
              exact ih31 v2 v3 v4 x9 M L _ _ ls hD hw (lv_sub hl [1, 2, 3, 4, 5, 0] rfl)
      unfold fX6_packFirstFit_i8 at hD
      refine lv_iload_n C.1.1 C.1.2.1 dX6_packFirstFit_8 rfl (lv_at hl 3 rfl) ?_
      refine lv_aload_n C.1.1 C.1.2.1 dX6_packFirstFit_9 rfl (lv_at hl 0 rfl) ?_
      refine mr_getI C hw kc_6 13 (by decide) tf_61 wd_250 dX6_packFirstFit_10 (by decide) rfl ?_
      refine lv_icmp_ge (tgt := 92) C.1.1 C.1.2.1 dX6_packFirstFit_13 (by decide) (fun c1 => ?_) (fun c1 => ?_)
      · replace hD := g_pos c1 hD
        refine lv_iload_n C.1.1 C.1.2.1 dX6_packFirstFit_92 rfl (lv_at hl 2 rfl) ?_
        exact mr_iret C hr hlocks hw rfl (Option.some.inj hD) dX6_packFirstFit_93
      · replace hD := g_neg c1 hD
        refine lv_aload_n C.1.1 C.1.2.1 dX6_packFirstFit_16 rfl (lv_at hl 0 rfl) ?_
        refine lv_aload_n C.1.1 C.1.2.1 dX6_packFirstFit_17 rfl (lv_at hl 0 rfl) ?_
        refine mr_getR C hw kc_6 5 (by decide) tf_61 ff_61_5 wd_237 dX6_packFirstFit_18 (by decide) rfl ?_
        refine lv_iload_n C.1.1 C.1.2.1 dX6_packFirstFit_21 rfl (lv_at hl 3 rfl) ?_
        obtain ⟨q2, hD⟩ := g_ck hD
        refine mr_iald C hw (by decide) tf_92 q2 dX6_packFirstFit_22 ?_
        obtain ⟨r5, M3, L4, h1, hD⟩ := g_b3 hD
        refine md_cvI (As := [.int (M 92 v3.toNatClampNeg)]) (rest := []) C hw (tX6_octetsOf l G ad fu (M 92 v3.toNatClampNeg) M L h1) kc_6 (by decide) tf_61 wd_1125 cwX6_octetsOf ⟨Nat.le_of_ble_eq_true rfl, Nat.le_of_ble_eq_true rfl⟩ rfl hl.1 (Nat.le_of_ble_eq_true rfl) dX6_packFirstFit_23 rfl rfl ⟨Nat.zero_le _, Nat.zero_le _⟩ rfl (fun H locs hw => ?_)
        refine lv_istore (lv' := [(4, .int r5), (0, .ref (ad 61)), (1, .int a1), (2, .int v2), (3, .int v3)]) C.1.1 C.1.2.1 dX6_packFirstFit_26 hl (by decide) rfl (fun ls hl => ?_)
        refine lv_iconst (v := 0) C.1.1 C.1.2.1 dX6_packFirstFit_28 (by decide) ?_
        refine lv_istore (lv' := [(5, .int 0), (4, .int r5), (0, .ref (ad 61)), (1, .int a1), (2, .int v2), (3, .int v3)]) C.1.1 C.1.2.1 dX6_packFirstFit_29 hl (by decide) rfl (fun ls hl => ?_)
        exact hh31 fu v2 v3 r5 0 M3 L4 _ _ ls hD hw (lv_sub hl [2, 3, 4, 5, 1, 0] rfl)
  unfold DX6_packFirstFit at hD
  refine lv_iconst (v := 0) C.1.1 C.1.2.1 dX6_packFirstFit_0 (by decide) ?_
  refine lv_istore_n (lv' := [(2, .int 0), (0, .ref (ad 61)), (1, .int a1)]) C.1.1 C.1.2.1 dX6_packFirstFit_1 rfl hl (by decide) rfl (fun ls hl => ?_)
  refine lv_aload_n C.1.1 C.1.2.1 dX6_packFirstFit_2 rfl (lv_at hl 1 rfl) ?_
  obtain ⟨M17, L18, h1, hD⟩ := g_b2 hD
  refine md_cvV (As := []) (rest := []) C hw (tX6_emptyFrames l G ad fu M L h1) kc_6 (by decide) tf_61 wd_1168 cwX6_emptyFrames ⟨Nat.le_of_ble_eq_true rfl, Nat.le_of_ble_eq_true rfl⟩ rfl hl.1 (Nat.le_of_ble_eq_true rfl) dX6_packFirstFit_3 rfl rfl ⟨Nat.zero_le _, Nat.zero_le _⟩ rfl (fun H locs hw => ?_)
  refine lv_iconst (v := 0) C.1.1 C.1.2.1 dX6_packFirstFit_6 (by decide) ?_
  refine lv_istore_n (lv' := [(3, .int 0), (2, .int 0), (0, .ref (ad 61)), (1, .int a1)]) C.1.1 C.1.2.1 dX6_packFirstFit_7 rfl hl (by decide) rfl (fun ls hl => ?_)
  exact hh8 fu 0 0 M17 L18 _ _ ls hD hw (lv_sub hl [2, 3, 1, 0] rfl)

theorem dX6_openFrame_0 : decode cX6_openFrame 0 = .ok (.aload_n 0, 1) := by decide +kernel
theorem dX6_openFrame_1 : decode cX6_openFrame 1 = .ok (.getfield 16, 3) := by decide +kernel
theorem dX6_openFrame_4 : decode cX6_openFrame 4 = .ok (.iconst 0, 1) := by decide +kernel
theorem dX6_openFrame_5 : decode cX6_openFrame 5 = .ok (.aaload, 1) := by decide +kernel
theorem dX6_openFrame_6 : decode cX6_openFrame 6 = .ok (.aload_n 0, 1) := by decide +kernel
theorem dX6_openFrame_7 : decode cX6_openFrame 7 = .ok (.getfield 48, 3) := by decide +kernel
theorem dX6_openFrame_10 : decode cX6_openFrame 10 = .ok (.aload_n 0, 1) := by decide +kernel
theorem dX6_openFrame_11 : decode cX6_openFrame 11 = .ok (.getfield 11, 3) := by decide +kernel
theorem dX6_openFrame_14 : decode cX6_openFrame 14 = .ok (.iconst 5, 1) := by decide +kernel
theorem dX6_openFrame_15 : decode cX6_openFrame 15 = .ok (.aaload, 1) := by decide +kernel
theorem dX6_openFrame_16 : decode cX6_openFrame 16 = .ok (.iload_n 1, 1) := by decide +kernel
theorem dX6_openFrame_17 : decode cX6_openFrame 17 = .ok (.iaload, 1) := by decide +kernel
theorem dX6_openFrame_18 : decode cX6_openFrame 18 = .ok (.iastore, 1) := by decide +kernel
theorem dX6_openFrame_19 : decode cX6_openFrame 19 = .ok (.aload_n 0, 1) := by decide +kernel
theorem dX6_openFrame_20 : decode cX6_openFrame 20 = .ok (.getfield 16, 3) := by decide +kernel
theorem dX6_openFrame_23 : decode cX6_openFrame 23 = .ok (.iconst 1, 1) := by decide +kernel
theorem dX6_openFrame_24 : decode cX6_openFrame 24 = .ok (.aaload, 1) := by decide +kernel
theorem dX6_openFrame_25 : decode cX6_openFrame 25 = .ok (.aload_n 0, 1) := by decide +kernel
theorem dX6_openFrame_26 : decode cX6_openFrame 26 = .ok (.getfield 48, 3) := by decide +kernel
theorem dX6_openFrame_29 : decode cX6_openFrame 29 = .ok (.aload_n 0, 1) := by decide +kernel
theorem dX6_openFrame_30 : decode cX6_openFrame 30 = .ok (.getfield 11, 3) := by decide +kernel
theorem dX6_openFrame_33 : decode cX6_openFrame 33 = .ok (.iconst 3, 1) := by decide +kernel
theorem dX6_openFrame_34 : decode cX6_openFrame 34 = .ok (.aaload, 1) := by decide +kernel
theorem dX6_openFrame_35 : decode cX6_openFrame 35 = .ok (.iload_n 1, 1) := by decide +kernel
theorem dX6_openFrame_36 : decode cX6_openFrame 36 = .ok (.iaload, 1) := by decide +kernel
theorem dX6_openFrame_37 : decode cX6_openFrame 37 = .ok (.iastore, 1) := by decide +kernel
theorem dX6_openFrame_38 : decode cX6_openFrame 38 = .ok (.aload_n 0, 1) := by decide +kernel
theorem dX6_openFrame_39 : decode cX6_openFrame 39 = .ok (.getfield 16, 3) := by decide +kernel
theorem dX6_openFrame_42 : decode cX6_openFrame 42 = .ok (.iconst 2, 1) := by decide +kernel
theorem dX6_openFrame_43 : decode cX6_openFrame 43 = .ok (.aaload, 1) := by decide +kernel
theorem dX6_openFrame_44 : decode cX6_openFrame 44 = .ok (.aload_n 0, 1) := by decide +kernel
theorem dX6_openFrame_45 : decode cX6_openFrame 45 = .ok (.getfield 48, 3) := by decide +kernel
theorem dX6_openFrame_48 : decode cX6_openFrame 48 = .ok (.aload_n 0, 1) := by decide +kernel
theorem dX6_openFrame_49 : decode cX6_openFrame 49 = .ok (.getfield 11, 3) := by decide +kernel
theorem dX6_openFrame_52 : decode cX6_openFrame 52 = .ok (.bipush 7, 2) := by decide +kernel
theorem dX6_openFrame_54 : decode cX6_openFrame 54 = .ok (.aaload, 1) := by decide +kernel
theorem dX6_openFrame_55 : decode cX6_openFrame 55 = .ok (.iload_n 1, 1) := by decide +kernel
theorem dX6_openFrame_56 : decode cX6_openFrame 56 = .ok (.iaload, 1) := by decide +kernel
theorem dX6_openFrame_57 : decode cX6_openFrame 57 = .ok (.iastore, 1) := by decide +kernel
theorem dX6_openFrame_58 : decode cX6_openFrame 58 = .ok (.aload_n 0, 1) := by decide +kernel
theorem dX6_openFrame_59 : decode cX6_openFrame 59 = .ok (.getfield 16, 3) := by decide +kernel
theorem dX6_openFrame_62 : decode cX6_openFrame 62 = .ok (.iconst 5, 1) := by decide +kernel
theorem dX6_openFrame_63 : decode cX6_openFrame 63 = .ok (.aaload, 1) := by decide +kernel
theorem dX6_openFrame_64 : decode cX6_openFrame 64 = .ok (.aload_n 0, 1) := by decide +kernel
theorem dX6_openFrame_65 : decode cX6_openFrame 65 = .ok (.getfield 48, 3) := by decide +kernel
theorem dX6_openFrame_68 : decode cX6_openFrame 68 = .ok (.aload_n 0, 1) := by decide +kernel
theorem dX6_openFrame_69 : decode cX6_openFrame 69 = .ok (.getfield 11, 3) := by decide +kernel
theorem dX6_openFrame_72 : decode cX6_openFrame 72 = .ok (.iconst 3, 1) := by decide +kernel
theorem dX6_openFrame_73 : decode cX6_openFrame 73 = .ok (.aaload, 1) := by decide +kernel
theorem dX6_openFrame_74 : decode cX6_openFrame 74 = .ok (.iload_n 1, 1) := by decide +kernel
theorem dX6_openFrame_75 : decode cX6_openFrame 75 = .ok (.iaload, 1) := by decide +kernel
theorem dX6_openFrame_76 : decode cX6_openFrame 76 = .ok (.iastore, 1) := by decide +kernel
theorem dX6_openFrame_77 : decode cX6_openFrame 77 = .ok (.aload_n 0, 1) := by decide +kernel
theorem dX6_openFrame_78 : decode cX6_openFrame 78 = .ok (.getfield 16, 3) := by decide +kernel
theorem dX6_openFrame_81 : decode cX6_openFrame 81 = .ok (.iconst 3, 1) := by decide +kernel
theorem dX6_openFrame_82 : decode cX6_openFrame 82 = .ok (.aaload, 1) := by decide +kernel
theorem dX6_openFrame_83 : decode cX6_openFrame 83 = .ok (.aload_n 0, 1) := by decide +kernel
theorem dX6_openFrame_84 : decode cX6_openFrame 84 = .ok (.getfield 48, 3) := by decide +kernel
theorem dX6_openFrame_87 : decode cX6_openFrame 87 = .ok (.iconst 0, 1) := by decide +kernel
theorem dX6_openFrame_88 : decode cX6_openFrame 88 = .ok (.iastore, 1) := by decide +kernel
theorem dX6_openFrame_89 : decode cX6_openFrame 89 = .ok (.iconst 0, 1) := by decide +kernel
theorem dX6_openFrame_90 : decode cX6_openFrame 90 = .ok (.istore_n 2, 1) := by decide +kernel
theorem dX6_openFrame_91 : decode cX6_openFrame 91 = .ok (.iload_n 2, 1) := by decide +kernel
theorem dX6_openFrame_92 : decode cX6_openFrame 92 = .ok (.bipush 6, 2) := by decide +kernel
theorem dX6_openFrame_94 : decode cX6_openFrame 94 = .ok (.if_icmp .ge 21, 3) := by decide +kernel
theorem dX6_openFrame_97 : decode cX6_openFrame 97 = .ok (.aload_n 0, 1) := by decide +kernel
theorem dX6_openFrame_98 : decode cX6_openFrame 98 = .ok (.getfield 26, 3) := by decide +kernel
theorem dX6_openFrame_101 : decode cX6_openFrame 101 = .ok (.iload_n 2, 1) := by decide +kernel
theorem dX6_openFrame_102 : decode cX6_openFrame 102 = .ok (.aaload, 1) := by decide +kernel
theorem dX6_openFrame_103 : decode cX6_openFrame 103 = .ok (.aload_n 0, 1) := by decide +kernel
theorem dX6_openFrame_104 : decode cX6_openFrame 104 = .ok (.getfield 48, 3) := by decide +kernel
theorem dX6_openFrame_107 : decode cX6_openFrame 107 = .ok (.iconst 0, 1) := by decide +kernel
theorem dX6_openFrame_108 : decode cX6_openFrame 108 = .ok (.iastore, 1) := by decide +kernel
theorem dX6_openFrame_109 : decode cX6_openFrame 109 = .ok (.iinc 2 1, 3) := by decide +kernel
theorem dX6_openFrame_112 : decode cX6_openFrame 112 = .ok (.goto (-21), 3) := by decide +kernel
theorem dX6_openFrame_115 : decode cX6_openFrame 115 = .ok (.aload_n 0, 1) := by decide +kernel
theorem dX6_openFrame_116 : decode cX6_openFrame 116 = .ok (.dup, 1) := by decide +kernel
theorem dX6_openFrame_117 : decode cX6_openFrame 117 = .ok (.getfield 48, 3) := by decide +kernel
theorem dX6_openFrame_120 : decode cX6_openFrame 120 = .ok (.iconst 1, 1) := by decide +kernel
theorem dX6_openFrame_121 : decode cX6_openFrame 121 = .ok (.iadd, 1) := by decide +kernel
theorem dX6_openFrame_122 : decode cX6_openFrame 122 = .ok (.putfield 48, 3) := by decide +kernel
theorem dX6_openFrame_125 : decode cX6_openFrame 125 = .ok (.return_, 1) := by decide +kernel
theorem cwX6_openFrame : mw_cwV yX6_openFrame cX6_openFrame 3 (none) 1 := ⟨⟨wd_7, wd_1186, by decide +kernel⟩, wd_1185, sl_56⟩
set_option maxHeartbeats 4000000 in
set_option maxRecDepth 100000 in
theorem tX6_openFrame (l : Launch) (G : mwG) (ad : Nat → Nat) (fu : Nat) (a1 : Int32) (M : mwM) (L : mwL) {M0 : mwM} {L0 : mwL} (hD : DX6_openFrame fu a1 M L = some (M0, L0)) : Met l yX6_openFrame (Cond.code yX6_openFrame cX6_openFrame 3 (none) :: GT) ({ frames := 0, cells := 0, slots := 0, locals := 0 }) (mw_Pre G ad NF TF FF M L [.ref (ad 61), .int a1]) (mw_Qv G ad NF TF FF (mw_eqV M0 L0)) 0 0 (mw_fr G) := by
  refine mw_enter (by decide) (Nat.le_of_ble_eq_true rfl) ?_
  intro p e s m below meth c ls C hr hlocks hnm hw hl
  have hl : lv_has ls 3 [(0, .ref (ad 61)), (1, .int a1)] := hl
  have hh91 : ∀ (f : Nat) (v2 : Int32) (M : mwM) (L : mwL) (H : Heap) (locs : List Loc) (ls : Array Slot), fX6_openFrame_h91 fu a1 f (v2, M, L) = some (M0, L0) → mw_W G ad NF TF FF M L H locs → lv_has ls 3 [(0, .ref (ad 61)), (2, .int v2)] → W p l e ({ frames := 0, cells := 0, slots := 0, locals := 0 }) s m [.ref (ad 61), .int a1].toArray below meth c H locs 0 0 (MQ below (mw_Qv G ad NF TF FF (mw_eqV M0 L0)) [.ref (ad 61), .int a1].toArray s 0 0 (mw_fr G)) (F0 m 91 ls []) := by
    intro f
    induction f with
    | zero => intro v2 M L H locs ls hD; cases hD
    | succ f91 ih91 =>
      intro v2 M L H locs ls hD hw hl
      replace hD : fX6_openFrame_i91 fu a1 (fX6_openFrame_h91 fu a1 f91) v2 M L = some (M0, L0) := hD
      unfold fX6_openFrame_i91 at hD
      refine lv_iload_n C.1.1 C.1.2.1 dX6_openFrame_91 rfl (lv_at hl 1 rfl) ?_
      refine lv_bipush (v := 6) C.1.1 C.1.2.1 dX6_openFrame_92 (by decide) ?_
      refine lv_icmp_ge (tgt := 115) C.1.1 C.1.2.1 dX6_openFrame_94 (by decide) (fun c1 => ?_) (fun c1 => ?_)
      · replace hD := g_pos c1 hD
        refine lv_aload_n C.1.1 C.1.2.1 dX6_openFrame_115 rfl (lv_at hl 0 rfl) ?_
        refine lv_dup C.1.1 C.1.2.1 dX6_openFrame_116 rfl ?_
        refine mr_getI C hw kc_6 11 (by decide) tf_61 wd_246 dX6_openFrame_117 (by decide) rfl ?_
        refine lv_iconst (v := 1) C.1.1 C.1.2.1 dX6_openFrame_120 (by decide) ?_
        refine lv_iadd C.1.1 C.1.2.1 dX6_openFrame_121 ?_
        obtain ⟨M2, eM2, hD⟩ := g_let hD
        refine mr_putI C hw kc_6 11 (by decide) tf_61 wd_246 dX6_openFrame_122 (by decide) rfl rfl rfl rfl (fun H locs hw => ?_)
        replace hw : mw_W G ad NF TF FF M2 L H locs := by rw [eM2]; exact hw
        exact mr_vret C hr hlocks hw (Option.some.inj hD) dX6_openFrame_125
      · replace hD := g_neg c1 hD
        refine lv_aload_n C.1.1 C.1.2.1 dX6_openFrame_97 rfl (lv_at hl 0 rfl) ?_
        refine mr_getR C hw kc_6 4 (by decide) tf_61 ff_61_4 wd_236 dX6_openFrame_98 (by decide) rfl ?_
        refine lv_iload_n C.1.1 C.1.2.1 dX6_openFrame_101 rfl (lv_at hl 1 rfl) ?_
        obtain ⟨q3, hD⟩ := g_ck hD
        refine mr_aald C hw (by decide) tf_85 (by decide) (by decide) rfl rfl q3 (fr_85 _ (g_lt q3)).1 dX6_openFrame_102 ?_
        refine lv_aload_n C.1.1 C.1.2.1 dX6_openFrame_103 rfl (lv_at hl 0 rfl) ?_
        refine mr_getI C hw kc_6 11 (by decide) tf_61 wd_246 dX6_openFrame_104 (by decide) rfl ?_
        refine lv_iconst (v := 0) C.1.1 C.1.2.1 dX6_openFrame_107 (by decide) ?_
        obtain ⟨q4, hD⟩ := g_ck hD
        obtain ⟨M5, eM5, hD⟩ := g_let hD
        refine mr_iast C hw (fr_85 _ (g_lt q3)).2.2 (fr_85 _ (g_lt q3)).2.1 q4 dX6_openFrame_108 (fun H locs hw => ?_)
        replace hw : mw_W G ad NF TF FF M5 L H locs := by rw [eM5]; exact hw
        obtain ⟨x6, ex6, hD⟩ := g_let hD
        refine lv_iinc (v := x6) (lv' := [(2, .int x6), (0, .ref (ad 61))]) C.1.1 C.1.2.1 dX6_openFrame_109 hl (k := 1) rfl (by rw [ex6]; rfl) (by decide) rfl (fun ls hl => ?_)
        refine lv_goto (tgt := 91) C.1.1 C.1.2.1 dX6_openFrame_112 (by decide) ?_
        exact ih91 x6 M5 L _ _ ls hD hw (lv_sub hl [1, 0] rfl)
  unfold DX6_openFrame at hD
  refine lv_aload_n C.1.1 C.1.2.1 dX6_openFrame_0 rfl (lv_at hl 0 rfl) ?_
  refine mr_getR C hw kc_6 1 (by decide) tf_61 ff_61_1 wd_231 dX6_openFrame_1 (by decide) rfl ?_
  refine lv_iconst (v := 0) C.1.1 C.1.2.1 dX6_openFrame_4 (by decide) ?_
  refine mr_aald C hw (by decide) tf_73 (by decide) (by decide) rfl rfl (show vp_in 0 6 from by unfold vp_in; decide) ff_73_0 dX6_openFrame_5 ?_
  refine lv_aload_n C.1.1 C.1.2.1 dX6_openFrame_6 rfl (lv_at hl 0 rfl) ?_
  refine mr_getI C hw kc_6 11 (by decide) tf_61 wd_246 dX6_openFrame_7 (by decide) rfl ?_
  refine lv_aload_n C.1.1 C.1.2.1 dX6_openFrame_10 rfl (lv_at hl 0 rfl) ?_
  refine mr_getR C hw kc_6 0 (by decide) tf_61 ff_61_0 wd_228 dX6_openFrame_11 (by decide) rfl ?_
  refine lv_iconst (v := 5) C.1.1 C.1.2.1 dX6_openFrame_14 (by decide) ?_
  refine mr_aald C hw (by decide) tf_62 (by decide) (by decide) rfl rfl (show vp_in 5 10 from by unfold vp_in; decide) ff_62_5 dX6_openFrame_15 ?_
  refine lv_iload_n C.1.1 C.1.2.1 dX6_openFrame_16 rfl (lv_at hl 1 rfl) ?_
  obtain ⟨q9, hD⟩ := g_ck hD
  refine mr_iald C hw (by decide) tf_68 q9 dX6_openFrame_17 ?_
  obtain ⟨q10, hD⟩ := g_ck hD
  obtain ⟨M11, eM11, hD⟩ := g_let hD
  refine mr_iast C hw (by decide) tf_74 q10 dX6_openFrame_18 (fun H locs hw => ?_)
  replace hw : mw_W G ad NF TF FF M11 L H locs := by rw [eM11]; exact hw
  refine lv_aload_n C.1.1 C.1.2.1 dX6_openFrame_19 rfl (lv_at hl 0 rfl) ?_
  refine mr_getR C hw kc_6 1 (by decide) tf_61 ff_61_1 wd_231 dX6_openFrame_20 (by decide) rfl ?_
  refine lv_iconst (v := 1) C.1.1 C.1.2.1 dX6_openFrame_23 (by decide) ?_
  refine mr_aald C hw (by decide) tf_73 (by decide) (by decide) rfl rfl (show vp_in 1 6 from by unfold vp_in; decide) ff_73_1 dX6_openFrame_24 ?_
  refine lv_aload_n C.1.1 C.1.2.1 dX6_openFrame_25 rfl (lv_at hl 0 rfl) ?_
  refine mr_getI C hw kc_6 11 (by decide) tf_61 wd_246 dX6_openFrame_26 (by decide) rfl ?_
  refine lv_aload_n C.1.1 C.1.2.1 dX6_openFrame_29 rfl (lv_at hl 0 rfl) ?_
  refine mr_getR C hw kc_6 0 (by decide) tf_61 ff_61_0 wd_228 dX6_openFrame_30 (by decide) rfl ?_
  refine lv_iconst (v := 3) C.1.1 C.1.2.1 dX6_openFrame_33 (by decide) ?_
  refine mr_aald C hw (by decide) tf_62 (by decide) (by decide) rfl rfl (show vp_in 3 10 from by unfold vp_in; decide) ff_62_3 dX6_openFrame_34 ?_
  refine lv_iload_n C.1.1 C.1.2.1 dX6_openFrame_35 rfl (lv_at hl 1 rfl) ?_
  obtain ⟨q14, hD⟩ := g_ck hD
  refine mr_iald C hw (by decide) tf_66 q14 dX6_openFrame_36 ?_
  obtain ⟨q15, hD⟩ := g_ck hD
  obtain ⟨M16, eM16, hD⟩ := g_let hD
  refine mr_iast C hw (by decide) tf_75 q15 dX6_openFrame_37 (fun H locs hw => ?_)
  replace hw : mw_W G ad NF TF FF M16 L H locs := by rw [eM16]; exact hw
  refine lv_aload_n C.1.1 C.1.2.1 dX6_openFrame_38 rfl (lv_at hl 0 rfl) ?_
  refine mr_getR C hw kc_6 1 (by decide) tf_61 ff_61_1 wd_231 dX6_openFrame_39 (by decide) rfl ?_
  refine lv_iconst (v := 2) C.1.1 C.1.2.1 dX6_openFrame_42 (by decide) ?_
  refine mr_aald C hw (by decide) tf_73 (by decide) (by decide) rfl rfl (show vp_in 2 6 from by unfold vp_in; decide) ff_73_2 dX6_openFrame_43 ?_
  refine lv_aload_n C.1.1 C.1.2.1 dX6_openFrame_44 rfl (lv_at hl 0 rfl) ?_
  refine mr_getI C hw kc_6 11 (by decide) tf_61 wd_246 dX6_openFrame_45 (by decide) rfl ?_
  refine lv_aload_n C.1.1 C.1.2.1 dX6_openFrame_48 rfl (lv_at hl 0 rfl) ?_
  refine mr_getR C hw kc_6 0 (by decide) tf_61 ff_61_0 wd_228 dX6_openFrame_49 (by decide) rfl ?_
  refine lv_bipush (v := 7) C.1.1 C.1.2.1 dX6_openFrame_52 (by decide) ?_
  refine mr_aald C hw (by decide) tf_62 (by decide) (by decide) rfl rfl (show vp_in 7 10 from by unfold vp_in; decide) ff_62_7 dX6_openFrame_54 ?_
  refine lv_iload_n C.1.1 C.1.2.1 dX6_openFrame_55 rfl (lv_at hl 1 rfl) ?_
  obtain ⟨q19, hD⟩ := g_ck hD
  refine mr_iald C hw (by decide) tf_70 q19 dX6_openFrame_56 ?_
  obtain ⟨q20, hD⟩ := g_ck hD
  obtain ⟨M21, eM21, hD⟩ := g_let hD
  refine mr_iast C hw (by decide) tf_76 q20 dX6_openFrame_57 (fun H locs hw => ?_)
  replace hw : mw_W G ad NF TF FF M21 L H locs := by rw [eM21]; exact hw
  refine lv_aload_n C.1.1 C.1.2.1 dX6_openFrame_58 rfl (lv_at hl 0 rfl) ?_
  refine mr_getR C hw kc_6 1 (by decide) tf_61 ff_61_1 wd_231 dX6_openFrame_59 (by decide) rfl ?_
  refine lv_iconst (v := 5) C.1.1 C.1.2.1 dX6_openFrame_62 (by decide) ?_
  refine mr_aald C hw (by decide) tf_73 (by decide) (by decide) rfl rfl (show vp_in 5 6 from by unfold vp_in; decide) ff_73_5 dX6_openFrame_63 ?_
  refine lv_aload_n C.1.1 C.1.2.1 dX6_openFrame_64 rfl (lv_at hl 0 rfl) ?_
  refine mr_getI C hw kc_6 11 (by decide) tf_61 wd_246 dX6_openFrame_65 (by decide) rfl ?_
  refine lv_aload_n C.1.1 C.1.2.1 dX6_openFrame_68 rfl (lv_at hl 0 rfl) ?_
  refine mr_getR C hw kc_6 0 (by decide) tf_61 ff_61_0 wd_228 dX6_openFrame_69 (by decide) rfl ?_
  refine lv_iconst (v := 3) C.1.1 C.1.2.1 dX6_openFrame_72 (by decide) ?_
  refine mr_aald C hw (by decide) tf_62 (by decide) (by decide) rfl rfl (show vp_in 3 10 from by unfold vp_in; decide) ff_62_3 dX6_openFrame_73 ?_
  refine lv_iload_n C.1.1 C.1.2.1 dX6_openFrame_74 rfl (lv_at hl 1 rfl) ?_
  obtain ⟨q24, hD⟩ := g_ck hD
  refine mr_iald C hw (by decide) tf_66 q24 dX6_openFrame_75 ?_
  obtain ⟨q25, hD⟩ := g_ck hD
  obtain ⟨M26, eM26, hD⟩ := g_let hD
  refine mr_iast C hw (by decide) tf_79 q25 dX6_openFrame_76 (fun H locs hw => ?_)
  replace hw : mw_W G ad NF TF FF M26 L H locs := by rw [eM26]; exact hw
  refine lv_aload_n C.1.1 C.1.2.1 dX6_openFrame_77 rfl (lv_at hl 0 rfl) ?_
  refine mr_getR C hw kc_6 1 (by decide) tf_61 ff_61_1 wd_231 dX6_openFrame_78 (by decide) rfl ?_
  refine lv_iconst (v := 3) C.1.1 C.1.2.1 dX6_openFrame_81 (by decide) ?_
  refine mr_aald C hw (by decide) tf_73 (by decide) (by decide) rfl rfl (show vp_in 3 6 from by unfold vp_in; decide) ff_73_3 dX6_openFrame_82 ?_
  refine lv_aload_n C.1.1 C.1.2.1 dX6_openFrame_83 rfl (lv_at hl 0 rfl) ?_
  refine mr_getI C hw kc_6 11 (by decide) tf_61 wd_246 dX6_openFrame_84 (by decide) rfl ?_
  refine lv_iconst (v := 0) C.1.1 C.1.2.1 dX6_openFrame_87 (by decide) ?_
  obtain ⟨q28, hD⟩ := g_ck hD
  obtain ⟨M29, eM29, hD⟩ := g_let hD
  refine mr_iast C hw (by decide) tf_77 q28 dX6_openFrame_88 (fun H locs hw => ?_)
  replace hw : mw_W G ad NF TF FF M29 L H locs := by rw [eM29]; exact hw
  refine lv_iconst (v := 0) C.1.1 C.1.2.1 dX6_openFrame_89 (by decide) ?_
  refine lv_istore_n (lv' := [(2, .int 0), (0, .ref (ad 61)), (1, .int a1)]) C.1.1 C.1.2.1 dX6_openFrame_90 rfl hl (by decide) rfl (fun ls hl => ?_)
  exact hh91 fu 0 M29 L _ _ ls hD hw (lv_sub hl [1, 0] rfl)

theorem dX6_placeGroups_0 : decode cX6_placeGroups 0 = .ok (.aload_n 0, 1) := by decide +kernel
theorem dX6_placeGroups_1 : decode cX6_placeGroups 1 = .ok (.invokevirtual 113, 3) := by decide +kernel
theorem dX6_placeGroups_4 : decode cX6_placeGroups 4 = .ok (.iconst 0, 1) := by decide +kernel
theorem dX6_placeGroups_5 : decode cX6_placeGroups 5 = .ok (.istore_n 2, 1) := by decide +kernel
theorem dX6_placeGroups_6 : decode cX6_placeGroups 6 = .ok (.iload_n 2, 1) := by decide +kernel
theorem dX6_placeGroups_7 : decode cX6_placeGroups 7 = .ok (.aload_n 0, 1) := by decide +kernel
theorem dX6_placeGroups_8 : decode cX6_placeGroups 8 = .ok (.getfield 97, 3) := by decide +kernel
theorem dX6_placeGroups_11 : decode cX6_placeGroups 11 = .ok (.if_icmp .ge 75, 3) := by decide +kernel
theorem dX6_placeGroups_14 : decode cX6_placeGroups 14 = .ok (.aload_n 0, 1) := by decide +kernel
theorem dX6_placeGroups_15 : decode cX6_placeGroups 15 = .ok (.getfield 29, 3) := by decide +kernel
theorem dX6_placeGroups_18 : decode cX6_placeGroups 18 = .ok (.iload_n 2, 1) := by decide +kernel
theorem dX6_placeGroups_19 : decode cX6_placeGroups 19 = .ok (.iaload, 1) := by decide +kernel
theorem dX6_placeGroups_20 : decode cX6_placeGroups 20 = .ok (.istore_n 3, 1) := by decide +kernel
theorem dX6_placeGroups_21 : decode cX6_placeGroups 21 = .ok (.aload_n 0, 1) := by decide +kernel
theorem dX6_placeGroups_22 : decode cX6_placeGroups 22 = .ok (.getfield 11, 3) := by decide +kernel
theorem dX6_placeGroups_25 : decode cX6_placeGroups 25 = .ok (.bipush 8, 2) := by decide +kernel
theorem dX6_placeGroups_27 : decode cX6_placeGroups 27 = .ok (.aaload, 1) := by decide +kernel
theorem dX6_placeGroups_28 : decode cX6_placeGroups 28 = .ok (.iload_n 3, 1) := by decide +kernel
theorem dX6_placeGroups_29 : decode cX6_placeGroups 29 = .ok (.aload_n 0, 1) := by decide +kernel
theorem dX6_placeGroups_30 : decode cX6_placeGroups 30 = .ok (.getfield 48, 3) := by decide +kernel
theorem dX6_placeGroups_33 : decode cX6_placeGroups 33 = .ok (.aload_n 0, 1) := by decide +kernel
theorem dX6_placeGroups_34 : decode cX6_placeGroups 34 = .ok (.getfield 32, 3) := by decide +kernel
theorem dX6_placeGroups_37 : decode cX6_placeGroups 37 = .ok (.iload_n 2, 1) := by decide +kernel
theorem dX6_placeGroups_38 : decode cX6_placeGroups 38 = .ok (.iaload, 1) := by decide +kernel
theorem dX6_placeGroups_39 : decode cX6_placeGroups 39 = .ok (.iadd, 1) := by decide +kernel
theorem dX6_placeGroups_40 : decode cX6_placeGroups 40 = .ok (.iastore, 1) := by decide +kernel
theorem dX6_placeGroups_41 : decode cX6_placeGroups 41 = .ok (.aload_n 0, 1) := by decide +kernel
theorem dX6_placeGroups_42 : decode cX6_placeGroups 42 = .ok (.getfield 11, 3) := by decide +kernel
theorem dX6_placeGroups_45 : decode cX6_placeGroups 45 = .ok (.bipush 9, 2) := by decide +kernel
theorem dX6_placeGroups_47 : decode cX6_placeGroups 47 = .ok (.aaload, 1) := by decide +kernel
theorem dX6_placeGroups_48 : decode cX6_placeGroups 48 = .ok (.iload_n 3, 1) := by decide +kernel
theorem dX6_placeGroups_49 : decode cX6_placeGroups 49 = .ok (.aload_n 0, 1) := by decide +kernel
theorem dX6_placeGroups_50 : decode cX6_placeGroups 50 = .ok (.getfield 35, 3) := by decide +kernel
theorem dX6_placeGroups_53 : decode cX6_placeGroups 53 = .ok (.aload_n 0, 1) := by decide +kernel
theorem dX6_placeGroups_54 : decode cX6_placeGroups 54 = .ok (.getfield 32, 3) := by decide +kernel
theorem dX6_placeGroups_57 : decode cX6_placeGroups 57 = .ok (.iload_n 2, 1) := by decide +kernel
theorem dX6_placeGroups_58 : decode cX6_placeGroups 58 = .ok (.iaload, 1) := by decide +kernel
theorem dX6_placeGroups_59 : decode cX6_placeGroups 59 = .ok (.iaload, 1) := by decide +kernel
theorem dX6_placeGroups_60 : decode cX6_placeGroups 60 = .ok (.iastore, 1) := by decide +kernel
theorem dX6_placeGroups_61 : decode cX6_placeGroups 61 = .ok (.aload_n 0, 1) := by decide +kernel
theorem dX6_placeGroups_62 : decode cX6_placeGroups 62 = .ok (.getfield 35, 3) := by decide +kernel
theorem dX6_placeGroups_65 : decode cX6_placeGroups 65 = .ok (.aload_n 0, 1) := by decide +kernel
theorem dX6_placeGroups_66 : decode cX6_placeGroups 66 = .ok (.getfield 32, 3) := by decide +kernel
theorem dX6_placeGroups_69 : decode cX6_placeGroups 69 = .ok (.iload_n 2, 1) := by decide +kernel
theorem dX6_placeGroups_70 : decode cX6_placeGroups 70 = .ok (.iaload, 1) := by decide +kernel
theorem dX6_placeGroups_71 : decode cX6_placeGroups 71 = .ok (.dup2, 1) := by decide +kernel
theorem dX6_placeGroups_72 : decode cX6_placeGroups 72 = .ok (.iaload, 1) := by decide +kernel
theorem dX6_placeGroups_73 : decode cX6_placeGroups 73 = .ok (.aload_n 0, 1) := by decide +kernel
theorem dX6_placeGroups_74 : decode cX6_placeGroups 74 = .ok (.iload_n 3, 1) := by decide +kernel
theorem dX6_placeGroups_75 : decode cX6_placeGroups 75 = .ok (.invokevirtual 62, 3) := by decide +kernel
theorem dX6_placeGroups_78 : decode cX6_placeGroups 78 = .ok (.iadd, 1) := by decide +kernel
theorem dX6_placeGroups_79 : decode cX6_placeGroups 79 = .ok (.iastore, 1) := by decide +kernel
theorem dX6_placeGroups_80 : decode cX6_placeGroups 80 = .ok (.iinc 2 1, 3) := by decide +kernel
theorem dX6_placeGroups_83 : decode cX6_placeGroups 83 = .ok (.goto (-77), 3) := by decide +kernel
theorem dX6_placeGroups_86 : decode cX6_placeGroups 86 = .ok (.iconst 0, 1) := by decide +kernel
theorem dX6_placeGroups_87 : decode cX6_placeGroups 87 = .ok (.istore_n 2, 1) := by decide +kernel
theorem dX6_placeGroups_88 : decode cX6_placeGroups 88 = .ok (.iload_n 2, 1) := by decide +kernel
theorem dX6_placeGroups_89 : decode cX6_placeGroups 89 = .ok (.iload_n 1, 1) := by decide +kernel
theorem dX6_placeGroups_90 : decode cX6_placeGroups 90 = .ok (.if_icmp .ge 19, 3) := by decide +kernel
theorem dX6_placeGroups_93 : decode cX6_placeGroups 93 = .ok (.aload_n 0, 1) := by decide +kernel
theorem dX6_placeGroups_94 : decode cX6_placeGroups 94 = .ok (.aload_n 0, 1) := by decide +kernel
theorem dX6_placeGroups_95 : decode cX6_placeGroups 95 = .ok (.getfield 29, 3) := by decide +kernel
theorem dX6_placeGroups_98 : decode cX6_placeGroups 98 = .ok (.iconst 0, 1) := by decide +kernel
theorem dX6_placeGroups_99 : decode cX6_placeGroups 99 = .ok (.iaload, 1) := by decide +kernel
theorem dX6_placeGroups_100 : decode cX6_placeGroups 100 = .ok (.invokevirtual 119, 3) := by decide +kernel
theorem dX6_placeGroups_103 : decode cX6_placeGroups 103 = .ok (.iinc 2 1, 3) := by decide +kernel
theorem dX6_placeGroups_106 : decode cX6_placeGroups 106 = .ok (.goto (-18), 3) := by decide +kernel
theorem dX6_placeGroups_109 : decode cX6_placeGroups 109 = .ok (.return_, 1) := by decide +kernel
theorem cwX6_placeGroups : mw_cwV yX6_placeGroups cX6_placeGroups 4 (none) 1 := ⟨⟨wd_7, wd_1182, by decide +kernel⟩, wd_1181, sl_55⟩
set_option maxHeartbeats 4000000 in
set_option maxRecDepth 100000 in
theorem tX6_placeGroups (l : Launch) (G : mwG) (ad : Nat → Nat) (fu : Nat) (a1 : Int32) (M : mwM) (L : mwL) {M0 : mwM} {L0 : mwL} (hD : DX6_placeGroups fu a1 M L = some (M0, L0)) : Met l yX6_placeGroups (Cond.code yX6_placeGroups cX6_placeGroups 4 (none) :: GT) ({ frames := 1, cells := 0, slots := 0, locals := 22 }) (mw_Pre G ad NF TF FF M L [.ref (ad 61), .int a1]) (mw_Qv G ad NF TF FF (mw_eqV M0 L0)) 0 0 (mw_fr G) := by
  refine mw_enter (by decide) (Nat.le_of_ble_eq_true rfl) ?_
  intro p e s m below meth c ls C hr hlocks hnm hw hl
  have hl : lv_has ls 4 [(0, .ref (ad 61)), (1, .int a1)] := hl
  have hh88 : ∀ (f : Nat) (v2 : Int32) (M : mwM) (L : mwL) (H : Heap) (locs : List Loc) (ls : Array Slot), fX6_placeGroups_h88 fu a1 f (v2, M, L) = some (M0, L0) → mw_W G ad NF TF FF M L H locs → lv_has ls 4 [(0, .ref (ad 61)), (1, .int a1), (2, .int v2)] → W p l e ({ frames := 1, cells := 0, slots := 0, locals := 22 }) s m [.ref (ad 61), .int a1].toArray below meth c H locs 0 0 (MQ below (mw_Qv G ad NF TF FF (mw_eqV M0 L0)) [.ref (ad 61), .int a1].toArray s 0 0 (mw_fr G)) (F0 m 88 ls []) := by
    intro f
    induction f with
    | zero => intro v2 M L H locs ls hD; cases hD
    | succ f88 ih88 =>
      intro v2 M L H locs ls hD hw hl
      replace hD : fX6_placeGroups_i88 fu a1 (fX6_placeGroups_h88 fu a1 f88) v2 M L = some (M0, L0) := hD
      unfold fX6_placeGroups_i88 at hD
      refine lv_iload_n C.1.1 C.1.2.1 dX6_placeGroups_88 rfl (lv_at hl 2 rfl) ?_
      refine lv_iload_n C.1.1 C.1.2.1 dX6_placeGroups_89 rfl (lv_at hl 1 rfl) ?_
      refine lv_icmp_ge (tgt := 109) C.1.1 C.1.2.1 dX6_placeGroups_90 (by decide) (fun c21 => ?_) (fun c21 => ?_)
      · replace hD := g_pos c21 hD
        exact mr_vret C hr hlocks hw (Option.some.inj hD) dX6_placeGroups_109
      · replace hD := g_neg c21 hD
        refine lv_aload_n C.1.1 C.1.2.1 dX6_placeGroups_93 rfl (lv_at hl 0 rfl) ?_
        refine lv_aload_n C.1.1 C.1.2.1 dX6_placeGroups_94 rfl (lv_at hl 0 rfl) ?_
        refine mr_getR C hw kc_6 5 (by decide) tf_61 ff_61_5 wd_237 dX6_placeGroups_95 (by decide) rfl ?_
        refine lv_iconst (v := 0) C.1.1 C.1.2.1 dX6_placeGroups_98 (by decide) ?_
        refine mr_iald C hw (by decide) tf_92 (show vp_in 0 40 from by unfold vp_in; decide) dX6_placeGroups_99 ?_
        obtain ⟨M23, L24, h1, hD⟩ := g_b2 hD
        refine md_cvV (As := [.int (M 92 (0 : Int32).toNatClampNeg)]) (rest := []) C hw (tX6_openFrame l G ad fu (M 92 (0 : Int32).toNatClampNeg) M L h1) kc_6 (by decide) tf_61 wd_1183 cwX6_openFrame ⟨Nat.le_of_ble_eq_true rfl, Nat.le_of_ble_eq_true rfl⟩ rfl hl.1 (Nat.le_of_ble_eq_true rfl) dX6_placeGroups_100 rfl rfl ⟨Nat.zero_le _, Nat.zero_le _⟩ rfl (fun H locs hw => ?_)
        obtain ⟨x25, ex25, hD⟩ := g_let hD
        refine lv_iinc (v := x25) (lv' := [(2, .int x25), (0, .ref (ad 61)), (1, .int a1)]) C.1.1 C.1.2.1 dX6_placeGroups_103 hl (k := 2) rfl (by rw [ex25]; rfl) (by decide) rfl (fun ls hl => ?_)
        refine lv_goto (tgt := 88) C.1.1 C.1.2.1 dX6_placeGroups_106 (by decide) ?_
        exact ih88 x25 M23 L24 _ _ ls hD hw (lv_sub hl [1, 2, 0] rfl)
  have hh6 : ∀ (f : Nat) (v2 : Int32) (M : mwM) (L : mwL) (H : Heap) (locs : List Loc) (ls : Array Slot), fX6_placeGroups_h6 fu a1 f (v2, M, L) = some (M0, L0) → mw_W G ad NF TF FF M L H locs → lv_has ls 4 [(0, .ref (ad 61)), (1, .int a1), (2, .int v2)] → W p l e ({ frames := 1, cells := 0, slots := 0, locals := 22 }) s m [.ref (ad 61), .int a1].toArray below meth c H locs 0 0 (MQ below (mw_Qv G ad NF TF FF (mw_eqV M0 L0)) [.ref (ad 61), .int a1].toArray s 0 0 (mw_fr G)) (F0 m 6 ls []) := by
    intro f
    induction f with
    | zero => intro v2 M L H locs ls hD; cases hD
    | succ f6 ih6 =>
      intro v2 M L H locs ls hD hw hl
      replace hD : fX6_placeGroups_i6 fu a1 (fX6_placeGroups_h6 fu a1 f6) v2 M L = some (M0, L0) := hD
      unfold fX6_placeGroups_i6 at hD
      refine lv_iload_n C.1.1 C.1.2.1 dX6_placeGroups_6 rfl (lv_at hl 2 rfl) ?_
      refine lv_aload_n C.1.1 C.1.2.1 dX6_placeGroups_7 rfl (lv_at hl 0 rfl) ?_
      refine mr_getI C hw kc_6 13 (by decide) tf_61 wd_250 dX6_placeGroups_8 (by decide) rfl ?_
      refine lv_icmp_ge (tgt := 86) C.1.1 C.1.2.1 dX6_placeGroups_11 (by decide) (fun c1 => ?_) (fun c1 => ?_)
      · replace hD := g_pos c1 hD
        refine lv_iconst (v := 0) C.1.1 C.1.2.1 dX6_placeGroups_86 (by decide) ?_
        refine lv_istore_n (lv' := [(2, .int 0), (0, .ref (ad 61)), (1, .int a1)]) C.1.1 C.1.2.1 dX6_placeGroups_87 rfl hl (by decide) rfl (fun ls hl => ?_)
        exact hh88 fu 0 M L _ _ ls hD hw (lv_sub hl [1, 2, 0] rfl)
      · replace hD := g_neg c1 hD
        refine lv_aload_n C.1.1 C.1.2.1 dX6_placeGroups_14 rfl (lv_at hl 0 rfl) ?_
        refine mr_getR C hw kc_6 5 (by decide) tf_61 ff_61_5 wd_237 dX6_placeGroups_15 (by decide) rfl ?_
        refine lv_iload_n C.1.1 C.1.2.1 dX6_placeGroups_18 rfl (lv_at hl 2 rfl) ?_
        obtain ⟨q2, hD⟩ := g_ck hD
        refine mr_iald C hw (by decide) tf_92 q2 dX6_placeGroups_19 ?_
        obtain ⟨x3, ex3, hD⟩ := g_let hD
        refine W.eq (g2 := F0 m 20 ls (.int x3 :: [])) (by rw [ex3]) ?_
        refine lv_istore_n (lv' := [(3, .int x3), (0, .ref (ad 61)), (1, .int a1), (2, .int v2)]) C.1.1 C.1.2.1 dX6_placeGroups_20 rfl hl (by decide) rfl (fun ls hl => ?_)
        refine lv_aload_n C.1.1 C.1.2.1 dX6_placeGroups_21 rfl (lv_at hl 1 rfl) ?_
        refine mr_getR C hw kc_6 0 (by decide) tf_61 ff_61_0 wd_228 dX6_placeGroups_22 (by decide) rfl ?_
        refine lv_bipush (v := 8) C.1.1 C.1.2.1 dX6_placeGroups_25 (by decide) ?_
        refine mr_aald C hw (by decide) tf_62 (by decide) (by decide) rfl rfl (show vp_in 8 10 from by unfold vp_in; decide) ff_62_8 dX6_placeGroups_27 ?_
        refine lv_iload_n C.1.1 C.1.2.1 dX6_placeGroups_28 rfl (lv_at hl 0 rfl) ?_
        refine lv_aload_n C.1.1 C.1.2.1 dX6_placeGroups_29 rfl (lv_at hl 1 rfl) ?_
        refine mr_getI C hw kc_6 11 (by decide) tf_61 wd_246 dX6_placeGroups_30 (by decide) rfl ?_
        refine lv_aload_n C.1.1 C.1.2.1 dX6_placeGroups_33 rfl (lv_at hl 1 rfl) ?_
        refine mr_getR C hw kc_6 6 (by decide) tf_61 ff_61_6 wd_238 dX6_placeGroups_34 (by decide) rfl ?_
        refine lv_iload_n C.1.1 C.1.2.1 dX6_placeGroups_37 rfl (lv_at hl 3 rfl) ?_
        obtain ⟨q5, hD⟩ := g_ck hD
        refine mr_iald C hw (by decide) tf_93 q5 dX6_placeGroups_38 ?_
        refine lv_iadd C.1.1 C.1.2.1 dX6_placeGroups_39 ?_
        obtain ⟨q6, hD⟩ := g_ck hD
        obtain ⟨M7, eM7, hD⟩ := g_let hD
        refine mr_iast C hw (by decide) tf_71 q6 dX6_placeGroups_40 (fun H locs hw => ?_)
        replace hw : mw_W G ad NF TF FF M7 L H locs := by rw [eM7]; exact hw
        refine lv_aload_n C.1.1 C.1.2.1 dX6_placeGroups_41 rfl (lv_at hl 1 rfl) ?_
        refine mr_getR C hw kc_6 0 (by decide) tf_61 ff_61_0 wd_228 dX6_placeGroups_42 (by decide) rfl ?_
        refine lv_bipush (v := 9) C.1.1 C.1.2.1 dX6_placeGroups_45 (by decide) ?_
        refine mr_aald C hw (by decide) tf_62 (by decide) (by decide) rfl rfl (show vp_in 9 10 from by unfold vp_in; decide) ff_62_9 dX6_placeGroups_47 ?_
        refine lv_iload_n C.1.1 C.1.2.1 dX6_placeGroups_48 rfl (lv_at hl 0 rfl) ?_
        refine lv_aload_n C.1.1 C.1.2.1 dX6_placeGroups_49 rfl (lv_at hl 1 rfl) ?_
        refine mr_getR C hw kc_6 7 (by decide) tf_61 ff_61_7 wd_239 dX6_placeGroups_50 (by decide) rfl ?_
        refine lv_aload_n C.1.1 C.1.2.1 dX6_placeGroups_53 rfl (lv_at hl 1 rfl) ?_
        refine mr_getR C hw kc_6 6 (by decide) tf_61 ff_61_6 wd_238 dX6_placeGroups_54 (by decide) rfl ?_
        refine lv_iload_n C.1.1 C.1.2.1 dX6_placeGroups_57 rfl (lv_at hl 3 rfl) ?_
        obtain ⟨q9, hD⟩ := g_ck hD
        refine mr_iald C hw (by decide) tf_93 q9 dX6_placeGroups_58 ?_
        obtain ⟨q10, hD⟩ := g_ck hD
        refine mr_iald C hw (by decide) tf_94 q10 dX6_placeGroups_59 ?_
        obtain ⟨q11, hD⟩ := g_ck hD
        obtain ⟨M12, eM12, hD⟩ := g_let hD
        refine mr_iast C hw (by decide) tf_72 q11 dX6_placeGroups_60 (fun H locs hw => ?_)
        replace hw : mw_W G ad NF TF FF M12 L H locs := by rw [eM12]; exact hw
        refine lv_aload_n C.1.1 C.1.2.1 dX6_placeGroups_61 rfl (lv_at hl 1 rfl) ?_
        refine mr_getR C hw kc_6 7 (by decide) tf_61 ff_61_7 wd_239 dX6_placeGroups_62 (by decide) rfl ?_
        refine lv_aload_n C.1.1 C.1.2.1 dX6_placeGroups_65 rfl (lv_at hl 1 rfl) ?_
        refine mr_getR C hw kc_6 6 (by decide) tf_61 ff_61_6 wd_238 dX6_placeGroups_66 (by decide) rfl ?_
        refine lv_iload_n C.1.1 C.1.2.1 dX6_placeGroups_69 rfl (lv_at hl 3 rfl) ?_
        obtain ⟨q13, hD⟩ := g_ck hD
        refine mr_iald C hw (by decide) tf_93 q13 dX6_placeGroups_70 ?_
        refine lv_dup2_11 C.1.1 C.1.2.1 dX6_placeGroups_71 rfl rfl ?_
        obtain ⟨q14, hD⟩ := g_ck hD
        refine mr_iald C hw (by decide) tf_94 q14 dX6_placeGroups_72 ?_
        refine lv_aload_n C.1.1 C.1.2.1 dX6_placeGroups_73 rfl (lv_at hl 1 rfl) ?_
        refine lv_iload_n C.1.1 C.1.2.1 dX6_placeGroups_74 rfl (lv_at hl 0 rfl) ?_
        obtain ⟨r17, M15, L16, h1, hD⟩ := g_b3 hD
        refine md_cvI (As := [.int x3]) (rest := [.int (M12 94 (M12 93 v2.toNatClampNeg).toNatClampNeg), .int (M12 93 v2.toNatClampNeg), .ref (ad 94)]) C hw (tX6_octetsOf l G ad fu x3 M12 L h1) kc_6 (by decide) tf_61 wd_1125 cwX6_octetsOf ⟨Nat.le_of_ble_eq_true rfl, Nat.le_of_ble_eq_true rfl⟩ rfl hl.1 (Nat.le_of_ble_eq_true rfl) dX6_placeGroups_75 rfl rfl ⟨Nat.zero_le _, Nat.zero_le _⟩ rfl (fun H locs hw => ?_)
        refine lv_iadd C.1.1 C.1.2.1 dX6_placeGroups_78 ?_
        obtain ⟨q18, hD⟩ := g_ck hD
        obtain ⟨M19, eM19, hD⟩ := g_let hD
        refine mr_iast C hw (by decide) tf_94 q18 dX6_placeGroups_79 (fun H locs hw => ?_)
        replace hw : mw_W G ad NF TF FF M19 L16 H locs := by rw [eM19]; exact hw
        obtain ⟨x20, ex20, hD⟩ := g_let hD
        refine lv_iinc (v := x20) (lv' := [(2, .int x20), (3, .int x3), (0, .ref (ad 61)), (1, .int a1)]) C.1.1 C.1.2.1 dX6_placeGroups_80 hl (k := 3) rfl (by rw [ex20]; rfl) (by decide) rfl (fun ls hl => ?_)
        refine lv_goto (tgt := 6) C.1.1 C.1.2.1 dX6_placeGroups_83 (by decide) ?_
        exact ih6 x20 M19 L16 _ _ ls hD hw (lv_sub hl [2, 3, 0] rfl)
  unfold DX6_placeGroups at hD
  refine lv_aload_n C.1.1 C.1.2.1 dX6_placeGroups_0 rfl (lv_at hl 0 rfl) ?_
  obtain ⟨M26, L27, h1, hD⟩ := g_b2 hD
  refine md_cvV (As := []) (rest := []) C hw (tX6_emptyFrames l G ad fu M L h1) kc_6 (by decide) tf_61 wd_1168 cwX6_emptyFrames ⟨Nat.le_of_ble_eq_true rfl, Nat.le_of_ble_eq_true rfl⟩ rfl hl.1 (Nat.le_of_ble_eq_true rfl) dX6_placeGroups_1 rfl rfl ⟨Nat.zero_le _, Nat.zero_le _⟩ rfl (fun H locs hw => ?_)
  refine lv_iconst (v := 0) C.1.1 C.1.2.1 dX6_placeGroups_4 (by decide) ?_
  refine lv_istore_n (lv' := [(2, .int 0), (0, .ref (ad 61)), (1, .int a1)]) C.1.1 C.1.2.1 dX6_placeGroups_5 rfl hl (by decide) rfl (fun ls hl => ?_)
  exact hh6 fu 0 M26 L27 _ _ ls hD hw (lv_sub hl [1, 2, 0] rfl)

theorem dX6_packGroups_0 : decode cX6_packGroups 0 = .ok (.aload_n 0, 1) := by decide +kernel
theorem dX6_packGroups_1 : decode cX6_packGroups 1 = .ok (.aload_n 0, 1) := by decide +kernel
theorem dX6_packGroups_2 : decode cX6_packGroups 2 = .ok (.getfield 97, 3) := by decide +kernel
theorem dX6_packGroups_5 : decode cX6_packGroups 5 = .ok (.bipush 7, 2) := by decide +kernel
theorem dX6_packGroups_7 : decode cX6_packGroups 7 = .ok (.if_icmp .gt 11, 3) := by decide +kernel
theorem dX6_packGroups_10 : decode cX6_packGroups 10 = .ok (.aload_n 0, 1) := by decide +kernel
theorem dX6_packGroups_11 : decode cX6_packGroups 11 = .ok (.iload_n 1, 1) := by decide +kernel
theorem dX6_packGroups_12 : decode cX6_packGroups 12 = .ok (.invokevirtual 100, 3) := by decide +kernel
theorem dX6_packGroups_15 : decode cX6_packGroups 15 = .ok (.goto 8, 3) := by decide +kernel
theorem dX6_packGroups_18 : decode cX6_packGroups 18 = .ok (.aload_n 0, 1) := by decide +kernel
theorem dX6_packGroups_19 : decode cX6_packGroups 19 = .ok (.iload_n 1, 1) := by decide +kernel
theorem dX6_packGroups_20 : decode cX6_packGroups 20 = .ok (.invokevirtual 103, 3) := by decide +kernel
theorem dX6_packGroups_23 : decode cX6_packGroups 23 = .ok (.invokevirtual 106, 3) := by decide +kernel
theorem dX6_packGroups_26 : decode cX6_packGroups 26 = .ok (.return_, 1) := by decide +kernel
theorem cwX6_packGroups : mw_cwV yX6_packGroups cX6_packGroups 2 (none) 1 := ⟨⟨wd_7, wd_1159, by decide +kernel⟩, wd_1158, sl_50⟩
set_option maxHeartbeats 4000000 in
set_option maxRecDepth 100000 in
theorem tX6_packGroups (l : Launch) (G : mwG) (ad : Nat → Nat) (fu : Nat) (a1 : Int32) (M : mwM) (L : mwL) {M0 : mwM} {L0 : mwL} (hD : DX6_packGroups fu a1 M L = some (M0, L0)) : Met l yX6_packGroups (Cond.code yX6_packGroups cX6_packGroups 2 (none) :: GT) ({ frames := 45, cells := 0, slots := 0, locals := 1161 }) (mw_Pre G ad NF TF FF M L [.ref (ad 61), .int a1]) (mw_Qv G ad NF TF FF (mw_eqV M0 L0)) 0 0 (mw_fr G) := by
  refine mw_enter (by decide) (Nat.le_of_ble_eq_true rfl) ?_
  intro p e s m below meth c ls C hr hlocks hnm hw hl
  have hl : lv_has ls 2 [(0, .ref (ad 61)), (1, .int a1)] := hl
  have hb23 : ∀ (s1 : Int32) (M : mwM) (L : mwL) (H : Heap) (locs : List Loc) (ls : Array Slot), fX6_packGroups_b23 fu a1 s1 M L = some (M0, L0) → mw_W G ad NF TF FF M L H locs → lv_has ls 2 [] → W p l e ({ frames := 45, cells := 0, slots := 0, locals := 1161 }) s m [.ref (ad 61), .int a1].toArray below meth c H locs 0 0 (MQ below (mw_Qv G ad NF TF FF (mw_eqV M0 L0)) [.ref (ad 61), .int a1].toArray s 0 0 (mw_fr G)) (F0 m 23 ls [.int s1, .ref (ad 61)]) := by
    intro s1 M L H locs ls hD hw hl
    unfold fX6_packGroups_b23 at hD
    obtain ⟨M1, L2, h1, hD⟩ := g_b2 hD
    refine md_cvV (As := [.int s1]) (rest := []) C hw (tX6_placeGroups l G ad fu s1 M L h1) kc_6 (by decide) tf_61 wd_1179 cwX6_placeGroups ⟨Nat.le_of_ble_eq_true rfl, Nat.le_of_ble_eq_true rfl⟩ rfl hl.1 (Nat.le_of_ble_eq_true rfl) dX6_packGroups_23 rfl rfl ⟨Nat.zero_le _, Nat.zero_le _⟩ rfl (fun H locs hw => ?_)
    exact mr_vret C hr hlocks hw (Option.some.inj hD) dX6_packGroups_26
  unfold DX6_packGroups at hD
  refine lv_aload_n C.1.1 C.1.2.1 dX6_packGroups_0 rfl (lv_at hl 0 rfl) ?_
  refine lv_aload_n C.1.1 C.1.2.1 dX6_packGroups_1 rfl (lv_at hl 0 rfl) ?_
  refine mr_getI C hw kc_6 13 (by decide) tf_61 wd_250 dX6_packGroups_2 (by decide) rfl ?_
  refine lv_bipush (v := 7) C.1.1 C.1.2.1 dX6_packGroups_5 (by decide) ?_
  refine lv_icmp_gt (tgt := 18) C.1.1 C.1.2.1 dX6_packGroups_7 (by decide) (fun c3 => ?_) (fun c3 => ?_)
  · replace hD := g_pos c3 hD
    refine lv_aload_n C.1.1 C.1.2.1 dX6_packGroups_18 rfl (lv_at hl 0 rfl) ?_
    refine lv_iload_n C.1.1 C.1.2.1 dX6_packGroups_19 rfl (lv_at hl 1 rfl) ?_
    obtain ⟨r6, M4, L5, h1, hD⟩ := g_b3 hD
    refine md_cvI (As := [.int a1]) (rest := [.ref (ad 61)]) C hw (tX6_packFirstFit l G ad fu a1 M L h1) kc_6 (by decide) tf_61 wd_1175 cwX6_packFirstFit ⟨Nat.le_of_ble_eq_true rfl, Nat.le_of_ble_eq_true rfl⟩ rfl hl.1 (Nat.le_of_ble_eq_true rfl) dX6_packGroups_20 rfl rfl ⟨Nat.zero_le _, Nat.zero_le _⟩ rfl (fun H locs hw => ?_)
    exact hb23 r6 M4 L5 _ _ ls hD hw (lv_sub hl [] rfl)
  · replace hD := g_neg c3 hD
    refine lv_aload_n C.1.1 C.1.2.1 dX6_packGroups_10 rfl (lv_at hl 0 rfl) ?_
    refine lv_iload_n C.1.1 C.1.2.1 dX6_packGroups_11 rfl (lv_at hl 1 rfl) ?_
    obtain ⟨r9, M7, L8, h1, hD⟩ := g_b3 hD
    refine md_cvI (As := [.int a1]) (rest := [.ref (ad 61)]) C hw (tX6_packBest l G ad fu a1 M L h1) kc_6 (by decide) tf_61 wd_1160 cwX6_packBest ⟨Nat.le_of_ble_eq_true rfl, Nat.le_of_ble_eq_true rfl⟩ rfl hl.1 (Nat.le_of_ble_eq_true rfl) dX6_packGroups_12 rfl rfl ⟨Nat.zero_le _, Nat.zero_le _⟩ rfl (fun H locs hw => ?_)
    refine lv_goto (tgt := 23) C.1.1 C.1.2.1 dX6_packGroups_15 (by decide) ?_
    exact hb23 r9 M7 L8 _ _ ls hD hw (lv_sub hl [] rfl)

theorem dX6_packOf_0 : decode cX6_packOf 0 = .ok (.aload_n 0, 1) := by decide +kernel
theorem dX6_packOf_1 : decode cX6_packOf 1 = .ok (.iload_n 1, 1) := by decide +kernel
theorem dX6_packOf_2 : decode cX6_packOf 2 = .ok (.iload_n 2, 1) := by decide +kernel
theorem dX6_packOf_3 : decode cX6_packOf 3 = .ok (.iconst 0, 1) := by decide +kernel
theorem dX6_packOf_4 : decode cX6_packOf 4 = .ok (.invokevirtual 76, 3) := by decide +kernel
theorem dX6_packOf_7 : decode cX6_packOf 7 = .ok (.istore_n 3, 1) := by decide +kernel
theorem dX6_packOf_8 : decode cX6_packOf 8 = .ok (.iconst 0, 1) := by decide +kernel
theorem dX6_packOf_9 : decode cX6_packOf 9 = .ok (.istore 4, 2) := by decide +kernel
theorem dX6_packOf_11 : decode cX6_packOf 11 = .ok (.iload 4, 2) := by decide +kernel
theorem dX6_packOf_13 : decode cX6_packOf 13 = .ok (.bipush 40, 2) := by decide +kernel
theorem dX6_packOf_15 : decode cX6_packOf 15 = .ok (.if_icmp .ge 44, 3) := by decide +kernel
theorem dX6_packOf_18 : decode cX6_packOf 18 = .ok (.iload_n 3, 1) := by decide +kernel
theorem dX6_packOf_19 : decode cX6_packOf 19 = .ok (.ldc 54, 2) := by decide +kernel
theorem dX6_packOf_21 : decode cX6_packOf 21 = .ok (.if_icmp .ge 38, 3) := by decide +kernel
theorem dX6_packOf_24 : decode cX6_packOf 24 = .ok (.aload_n 0, 1) := by decide +kernel
theorem dX6_packOf_25 : decode cX6_packOf 25 = .ok (.iload_n 1, 1) := by decide +kernel
theorem dX6_packOf_26 : decode cX6_packOf 26 = .ok (.iload_n 2, 1) := by decide +kernel
theorem dX6_packOf_27 : decode cX6_packOf 27 = .ok (.iload_n 3, 1) := by decide +kernel
theorem dX6_packOf_28 : decode cX6_packOf 28 = .ok (.invokevirtual 80, 3) := by decide +kernel
theorem dX6_packOf_31 : decode cX6_packOf 31 = .ok (.aload_n 0, 1) := by decide +kernel
theorem dX6_packOf_32 : decode cX6_packOf 32 = .ok (.iload_n 2, 1) := by decide +kernel
theorem dX6_packOf_33 : decode cX6_packOf 33 = .ok (.ifCond .eq 7, 3) := by decide +kernel
theorem dX6_packOf_36 : decode cX6_packOf 36 = .ok (.iconst 3, 1) := by decide +kernel
theorem dX6_packOf_37 : decode cX6_packOf 37 = .ok (.goto 5, 3) := by decide +kernel
theorem dX6_packOf_40 : decode cX6_packOf 40 = .ok (.bipush 8, 2) := by decide +kernel
theorem dX6_packOf_42 : decode cX6_packOf 42 = .ok (.invokevirtual 84, 3) := by decide +kernel
theorem dX6_packOf_45 : decode cX6_packOf 45 = .ok (.aload_n 0, 1) := by decide +kernel
theorem dX6_packOf_46 : decode cX6_packOf 46 = .ok (.iload_n 1, 1) := by decide +kernel
theorem dX6_packOf_47 : decode cX6_packOf 47 = .ok (.iload_n 2, 1) := by decide +kernel
theorem dX6_packOf_48 : decode cX6_packOf 48 = .ok (.iload_n 3, 1) := by decide +kernel
theorem dX6_packOf_49 : decode cX6_packOf 49 = .ok (.invokevirtual 76, 3) := by decide +kernel
theorem dX6_packOf_52 : decode cX6_packOf 52 = .ok (.istore_n 3, 1) := by decide +kernel
theorem dX6_packOf_53 : decode cX6_packOf 53 = .ok (.iinc 4 1, 3) := by decide +kernel
theorem dX6_packOf_56 : decode cX6_packOf 56 = .ok (.goto (-45), 3) := by decide +kernel
theorem dX6_packOf_59 : decode cX6_packOf 59 = .ok (.return_, 1) := by decide +kernel
theorem cwX6_packOf : mw_cwV yX6_packOf cX6_packOf 5 (none) 2 := ⟨⟨wd_7, wd_1140, by decide +kernel⟩, wd_1139, sl_46⟩
set_option maxHeartbeats 4000000 in
set_option maxRecDepth 100000 in
theorem tX6_packOf (l : Launch) (G : mwG) (ad : Nat → Nat) (fu : Nat) (a1 : Int32) (a2 : Int32) (M : mwM) (L : mwL) {M0 : mwM} {L0 : mwL} (hD : DX6_packOf fu a1 a2 M L = some (M0, L0)) : Met l yX6_packOf (Cond.code yX6_packOf cX6_packOf 5 (none) :: GT) ({ frames := 46, cells := 0, slots := 0, locals := 1182 }) (mw_Pre G ad NF TF FF M L [.ref (ad 61), .int a1, .int a2]) (mw_Qv G ad NF TF FF (mw_eqV M0 L0)) 0 0 (mw_fr G) := by
  refine mw_enter (by decide) (Nat.le_of_ble_eq_true rfl) ?_
  intro p e s m below meth c ls C hr hlocks hnm hw hl
  have hl : lv_has ls 5 [(0, .ref (ad 61)), (1, .int a1), (2, .int a2)] := hl
  have hb59 : ∀ (M : mwM) (L : mwL) (H : Heap) (locs : List Loc) (ls : Array Slot), fX6_packOf_b59 fu a1 a2 M L = some (M0, L0) → mw_W G ad NF TF FF M L H locs → lv_has ls 5 [] → W p l e ({ frames := 46, cells := 0, slots := 0, locals := 1182 }) s m [.ref (ad 61), .int a1, .int a2].toArray below meth c H locs 0 0 (MQ below (mw_Qv G ad NF TF FF (mw_eqV M0 L0)) [.ref (ad 61), .int a1, .int a2].toArray s 0 0 (mw_fr G)) (F0 m 59 ls []) := by
    intro M L H locs ls hD hw hl
    unfold fX6_packOf_b59 at hD
    exact mr_vret C hr hlocks hw (Option.some.inj hD) dX6_packOf_59
  have hh11 : ∀ (f : Nat) (v3 : Int32) (v4 : Int32) (M : mwM) (L : mwL) (H : Heap) (locs : List Loc) (ls : Array Slot), fX6_packOf_h11 fu a1 a2 f (v3, v4, M, L) = some (M0, L0) → mw_W G ad NF TF FF M L H locs → lv_has ls 5 [(0, .ref (ad 61)), (1, .int a1), (2, .int a2), (3, .int v3), (4, .int v4)] → W p l e ({ frames := 46, cells := 0, slots := 0, locals := 1182 }) s m [.ref (ad 61), .int a1, .int a2].toArray below meth c H locs 0 0 (MQ below (mw_Qv G ad NF TF FF (mw_eqV M0 L0)) [.ref (ad 61), .int a1, .int a2].toArray s 0 0 (mw_fr G)) (F0 m 11 ls []) := by
    intro f
    induction f with
    | zero => intro v3 v4 M L H locs ls hD; cases hD
    | succ f11 ih11 =>
      intro v3 v4 M L H locs ls hD hw hl
      replace hD : fX6_packOf_i11 fu a1 a2 (fX6_packOf_h11 fu a1 a2 f11) v3 v4 M L = some (M0, L0) := hD
      have hb42 : ∀ (v3 : Int32) (v4 : Int32) (s1 : Int32) (M : mwM) (L : mwL) (H : Heap) (locs : List Loc) (ls : Array Slot), fX6_packOf_b42 fu a1 a2 (fX6_packOf_h11 fu a1 a2 f11) v3 v4 s1 M L = some (M0, L0) → mw_W G ad NF TF FF M L H locs → lv_has ls 5 [(0, .ref (ad 61)), (1, .int a1), (2, .int a2), (3, .int v3), (4, .int v4)] → W p l e ({ frames := 46, cells := 0, slots := 0, locals := 1182 }) s m [.ref (ad 61), .int a1, .int a2].toArray below meth c H locs 0 0 (MQ below (mw_Qv G ad NF TF FF (mw_eqV M0 L0)) [.ref (ad 61), .int a1, .int a2].toArray s 0 0 (mw_fr G)) (F0 m 42 ls [.int s1, .ref (ad 61)]) := by
        intro v3 v4 s1 M L H locs ls hD hw hl
        unfold fX6_packOf_b42 at hD
        obtain ⟨M6, L7, h1, hD⟩ := g_b2 hD
        refine md_cvV (As := [.int s1]) (rest := []) C hw (tX6_packGroups l G ad fu s1 M L h1) kc_6 (by decide) tf_61 wd_1156 cwX6_packGroups ⟨Nat.le_of_ble_eq_true rfl, Nat.le_of_ble_eq_true rfl⟩ rfl hl.1 (Nat.le_of_ble_eq_true rfl) dX6_packOf_42 rfl rfl ⟨Nat.zero_le _, Nat.zero_le _⟩ rfl (fun H locs hw => ?_)
        refine lv_aload_n C.1.1 C.1.2.1 dX6_packOf_45 rfl (lv_at hl 0 rfl) ?_
        refine lv_iload_n C.1.1 C.1.2.1 dX6_packOf_46 rfl (lv_at hl 1 rfl) ?_
        refine lv_iload_n C.1.1 C.1.2.1 dX6_packOf_47 rfl (lv_at hl 2 rfl) ?_
        refine lv_iload_n C.1.1 C.1.2.1 dX6_packOf_48 rfl (lv_at hl 3 rfl) ?_
        obtain ⟨r10, M8, L9, h1, hD⟩ := g_b3 hD
        refine md_cvI (As := [.int a1, .int a2, .int v3]) (rest := []) C hw (tX6_nextPeriod l G ad fu a1 a2 v3 M6 L7 h1) kc_6 (by decide) tf_61 wd_1141 cwX6_nextPeriod ⟨Nat.le_of_ble_eq_true rfl, Nat.le_of_ble_eq_true rfl⟩ rfl hl.1 (Nat.le_of_ble_eq_true rfl) dX6_packOf_49 rfl rfl ⟨Nat.zero_le _, Nat.zero_le _⟩ rfl (fun H locs hw => ?_)
        refine lv_istore_n (lv' := [(3, .int r10), (0, .ref (ad 61)), (1, .int a1), (2, .int a2), (4, .int v4)]) C.1.1 C.1.2.1 dX6_packOf_52 rfl hl (by decide) rfl (fun ls hl => ?_)
        obtain ⟨x11, ex11, hD⟩ := g_let hD
        refine lv_iinc (v := x11) (lv' := [(4, .int x11), (3, .int r10), (0, .ref (ad 61)), (1, .int a1), (2, .int a2)]) C.1.1 C.1.2.1 dX6_packOf_53 hl (k := 4) rfl (by rw [ex11]; rfl) (by decide) rfl (fun ls hl => ?_)
        refine lv_goto (tgt := 11) C.1.1 C.1.2.1 dX6_packOf_56 (by decide) ?_
        exact ih11 r10 x11 M8 L9 _ _ ls hD hw (lv_sub hl [2, 3, 4, 1, 0] rfl)
      unfold fX6_packOf_i11 at hD
      refine lv_iload C.1.1 C.1.2.1 dX6_packOf_11 (lv_at hl 4 rfl) ?_
      refine lv_bipush (v := 40) C.1.1 C.1.2.1 dX6_packOf_13 (by decide) ?_
      refine lv_icmp_ge (tgt := 59) C.1.1 C.1.2.1 dX6_packOf_15 (by decide) (fun c1 => ?_) (fun c1 => ?_)
      · replace hD := g_pos c1 hD
        exact hb59 M L _ _ ls hD hw (lv_sub hl [] rfl)
      · replace hD := g_neg c1 hD
        refine lv_iload_n C.1.1 C.1.2.1 dX6_packOf_18 rfl (lv_at hl 3 rfl) ?_
        refine lv_ldc (v := 1000000) C.1.1 C.1.2.1 C.1.2.2.2.1 (C.1.2.2.2.2 _ wd_809) dX6_packOf_19 ?_
        refine lv_icmp_ge (tgt := 59) C.1.1 C.1.2.1 dX6_packOf_21 (by decide) (fun c2 => ?_) (fun c2 => ?_)
        · replace hD := g_pos c2 hD
          exact hb59 M L _ _ ls hD hw (lv_sub hl [] rfl)
        · replace hD := g_neg c2 hD
          refine lv_aload_n C.1.1 C.1.2.1 dX6_packOf_24 rfl (lv_at hl 0 rfl) ?_
          refine lv_iload_n C.1.1 C.1.2.1 dX6_packOf_25 rfl (lv_at hl 1 rfl) ?_
          refine lv_iload_n C.1.1 C.1.2.1 dX6_packOf_26 rfl (lv_at hl 2 rfl) ?_
          refine lv_iload_n C.1.1 C.1.2.1 dX6_packOf_27 rfl (lv_at hl 3 rfl) ?_
          obtain ⟨M3, L4, h1, hD⟩ := g_b2 hD
          refine md_cvV (As := [.int a1, .int a2, .int v3]) (rest := []) C hw (tX6_collectGroups l G ad fu a1 a2 v3 M L h1) kc_6 (by decide) tf_61 wd_1152 cwX6_collectGroups ⟨Nat.le_of_ble_eq_true rfl, Nat.le_of_ble_eq_true rfl⟩ rfl hl.1 (Nat.le_of_ble_eq_true rfl) dX6_packOf_28 rfl rfl ⟨Nat.zero_le _, Nat.zero_le _⟩ rfl (fun H locs hw => ?_)
          refine lv_aload_n C.1.1 C.1.2.1 dX6_packOf_31 rfl (lv_at hl 0 rfl) ?_
          refine lv_iload_n C.1.1 C.1.2.1 dX6_packOf_32 rfl (lv_at hl 2 rfl) ?_
          refine lv_if_eq (tgt := 40) C.1.1 C.1.2.1 dX6_packOf_33 (by decide) (fun c5 => ?_) (fun c5 => ?_)
          · replace hD := g_pos c5 hD
            refine lv_bipush (v := 8) C.1.1 C.1.2.1 dX6_packOf_40 (by decide) ?_
            exact hb42 v3 v4 8 M3 L4 _ _ ls hD hw (lv_sub hl [0, 1, 2, 3, 4] rfl)
          · replace hD := g_neg c5 hD
            refine lv_iconst (v := 3) C.1.1 C.1.2.1 dX6_packOf_36 (by decide) ?_
            refine lv_goto (tgt := 42) C.1.1 C.1.2.1 dX6_packOf_37 (by decide) ?_
            exact hb42 v3 v4 3 M3 L4 _ _ ls hD hw (lv_sub hl [0, 1, 2, 3, 4] rfl)
  unfold DX6_packOf at hD
  refine lv_aload_n C.1.1 C.1.2.1 dX6_packOf_0 rfl (lv_at hl 0 rfl) ?_
  refine lv_iload_n C.1.1 C.1.2.1 dX6_packOf_1 rfl (lv_at hl 1 rfl) ?_
  refine lv_iload_n C.1.1 C.1.2.1 dX6_packOf_2 rfl (lv_at hl 2 rfl) ?_
  refine lv_iconst (v := 0) C.1.1 C.1.2.1 dX6_packOf_3 (by decide) ?_
  obtain ⟨r14, M12, L13, h1, hD⟩ := g_b3 hD
  refine md_cvI (As := [.int a1, .int a2, .int 0]) (rest := []) C hw (tX6_nextPeriod l G ad fu a1 a2 0 M L h1) kc_6 (by decide) tf_61 wd_1141 cwX6_nextPeriod ⟨Nat.le_of_ble_eq_true rfl, Nat.le_of_ble_eq_true rfl⟩ rfl hl.1 (Nat.le_of_ble_eq_true rfl) dX6_packOf_4 rfl rfl ⟨Nat.zero_le _, Nat.zero_le _⟩ rfl (fun H locs hw => ?_)
  refine lv_istore_n (lv' := [(3, .int r14), (0, .ref (ad 61)), (1, .int a1), (2, .int a2)]) C.1.1 C.1.2.1 dX6_packOf_7 rfl hl (by decide) rfl (fun ls hl => ?_)
  refine lv_iconst (v := 0) C.1.1 C.1.2.1 dX6_packOf_8 (by decide) ?_
  refine lv_istore (lv' := [(4, .int 0), (3, .int r14), (0, .ref (ad 61)), (1, .int a1), (2, .int a2)]) C.1.1 C.1.2.1 dX6_packOf_9 hl (by decide) rfl (fun ls hl => ?_)
  exact hh11 fu r14 0 M12 L13 _ _ ls hD hw (lv_sub hl [2, 3, 4, 1, 0] rfl)
