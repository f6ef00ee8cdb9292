theorem dX10_clear_0 : decode cX10_clear 0 = .ok (.aload_n 0, 1) := by decide +kernel
theorem dX10_clear_1 : decode cX10_clear 1 = .ok (.iconst 0, 1) := by decide +kernel
theorem dX10_clear_2 : decode cX10_clear 2 = .ok (.putfield 20, 3) := by decide +kernel
theorem dX10_clear_5 : decode cX10_clear 5 = .ok (.aload_n 0, 1) := by decide +kernel
theorem dX10_clear_6 : decode cX10_clear 6 = .ok (.iconst 0, 1) := by decide +kernel
theorem dX10_clear_7 : decode cX10_clear 7 = .ok (.putfield 24, 3) := by decide +kernel
theorem dX10_clear_10 : decode cX10_clear 10 = .ok (.aload_n 0, 1) := by decide +kernel
theorem dX10_clear_11 : decode cX10_clear 11 = .ok (.iconst 0, 1) := by decide +kernel
theorem dX10_clear_12 : decode cX10_clear 12 = .ok (.putfield 27, 3) := by decide +kernel
theorem dX10_clear_15 : decode cX10_clear 15 = .ok (.aload_n 0, 1) := by decide +kernel
theorem dX10_clear_16 : decode cX10_clear 16 = .ok (.iconst 0, 1) := by decide +kernel
theorem dX10_clear_17 : decode cX10_clear 17 = .ok (.putfield 30, 3) := by decide +kernel
theorem dX10_clear_20 : decode cX10_clear 20 = .ok (.return_, 1) := by decide +kernel
theorem cwX10_clear : mw_cwV yX10_clear cX10_clear 1 (none) 0 := ⟨⟨wd_9, wd_813, by decide +kernel⟩, wd_811, wd_812⟩
set_option maxHeartbeats 4000000 in
set_option maxRecDepth 100000 in
theorem tX10_clear (l : Launch) (G : mwG) (ad : Nat → Nat) (fu : Nat) (M : mwM) (L : mwL) {M0 : mwM} {L0 : mwL} (hD : DX10_clear fu M L = some (M0, L0)) : Met l yX10_clear (Cond.code yX10_clear cX10_clear 1 (none) :: GT) ({ frames := 0, cells := 0, slots := 0, locals := 0 }) (mw_Pre G ad NF TF FF M L [.ref (ad 139)]) (mw_Qv G ad NF TF FF (mw_eqV M0 L0)) 0 0 (mw_fr G) := by
  refine mw_enter (by decide) (Nat.le_of_ble_eq_true rfl) ?_
  intro p e s m below meth c ls C hr hlocks hnm hw hl
  have hl : lv_has ls 1 [(0, .ref (ad 139))] := hl
  unfold DX10_clear at hD
  refine lv_aload_n C.1.1 C.1.2.1 dX10_clear_0 rfl (lv_at hl 0 rfl) ?_
  refine lv_iconst (v := 0) C.1.1 C.1.2.1 dX10_clear_1 (by decide) ?_
  obtain ⟨M1, eM1, hD⟩ := g_let hD
  refine mr_putI C hw kc_10 2 (by decide) tf_139 wd_331 dX10_clear_2 (by decide) rfl rfl rfl rfl (fun H locs hw => ?_)
  replace hw : mw_W G ad NF TF FF M1 L H locs := by rw [eM1]; exact hw
  refine lv_aload_n C.1.1 C.1.2.1 dX10_clear_5 rfl (lv_at hl 0 rfl) ?_
  refine lv_iconst (v := 0) C.1.1 C.1.2.1 dX10_clear_6 (by decide) ?_
  obtain ⟨M2, eM2, hD⟩ := g_let hD
  refine mr_putI C hw kc_10 3 (by decide) tf_139 wd_334 dX10_clear_7 (by decide) rfl rfl rfl rfl (fun H locs hw => ?_)
  replace hw : mw_W G ad NF TF FF M2 L H locs := by rw [eM2]; exact hw
  refine lv_aload_n C.1.1 C.1.2.1 dX10_clear_10 rfl (lv_at hl 0 rfl) ?_
  refine lv_iconst (v := 0) C.1.1 C.1.2.1 dX10_clear_11 (by decide) ?_
  obtain ⟨M3, eM3, hD⟩ := g_let hD
  refine mr_putI C hw kc_10 4 (by decide) tf_139 wd_336 dX10_clear_12 (by decide) rfl rfl rfl rfl (fun H locs hw => ?_)
  replace hw : mw_W G ad NF TF FF M3 L H locs := by rw [eM3]; exact hw
  refine lv_aload_n C.1.1 C.1.2.1 dX10_clear_15 rfl (lv_at hl 0 rfl) ?_
  refine lv_iconst (v := 0) C.1.1 C.1.2.1 dX10_clear_16 (by decide) ?_
  obtain ⟨M4, eM4, hD⟩ := g_let hD
  refine mr_putI C hw kc_10 5 (by decide) tf_139 wd_337 dX10_clear_17 (by decide) rfl rfl rfl rfl (fun H locs hw => ?_)
  replace hw : mw_W G ad NF TF FF M4 L H locs := by rw [eM4]; exact hw
  exact mr_vret C hr hlocks hw (Option.some.inj hD) dX10_clear_20

theorem dX10_forget_0 : decode cX10_forget 0 = .ok (.aload_n 0, 1) := by decide +kernel
theorem dX10_forget_1 : decode cX10_forget 1 = .ok (.getfield 11, 3) := by decide +kernel
theorem dX10_forget_4 : decode cX10_forget 4 = .ok (.iconst 5, 1) := by decide +kernel
theorem dX10_forget_5 : decode cX10_forget 5 = .ok (.aaload, 1) := by decide +kernel
theorem dX10_forget_6 : decode cX10_forget 6 = .ok (.iload_n 1, 1) := by decide +kernel
theorem dX10_forget_7 : decode cX10_forget 7 = .ok (.bipush 80, 2) := by decide +kernel
theorem dX10_forget_9 : decode cX10_forget 9 = .ok (.iastore, 1) := by decide +kernel
theorem dX10_forget_10 : decode cX10_forget 10 = .ok (.aload_n 0, 1) := by decide +kernel
theorem dX10_forget_11 : decode cX10_forget 11 = .ok (.getfield 11, 3) := by decide +kernel
theorem dX10_forget_14 : decode cX10_forget 14 = .ok (.bipush 6, 2) := by decide +kernel
theorem dX10_forget_16 : decode cX10_forget 16 = .ok (.aaload, 1) := by decide +kernel
theorem dX10_forget_17 : decode cX10_forget 17 = .ok (.iload_n 1, 1) := by decide +kernel
theorem dX10_forget_18 : decode cX10_forget 18 = .ok (.iconst 0, 1) := by decide +kernel
theorem dX10_forget_19 : decode cX10_forget 19 = .ok (.iastore, 1) := by decide +kernel
theorem dX10_forget_20 : decode cX10_forget 20 = .ok (.aload_n 0, 1) := by decide +kernel
theorem dX10_forget_21 : decode cX10_forget 21 = .ok (.getfield 11, 3) := by decide +kernel
theorem dX10_forget_24 : decode cX10_forget 24 = .ok (.bipush 7, 2) := by decide +kernel
theorem dX10_forget_26 : decode cX10_forget 26 = .ok (.aaload, 1) := by decide +kernel
theorem dX10_forget_27 : decode cX10_forget 27 = .ok (.iload_n 1, 1) := by decide +kernel
theorem dX10_forget_28 : decode cX10_forget 28 = .ok (.iconst 0, 1) := by decide +kernel
theorem dX10_forget_29 : decode cX10_forget 29 = .ok (.iastore, 1) := by decide +kernel
theorem dX10_forget_30 : decode cX10_forget 30 = .ok (.aload_n 0, 1) := by decide +kernel
theorem dX10_forget_31 : decode cX10_forget 31 = .ok (.getfield 11, 3) := by decide +kernel
theorem dX10_forget_34 : decode cX10_forget 34 = .ok (.bipush 8, 2) := by decide +kernel
theorem dX10_forget_36 : decode cX10_forget 36 = .ok (.aaload, 1) := by decide +kernel
theorem dX10_forget_37 : decode cX10_forget 37 = .ok (.iload_n 1, 1) := by decide +kernel
theorem dX10_forget_38 : decode cX10_forget 38 = .ok (.iconst 0, 1) := by decide +kernel
theorem dX10_forget_39 : decode cX10_forget 39 = .ok (.iastore, 1) := by decide +kernel
theorem dX10_forget_40 : decode cX10_forget 40 = .ok (.aload_n 0, 1) := by decide +kernel
theorem dX10_forget_41 : decode cX10_forget 41 = .ok (.getfield 11, 3) := by decide +kernel
theorem dX10_forget_44 : decode cX10_forget 44 = .ok (.bipush 9, 2) := by decide +kernel
theorem dX10_forget_46 : decode cX10_forget 46 = .ok (.aaload, 1) := by decide +kernel
theorem dX10_forget_47 : decode cX10_forget 47 = .ok (.iload_n 1, 1) := by decide +kernel
theorem dX10_forget_48 : decode cX10_forget 48 = .ok (.iconst 0, 1) := by decide +kernel
theorem dX10_forget_49 : decode cX10_forget 49 = .ok (.iastore, 1) := by decide +kernel
theorem dX10_forget_50 : decode cX10_forget 50 = .ok (.return_, 1) := by decide +kernel
theorem cwX10_forget : mw_cwV yX10_forget cX10_forget 2 (none) 1 := ⟨⟨wd_9, wd_1115, by decide +kernel⟩, wd_1114, sl_43⟩
set_option maxHeartbeats 4000000 in
set_option maxRecDepth 100000 in
theorem tX10_forget (l : Launch) (G : mwG) (ad : Nat → Nat) (fu : Nat) (a1 : Int32) (M : mwM) (L : mwL) {M0 : mwM} {L0 : mwL} (hD : DX10_forget fu a1 M L = some (M0, L0)) : Met l yX10_forget (Cond.code yX10_forget cX10_forget 2 (none) :: GT) ({ frames := 0, cells := 0, slots := 0, locals := 0 }) (mw_Pre G ad NF TF FF M L [.ref (ad 139), .int a1]) (mw_Qv G ad NF TF FF (mw_eqV M0 L0)) 0 0 (mw_fr G) := by
  refine mw_enter (by decide) (Nat.le_of_ble_eq_true rfl) ?_
  intro p e s m below meth c ls C hr hlocks hnm hw hl
  have hl : lv_has ls 2 [(0, .ref (ad 139)), (1, .int a1)] := hl
  unfold DX10_forget at hD
  refine lv_aload_n C.1.1 C.1.2.1 dX10_forget_0 rfl (lv_at hl 0 rfl) ?_
  refine mr_getR C hw kc_10 0 (by decide) tf_139 ff_139_0 wd_328 dX10_forget_1 (by decide) rfl ?_
  refine lv_iconst (v := 5) C.1.1 C.1.2.1 dX10_forget_4 (by decide) ?_
  refine mr_aald C hw (by decide) tf_140 (by decide) (by decide) rfl rfl (show vp_in 5 12 from by unfold vp_in; decide) ff_140_5 dX10_forget_5 ?_
  refine lv_iload_n C.1.1 C.1.2.1 dX10_forget_6 rfl (lv_at hl 1 rfl) ?_
  refine lv_bipush (v := 80) C.1.1 C.1.2.1 dX10_forget_7 (by decide) ?_
  obtain ⟨q2, hD⟩ := g_ck hD
  obtain ⟨M3, eM3, hD⟩ := g_let hD
  refine mr_iast C hw (by decide) tf_146 q2 dX10_forget_9 (fun H locs hw => ?_)
  replace hw : mw_W G ad NF TF FF M3 L H locs := by rw [eM3]; exact hw
  refine lv_aload_n C.1.1 C.1.2.1 dX10_forget_10 rfl (lv_at hl 0 rfl) ?_
  refine mr_getR C hw kc_10 0 (by decide) tf_139 ff_139_0 wd_328 dX10_forget_11 (by decide) rfl ?_
  refine lv_bipush (v := 6) C.1.1 C.1.2.1 dX10_forget_14 (by decide) ?_
  refine mr_aald C hw (by decide) tf_140 (by decide) (by decide) rfl rfl (show vp_in 6 12 from by unfold vp_in; decide) ff_140_6 dX10_forget_16 ?_
  refine lv_iload_n C.1.1 C.1.2.1 dX10_forget_17 rfl (lv_at hl 1 rfl) ?_
  refine lv_iconst (v := 0) C.1.1 C.1.2.1 dX10_forget_18 (by decide) ?_
  obtain ⟨q5, hD⟩ := g_ck hD
  obtain ⟨M6, eM6, hD⟩ := g_let hD
  refine mr_iast C hw (by decide) tf_147 q5 dX10_forget_19 (fun H locs hw => ?_)
  replace hw : mw_W G ad NF TF FF M6 L H locs := by rw [eM6]; exact hw
  refine lv_aload_n C.1.1 C.1.2.1 dX10_forget_20 rfl (lv_at hl 0 rfl) ?_
  refine mr_getR C hw kc_10 0 (by decide) tf_139 ff_139_0 wd_328 dX10_forget_21 (by decide) rfl ?_
  refine lv_bipush (v := 7) C.1.1 C.1.2.1 dX10_forget_24 (by decide) ?_
  refine mr_aald C hw (by decide) tf_140 (by decide) (by decide) rfl rfl (show vp_in 7 12 from by unfold vp_in; decide) ff_140_7 dX10_forget_26 ?_
  refine lv_iload_n C.1.1 C.1.2.1 dX10_forget_27 rfl (lv_at hl 1 rfl) ?_
  refine lv_iconst (v := 0) C.1.1 C.1.2.1 dX10_forget_28 (by decide) ?_
  obtain ⟨q8, hD⟩ := g_ck hD
  obtain ⟨M9, eM9, hD⟩ := g_let hD
  refine mr_iast C hw (by decide) tf_148 q8 dX10_forget_29 (fun H locs hw => ?_)
  replace hw : mw_W G ad NF TF FF M9 L H locs := by rw [eM9]; exact hw
  refine lv_aload_n C.1.1 C.1.2.1 dX10_forget_30 rfl (lv_at hl 0 rfl) ?_
  refine mr_getR C hw kc_10 0 (by decide) tf_139 ff_139_0 wd_328 dX10_forget_31 (by decide) rfl ?_
  refine lv_bipush (v := 8) C.1.1 C.1.2.1 dX10_forget_34 (by decide) ?_
  refine mr_aald C hw (by decide) tf_140 (by decide) (by decide) rfl rfl (show vp_in 8 12 from by unfold vp_in; decide) ff_140_8 dX10_forget_36 ?_
  refine lv_iload_n C.1.1 C.1.2.1 dX10_forget_37 rfl (lv_at hl 1 rfl) ?_
  refine lv_iconst (v := 0) C.1.1 C.1.2.1 dX10_forget_38 (by decide) ?_
  obtain ⟨q11, hD⟩ := g_ck hD
  obtain ⟨M12, eM12, hD⟩ := g_let hD
  refine mr_iast C hw (by decide) tf_149 q11 dX10_forget_39 (fun H locs hw => ?_)
  replace hw : mw_W G ad NF TF FF M12 L H locs := by rw [eM12]; exact hw
  refine lv_aload_n C.1.1 C.1.2.1 dX10_forget_40 rfl (lv_at hl 0 rfl) ?_
  refine mr_getR C hw kc_10 0 (by decide) tf_139 ff_139_0 wd_328 dX10_forget_41 (by decide) rfl ?_
  refine lv_bipush (v := 9) C.1.1 C.1.2.1 dX10_forget_44 (by decide) ?_
  refine mr_aald C hw (by decide) tf_140 (by decide) (by decide) rfl rfl (show vp_in 9 12 from by unfold vp_in; decide) ff_140_9 dX10_forget_46 ?_
  refine lv_iload_n C.1.1 C.1.2.1 dX10_forget_47 rfl (lv_at hl 1 rfl) ?_
  refine lv_iconst (v := 0) C.1.1 C.1.2.1 dX10_forget_48 (by decide) ?_
  obtain ⟨q14, hD⟩ := g_ck hD
  obtain ⟨M15, eM15, hD⟩ := g_let hD
  refine mr_iast C hw (by decide) tf_150 q14 dX10_forget_49 (fun H locs hw => ?_)
  replace hw : mw_W G ad NF TF FF M15 L H locs := by rw [eM15]; exact hw
  exact mr_vret C hr hlocks hw (Option.some.inj hD) dX10_forget_50

theorem dX10_addWatch_0 : decode cX10_addWatch 0 = .ok (.aload_n 0, 1) := by decide +kernel
theorem dX10_addWatch_1 : decode cX10_addWatch 1 = .ok (.getfield 20, 3) := by decide +kernel
theorem dX10_addWatch_4 : decode cX10_addWatch 4 = .ok (.bipush 30, 2) := by decide +kernel
theorem dX10_addWatch_6 : decode cX10_addWatch 6 = .ok (.if_icmp .lt 6, 3) := by decide +kernel
theorem dX10_addWatch_9 : decode cX10_addWatch 9 = .ok (.bipush (-4), 2) := by decide +kernel
theorem dX10_addWatch_11 : decode cX10_addWatch 11 = .ok (.ireturn, 1) := by decide +kernel
theorem dX10_addWatch_12 : decode cX10_addWatch 12 = .ok (.aload_n 0, 1) := by decide +kernel
theorem dX10_addWatch_13 : decode cX10_addWatch 13 = .ok (.getfield 11, 3) := by decide +kernel
theorem dX10_addWatch_16 : decode cX10_addWatch 16 = .ok (.iconst 0, 1) := by decide +kernel
theorem dX10_addWatch_17 : decode cX10_addWatch 17 = .ok (.aaload, 1) := by decide +kernel
theorem dX10_addWatch_18 : decode cX10_addWatch 18 = .ok (.aload_n 0, 1) := by decide +kernel
theorem dX10_addWatch_19 : decode cX10_addWatch 19 = .ok (.getfield 20, 3) := by decide +kernel
theorem dX10_addWatch_22 : decode cX10_addWatch 22 = .ok (.iload_n 1, 1) := by decide +kernel
theorem dX10_addWatch_23 : decode cX10_addWatch 23 = .ok (.iastore, 1) := by decide +kernel
theorem dX10_addWatch_24 : decode cX10_addWatch 24 = .ok (.aload_n 0, 1) := by decide +kernel
theorem dX10_addWatch_25 : decode cX10_addWatch 25 = .ok (.getfield 11, 3) := by decide +kernel
theorem dX10_addWatch_28 : decode cX10_addWatch 28 = .ok (.iconst 1, 1) := by decide +kernel
theorem dX10_addWatch_29 : decode cX10_addWatch 29 = .ok (.aaload, 1) := by decide +kernel
theorem dX10_addWatch_30 : decode cX10_addWatch 30 = .ok (.aload_n 0, 1) := by decide +kernel
theorem dX10_addWatch_31 : decode cX10_addWatch 31 = .ok (.getfield 20, 3) := by decide +kernel
theorem dX10_addWatch_34 : decode cX10_addWatch 34 = .ok (.iload_n 2, 1) := by decide +kernel
theorem dX10_addWatch_35 : decode cX10_addWatch 35 = .ok (.iastore, 1) := by decide +kernel
theorem dX10_addWatch_36 : decode cX10_addWatch 36 = .ok (.aload_n 0, 1) := by decide +kernel
theorem dX10_addWatch_37 : decode cX10_addWatch 37 = .ok (.getfield 11, 3) := by decide +kernel
theorem dX10_addWatch_40 : decode cX10_addWatch 40 = .ok (.iconst 4, 1) := by decide +kernel
theorem dX10_addWatch_41 : decode cX10_addWatch 41 = .ok (.aaload, 1) := by decide +kernel
theorem dX10_addWatch_42 : decode cX10_addWatch 42 = .ok (.aload_n 0, 1) := by decide +kernel
theorem dX10_addWatch_43 : decode cX10_addWatch 43 = .ok (.getfield 20, 3) := by decide +kernel
theorem dX10_addWatch_46 : decode cX10_addWatch 46 = .ok (.iload_n 3, 1) := by decide +kernel
theorem dX10_addWatch_47 : decode cX10_addWatch 47 = .ok (.iastore, 1) := by decide +kernel
theorem dX10_addWatch_48 : decode cX10_addWatch 48 = .ok (.aload_n 0, 1) := by decide +kernel
theorem dX10_addWatch_49 : decode cX10_addWatch 49 = .ok (.getfield 11, 3) := by decide +kernel
theorem dX10_addWatch_52 : decode cX10_addWatch 52 = .ok (.iconst 2, 1) := by decide +kernel
theorem dX10_addWatch_53 : decode cX10_addWatch 53 = .ok (.aaload, 1) := by decide +kernel
theorem dX10_addWatch_54 : decode cX10_addWatch 54 = .ok (.aload_n 0, 1) := by decide +kernel
theorem dX10_addWatch_55 : decode cX10_addWatch 55 = .ok (.getfield 20, 3) := by decide +kernel
theorem dX10_addWatch_58 : decode cX10_addWatch 58 = .ok (.iload 4, 2) := by decide +kernel
theorem dX10_addWatch_60 : decode cX10_addWatch 60 = .ok (.iastore, 1) := by decide +kernel
theorem dX10_addWatch_61 : decode cX10_addWatch 61 = .ok (.aload_n 0, 1) := by decide +kernel
theorem dX10_addWatch_62 : decode cX10_addWatch 62 = .ok (.getfield 11, 3) := by decide +kernel
theorem dX10_addWatch_65 : decode cX10_addWatch 65 = .ok (.iconst 3, 1) := by decide +kernel
theorem dX10_addWatch_66 : decode cX10_addWatch 66 = .ok (.aaload, 1) := by decide +kernel
theorem dX10_addWatch_67 : decode cX10_addWatch 67 = .ok (.aload_n 0, 1) := by decide +kernel
theorem dX10_addWatch_68 : decode cX10_addWatch 68 = .ok (.getfield 20, 3) := by decide +kernel
theorem dX10_addWatch_71 : decode cX10_addWatch 71 = .ok (.iconst 0, 1) := by decide +kernel
theorem dX10_addWatch_72 : decode cX10_addWatch 72 = .ok (.iastore, 1) := by decide +kernel
theorem dX10_addWatch_73 : decode cX10_addWatch 73 = .ok (.aload_n 0, 1) := by decide +kernel
theorem dX10_addWatch_74 : decode cX10_addWatch 74 = .ok (.aload_n 0, 1) := by decide +kernel
theorem dX10_addWatch_75 : decode cX10_addWatch 75 = .ok (.getfield 20, 3) := by decide +kernel
theorem dX10_addWatch_78 : decode cX10_addWatch 78 = .ok (.invokevirtual 33, 3) := by decide +kernel
theorem dX10_addWatch_81 : decode cX10_addWatch 81 = .ok (.aload_n 0, 1) := by decide +kernel
theorem dX10_addWatch_82 : decode cX10_addWatch 82 = .ok (.dup, 1) := by decide +kernel
theorem dX10_addWatch_83 : decode cX10_addWatch 83 = .ok (.getfield 20, 3) := by decide +kernel
theorem dX10_addWatch_86 : decode cX10_addWatch 86 = .ok (.iconst 1, 1) := by decide +kernel
theorem dX10_addWatch_87 : decode cX10_addWatch 87 = .ok (.iadd, 1) := by decide +kernel
theorem dX10_addWatch_88 : decode cX10_addWatch 88 = .ok (.putfield 20, 3) := by decide +kernel
theorem dX10_addWatch_91 : decode cX10_addWatch 91 = .ok (.aload_n 0, 1) := by decide +kernel
theorem dX10_addWatch_92 : decode cX10_addWatch 92 = .ok (.getfield 20, 3) := by decide +kernel
theorem dX10_addWatch_95 : decode cX10_addWatch 95 = .ok (.ireturn, 1) := by decide +kernel
theorem cwX10_addWatch : mw_cwV yX10_addWatch cX10_addWatch 5 ((some .int)) 4 := ⟨⟨wd_9, wd_1111, by decide +kernel⟩, wd_1109, wd_1110⟩
set_option maxHeartbeats 4000000 in
set_option maxRecDepth 100000 in
theorem tX10_addWatch (l : Launch) (G : mwG) (ad : Nat → Nat) (fu : Nat) (a1 : Int32) (a2 : Int32) (a3 : Int32) (a4 : Int32) (M : mwM) (L : mwL) {r0 : Int32} {M0 : mwM} {L0 : mwL} (hD : DX10_addWatch fu a1 a2 a3 a4 M L = some (r0, M0, L0)) : Met l yX10_addWatch (Cond.code yX10_addWatch cX10_addWatch 5 ((some .int)) :: GT) ({ frames := 1, cells := 0, slots := 0, locals := 21 }) (mw_Pre G ad NF TF FF M L [.ref (ad 139), .int a1, .int a2, .int a3, .int a4]) (mw_Qi G ad NF TF FF (mw_eqI r0 M0 L0)) 0 0 (mw_fr G) := by
  refine mw_enter (by decide) (Nat.le_of_ble_eq_true rfl) ?_
  intro p e s m below meth c ls C hr hlocks hnm hw hl
  have hl : lv_has ls 5 [(0, .ref (ad 139)), (1, .int a1), (2, .int a2), (3, .int a3), (4, .int a4)] := hl
  unfold DX10_addWatch at hD
  refine lv_aload_n C.1.1 C.1.2.1 dX10_addWatch_0 rfl (lv_at hl 0 rfl) ?_
  refine mr_getI C hw kc_10 2 (by decide) tf_139 wd_331 dX10_addWatch_1 (by decide) rfl ?_
  refine lv_bipush (v := 30) C.1.1 C.1.2.1 dX10_addWatch_4 (by decide) ?_
  refine lv_icmp_lt (tgt := 12) C.1.1 C.1.2.1 dX10_addWatch_6 (by decide) (fun c1 => ?_) (fun c1 => ?_)
  · replace hD := g_pos c1 hD
    refine lv_aload_n C.1.1 C.1.2.1 dX10_addWatch_12 rfl (lv_at hl 0 rfl) ?_
    refine mr_getR C hw kc_10 0 (by decide) tf_139 ff_139_0 wd_328 dX10_addWatch_13 (by decide) rfl ?_
    refine lv_iconst (v := 0) C.1.1 C.1.2.1 dX10_addWatch_16 (by decide) ?_
    refine mr_aald C hw (by decide) tf_140 (by decide) (by decide) rfl rfl (show vp_in 0 12 from by unfold vp_in; decide) ff_140_0 dX10_addWatch_17 ?_
    refine lv_aload_n C.1.1 C.1.2.1 dX10_addWatch_18 rfl (lv_at hl 0 rfl) ?_
    refine mr_getI C hw kc_10 2 (by decide) tf_139 wd_331 dX10_addWatch_19 (by decide) rfl ?_
    refine lv_iload_n C.1.1 C.1.2.1 dX10_addWatch_22 rfl (lv_at hl 1 rfl) ?_
    obtain ⟨q3, hD⟩ := g_ck hD
    obtain ⟨M4, eM4, hD⟩ := g_let hD
    refine mr_iast C hw (by decide) tf_141 q3 dX10_addWatch_23 (fun H locs hw => ?_)
    replace hw : mw_W G ad NF TF FF M4 L H locs := by rw [eM4]; exact hw
    refine lv_aload_n C.1.1 C.1.2.1 dX10_addWatch_24 rfl (lv_at hl 0 rfl) ?_
    refine mr_getR C hw kc_10 0 (by decide) tf_139 ff_139_0 wd_328 dX10_addWatch_25 (by decide) rfl ?_
    refine lv_iconst (v := 1) C.1.1 C.1.2.1 dX10_addWatch_28 (by decide) ?_
    refine mr_aald C hw (by decide) tf_140 (by decide) (by decide) rfl rfl (show vp_in 1 12 from by unfold vp_in; decide) ff_140_1 dX10_addWatch_29 ?_
    refine lv_aload_n C.1.1 C.1.2.1 dX10_addWatch_30 rfl (lv_at hl 0 rfl) ?_
    refine mr_getI C hw kc_10 2 (by decide) tf_139 wd_331 dX10_addWatch_31 (by decide) rfl ?_
    refine lv_iload_n C.1.1 C.1.2.1 dX10_addWatch_34 rfl (lv_at hl 2 rfl) ?_
    obtain ⟨q6, hD⟩ := g_ck hD
    obtain ⟨M7, eM7, hD⟩ := g_let hD
    refine mr_iast C hw (by decide) tf_142 q6 dX10_addWatch_35 (fun H locs hw => ?_)
    replace hw : mw_W G ad NF TF FF M7 L H locs := by rw [eM7]; exact hw
    refine lv_aload_n C.1.1 C.1.2.1 dX10_addWatch_36 rfl (lv_at hl 0 rfl) ?_
    refine mr_getR C hw kc_10 0 (by decide) tf_139 ff_139_0 wd_328 dX10_addWatch_37 (by decide) rfl ?_
    refine lv_iconst (v := 4) C.1.1 C.1.2.1 dX10_addWatch_40 (by decide) ?_
    refine mr_aald C hw (by decide) tf_140 (by decide) (by decide) rfl rfl (show vp_in 4 12 from by unfold vp_in; decide) ff_140_4 dX10_addWatch_41 ?_
    refine lv_aload_n C.1.1 C.1.2.1 dX10_addWatch_42 rfl (lv_at hl 0 rfl) ?_
    refine mr_getI C hw kc_10 2 (by decide) tf_139 wd_331 dX10_addWatch_43 (by decide) rfl ?_
    refine lv_iload_n C.1.1 C.1.2.1 dX10_addWatch_46 rfl (lv_at hl 3 rfl) ?_
    obtain ⟨q9, hD⟩ := g_ck hD
    obtain ⟨M10, eM10, hD⟩ := g_let hD
    refine mr_iast C hw (by decide) tf_145 q9 dX10_addWatch_47 (fun H locs hw => ?_)
    replace hw : mw_W G ad NF TF FF M10 L H locs := by rw [eM10]; exact hw
    refine lv_aload_n C.1.1 C.1.2.1 dX10_addWatch_48 rfl (lv_at hl 0 rfl) ?_
    refine mr_getR C hw kc_10 0 (by decide) tf_139 ff_139_0 wd_328 dX10_addWatch_49 (by decide) rfl ?_
    refine lv_iconst (v := 2) C.1.1 C.1.2.1 dX10_addWatch_52 (by decide) ?_
    refine mr_aald C hw (by decide) tf_140 (by decide) (by decide) rfl rfl (show vp_in 2 12 from by unfold vp_in; decide) ff_140_2 dX10_addWatch_53 ?_
    refine lv_aload_n C.1.1 C.1.2.1 dX10_addWatch_54 rfl (lv_at hl 0 rfl) ?_
    refine mr_getI C hw kc_10 2 (by decide) tf_139 wd_331 dX10_addWatch_55 (by decide) rfl ?_
    refine lv_iload C.1.1 C.1.2.1 dX10_addWatch_58 (lv_at hl 4 rfl) ?_
    obtain ⟨q12, hD⟩ := g_ck hD
    obtain ⟨M13, eM13, hD⟩ := g_let hD
    refine mr_iast C hw (by decide) tf_143 q12 dX10_addWatch_60 (fun H locs hw => ?_)
    replace hw : mw_W G ad NF TF FF M13 L H locs := by rw [eM13]; exact hw
    refine lv_aload_n C.1.1 C.1.2.1 dX10_addWatch_61 rfl (lv_at hl 0 rfl) ?_
    refine mr_getR C hw kc_10 0 (by decide) tf_139 ff_139_0 wd_328 dX10_addWatch_62 (by decide) rfl ?_
    refine lv_iconst (v := 3) C.1.1 C.1.2.1 dX10_addWatch_65 (by decide) ?_
    refine mr_aald C hw (by decide) tf_140 (by decide) (by decide) rfl rfl (show vp_in 3 12 from by unfold vp_in; decide) ff_140_3 dX10_addWatch_66 ?_
    refine lv_aload_n C.1.1 C.1.2.1 dX10_addWatch_67 rfl (lv_at hl 0 rfl) ?_
    refine mr_getI C hw kc_10 2 (by decide) tf_139 wd_331 dX10_addWatch_68 (by decide) rfl ?_
    refine lv_iconst (v := 0) C.1.1 C.1.2.1 dX10_addWatch_71 (by decide) ?_
    obtain ⟨q15, hD⟩ := g_ck hD
    obtain ⟨M16, eM16, hD⟩ := g_let hD
    refine mr_iast C hw (by decide) tf_144 q15 dX10_addWatch_72 (fun H locs hw => ?_)
    replace hw : mw_W G ad NF TF FF M16 L H locs := by rw [eM16]; exact hw
    refine lv_aload_n C.1.1 C.1.2.1 dX10_addWatch_73 rfl (lv_at hl 0 rfl) ?_
    refine lv_aload_n C.1.1 C.1.2.1 dX10_addWatch_74 rfl (lv_at hl 0 rfl) ?_
    refine mr_getI C hw kc_10 2 (by decide) tf_139 wd_331 dX10_addWatch_75 (by decide) rfl ?_
    obtain ⟨M17, L18, h1, hD⟩ := g_b2 hD
    refine md_cvV (As := [.int (M16 139 2)]) (rest := []) C hw (tX10_forget l G ad fu (M16 139 2) M16 L h1) kc_10 (by decide) tf_139 wd_1112 cwX10_forget ⟨Nat.le_of_ble_eq_true rfl, Nat.le_of_ble_eq_true rfl⟩ rfl hl.1 (Nat.le_of_ble_eq_true rfl) dX10_addWatch_78 rfl rfl ⟨Nat.zero_le _, Nat.zero_le _⟩ rfl (fun H locs hw => ?_)
    refine lv_aload_n C.1.1 C.1.2.1 dX10_addWatch_81 rfl (lv_at hl 0 rfl) ?_
    refine lv_dup C.1.1 C.1.2.1 dX10_addWatch_82 rfl ?_
    refine mr_getI C hw kc_10 2 (by decide) tf_139 wd_331 dX10_addWatch_83 (by decide) rfl ?_
    refine lv_iconst (v := 1) C.1.1 C.1.2.1 dX10_addWatch_86 (by decide) ?_
    refine lv_iadd C.1.1 C.1.2.1 dX10_addWatch_87 ?_
    obtain ⟨M19, eM19, hD⟩ := g_let hD
    refine mr_putI C hw kc_10 2 (by decide) tf_139 wd_331 dX10_addWatch_88 (by decide) rfl rfl rfl rfl (fun H locs hw => ?_)
    replace hw : mw_W G ad NF TF FF M19 L18 H locs := by rw [eM19]; exact hw
    refine lv_aload_n C.1.1 C.1.2.1 dX10_addWatch_91 rfl (lv_at hl 0 rfl) ?_
    refine mr_getI C hw kc_10 2 (by decide) tf_139 wd_331 dX10_addWatch_92 (by decide) rfl ?_
    exact mr_iret C hr hlocks hw rfl (Option.some.inj hD) dX10_addWatch_95
  · replace hD := g_neg c1 hD
    refine lv_bipush (v := (-4)) C.1.1 C.1.2.1 dX10_addWatch_9 (by decide) ?_
    exact mr_iret C hr hlocks hw rfl (Option.some.inj hD) dX10_addWatch_11

theorem dX10_forgetAll_0 : decode cX10_forgetAll 0 = .ok (.iconst 0, 1) := by decide +kernel
theorem dX10_forgetAll_1 : decode cX10_forgetAll 1 = .ok (.istore_n 1, 1) := by decide +kernel
theorem dX10_forgetAll_2 : decode cX10_forgetAll 2 = .ok (.iload_n 1, 1) := by decide +kernel
theorem dX10_forgetAll_3 : decode cX10_forgetAll 3 = .ok (.aload_n 0, 1) := by decide +kernel
theorem dX10_forgetAll_4 : decode cX10_forgetAll 4 = .ok (.getfield 20, 3) := by decide +kernel
theorem dX10_forgetAll_7 : decode cX10_forgetAll 7 = .ok (.if_icmp .ge 14, 3) := by decide +kernel
theorem dX10_forgetAll_10 : decode cX10_forgetAll 10 = .ok (.aload_n 0, 1) := by decide +kernel
theorem dX10_forgetAll_11 : decode cX10_forgetAll 11 = .ok (.iload_n 1, 1) := by decide +kernel
theorem dX10_forgetAll_12 : decode cX10_forgetAll 12 = .ok (.invokevirtual 33, 3) := by decide +kernel
theorem dX10_forgetAll_15 : decode cX10_forgetAll 15 = .ok (.iinc 1 1, 3) := by decide +kernel
theorem dX10_forgetAll_18 : decode cX10_forgetAll 18 = .ok (.goto (-16), 3) := by decide +kernel
theorem dX10_forgetAll_21 : decode cX10_forgetAll 21 = .ok (.aload_n 0, 1) := by decide +kernel
theorem dX10_forgetAll_22 : decode cX10_forgetAll 22 = .ok (.iconst 0, 1) := by decide +kernel
theorem dX10_forgetAll_23 : decode cX10_forgetAll 23 = .ok (.putfield 24, 3) := by decide +kernel
theorem dX10_forgetAll_26 : decode cX10_forgetAll 26 = .ok (.return_, 1) := by decide +kernel
theorem cwX10_forgetAll : mw_cwV yX10_forgetAll cX10_forgetAll 2 (none) 0 := ⟨⟨wd_9, wd_1599, by decide +kernel⟩, wd_1597, wd_1598⟩
set_option maxHeartbeats 4000000 in
set_option maxRecDepth 100000 in
theorem tX10_forgetAll (l : Launch) (G : mwG) (ad : Nat → Nat) (fu : Nat) (M : mwM) (L : mwL) {M0 : mwM} {L0 : mwL} (hD : DX10_forgetAll fu M L = some (M0, L0)) : Met l yX10_forgetAll (Cond.code yX10_forgetAll cX10_forgetAll 2 (none) :: GT) ({ frames := 1, cells := 0, slots := 0, locals := 21 }) (mw_Pre G ad NF TF FF M L [.ref (ad 139)]) (mw_Qv G ad NF TF FF (mw_eqV M0 L0)) 0 0 (mw_fr G) := by
  refine mw_enter (by decide) (Nat.le_of_ble_eq_true rfl) ?_
  intro p e s m below meth c ls C hr hlocks hnm hw hl
  have hl : lv_has ls 2 [(0, .ref (ad 139))] := hl
  have hh2 : ∀ (f : Nat) (v1 : Int32) (M : mwM) (L : mwL) (H : Heap) (locs : List Loc) (ls : Array Slot), fX10_forgetAll_h2 fu f (v1, M, L) = some (M0, L0) → mw_W G ad NF TF FF M L H locs → lv_has ls 2 [(0, .ref (ad 139)), (1, .int v1)] → W p l e ({ frames := 1, cells := 0, slots := 0, locals := 21 }) s m [.ref (ad 139)].toArray below meth c H locs 0 0 (MQ below (mw_Qv G ad NF TF FF (mw_eqV M0 L0)) [.ref (ad 139)].toArray s 0 0 (mw_fr G)) (F0 m 2 ls []) := by
    intro f
    induction f with
    | zero => intro v1 M L H locs ls hD; cases hD
    | succ f2 ih2 =>
      intro v1 M L H locs ls hD hw hl
      replace hD : fX10_forgetAll_i2 fu (fX10_forgetAll_h2 fu f2) v1 M L = some (M0, L0) := hD
      unfold fX10_forgetAll_i2 at hD
      refine lv_iload_n C.1.1 C.1.2.1 dX10_forgetAll_2 rfl (lv_at hl 1 rfl) ?_
      refine lv_aload_n C.1.1 C.1.2.1 dX10_forgetAll_3 rfl (lv_at hl 0 rfl) ?_
      refine mr_getI C hw kc_10 2 (by decide) tf_139 wd_331 dX10_forgetAll_4 (by decide) rfl ?_
      refine lv_icmp_ge (tgt := 21) C.1.1 C.1.2.1 dX10_forgetAll_7 (by decide) (fun c1 => ?_) (fun c1 => ?_)
      · replace hD := g_pos c1 hD
        refine lv_aload_n C.1.1 C.1.2.1 dX10_forgetAll_21 rfl (lv_at hl 0 rfl) ?_
        refine lv_iconst (v := 0) C.1.1 C.1.2.1 dX10_forgetAll_22 (by decide) ?_
        obtain ⟨M2, eM2, hD⟩ := g_let hD
        refine mr_putI C hw kc_10 3 (by decide) tf_139 wd_334 dX10_forgetAll_23 (by decide) rfl rfl rfl rfl (fun H locs hw => ?_)
        replace hw : mw_W G ad NF TF FF M2 L H locs := by rw [eM2]; exact hw
        exact mr_vret C hr hlocks hw (Option.some.inj hD) dX10_forgetAll_26
      · replace hD := g_neg c1 hD
        refine lv_aload_n C.1.1 C.1.2.1 dX10_forgetAll_10 rfl (lv_at hl 0 rfl) ?_
        refine lv_iload_n C.1.1 C.1.2.1 dX10_forgetAll_11 rfl (lv_at hl 1 rfl) ?_
        obtain ⟨M3, L4, h1, hD⟩ := g_b2 hD
        refine md_cvV (As := [.int v1]) (rest := []) C hw (tX10_forget l G ad fu v1 M L h1) kc_10 (by decide) tf_139 wd_1112 cwX10_forget ⟨Nat.le_of_ble_eq_true rfl, Nat.le_of_ble_eq_true rfl⟩ rfl hl.1 (Nat.le_of_ble_eq_true rfl) dX10_forgetAll_12 rfl rfl ⟨Nat.zero_le _, Nat.zero_le _⟩ rfl (fun H locs hw => ?_)
        obtain ⟨x5, ex5, hD⟩ := g_let hD
        refine lv_iinc (v := x5) (lv' := [(1, .int x5), (0, .ref (ad 139))]) C.1.1 C.1.2.1 dX10_forgetAll_15 hl (k := 1) rfl (by rw [ex5]; rfl) (by decide) rfl (fun ls hl => ?_)
        refine lv_goto (tgt := 2) C.1.1 C.1.2.1 dX10_forgetAll_18 (by decide) ?_
        exact ih2 x5 M3 L4 _ _ ls hD hw (lv_sub hl [1, 0] rfl)
  unfold DX10_forgetAll at hD
  refine lv_iconst (v := 0) C.1.1 C.1.2.1 dX10_forgetAll_0 (by decide) ?_
  refine lv_istore_n (lv' := [(1, .int 0), (0, .ref (ad 139))]) C.1.1 C.1.2.1 dX10_forgetAll_1 rfl hl (by decide) rfl (fun ls hl => ?_)
  exact hh2 fu 0 M L _ _ ls hD hw (lv_sub hl [1, 0] rfl)

theorem dX10_isWatching_0 : decode cX10_isWatching 0 = .ok (.aload_n 0, 1) := by decide +kernel
theorem dX10_isWatching_1 : decode cX10_isWatching 1 = .ok (.getfield 11, 3) := by decide +kernel
theorem dX10_isWatching_4 : decode cX10_isWatching 4 = .ok (.iconst 1, 1) := by decide +kernel
theorem dX10_isWatching_5 : decode cX10_isWatching 5 = .ok (.aaload, 1) := by decide +kernel
theorem dX10_isWatching_6 : decode cX10_isWatching 6 = .ok (.iload_n 1, 1) := by decide +kernel
theorem dX10_isWatching_7 : decode cX10_isWatching 7 = .ok (.iaload, 1) := by decide +kernel
theorem dX10_isWatching_8 : decode cX10_isWatching 8 = .ok (.iload_n 2, 1) := by decide +kernel
theorem dX10_isWatching_9 : decode cX10_isWatching 9 = .ok (.if_icmp .ne 7, 3) := by decide +kernel
theorem dX10_isWatching_12 : decode cX10_isWatching 12 = .ok (.iconst 1, 1) := by decide +kernel
theorem dX10_isWatching_13 : decode cX10_isWatching 13 = .ok (.goto 4, 3) := by decide +kernel
theorem dX10_isWatching_16 : decode cX10_isWatching 16 = .ok (.iconst 0, 1) := by decide +kernel
theorem dX10_isWatching_17 : decode cX10_isWatching 17 = .ok (.ireturn, 1) := by decide +kernel
theorem cwX10_isWatching : mw_cwV yX10_isWatching cX10_isWatching 3 ((some .boolean)) 2 := ⟨⟨wd_9, wd_1620, by decide +kernel⟩, wd_1618, wd_1619⟩
set_option maxHeartbeats 4000000 in
set_option maxRecDepth 100000 in
theorem tX10_isWatching (l : Launch) (G : mwG) (ad : Nat → Nat) (fu : Nat) (a1 : Int32) (a2 : Int32) (M : mwM) (L : mwL) {r0 : Int32} {M0 : mwM} {L0 : mwL} (hD : DX10_isWatching fu a1 a2 M L = some (r0, M0, L0)) : Met l yX10_isWatching (Cond.code yX10_isWatching cX10_isWatching 3 ((some .boolean)) :: GT) ({ frames := 0, cells := 0, slots := 0, locals := 0 }) (mw_Pre G ad NF TF FF M L [.ref (ad 139), .int a1, .int a2]) (mw_Qi G ad NF TF FF (mw_eqI r0 M0 L0)) 0 0 (mw_fr G) := by
  refine mw_enter (by decide) (Nat.le_of_ble_eq_true rfl) ?_
  intro p e s m below meth c ls C hr hlocks hnm hw hl
  have hl : lv_has ls 3 [(0, .ref (ad 139)), (1, .int a1), (2, .int a2)] := hl
  have hb17 : ∀ (s0 : Int32) (M : mwM) (L : mwL) (H : Heap) (locs : List Loc) (ls : Array Slot), fX10_isWatching_b17 fu a1 a2 s0 M L = some (r0, M0, L0) → mw_W G ad NF TF FF M L H locs → lv_has ls 3 [] → W p l e ({ frames := 0, cells := 0, slots := 0, locals := 0 }) s m [.ref (ad 139), .int a1, .int a2].toArray below meth c H locs 0 0 (MQ below (mw_Qi G ad NF TF FF (mw_eqI r0 M0 L0)) [.ref (ad 139), .int a1, .int a2].toArray s 0 0 (mw_fr G)) (F0 m 17 ls [.int s0]) := by
    intro s0 M L H locs ls hD hw hl
    unfold fX10_isWatching_b17 at hD
    obtain ⟨z1, hD⟩ := g_zz hD
    exact mr_iret C hr hlocks hw (nz_zz z1) (Option.some.inj hD) dX10_isWatching_17
  unfold DX10_isWatching at hD
  refine lv_aload_n C.1.1 C.1.2.1 dX10_isWatching_0 rfl (lv_at hl 0 rfl) ?_
  refine mr_getR C hw kc_10 0 (by decide) tf_139 ff_139_0 wd_328 dX10_isWatching_1 (by decide) rfl ?_
  refine lv_iconst (v := 1) C.1.1 C.1.2.1 dX10_isWatching_4 (by decide) ?_
  refine mr_aald C hw (by decide) tf_140 (by decide) (by decide) rfl rfl (show vp_in 1 12 from by unfold vp_in; decide) ff_140_1 dX10_isWatching_5 ?_
  refine lv_iload_n C.1.1 C.1.2.1 dX10_isWatching_6 rfl (lv_at hl 1 rfl) ?_
  obtain ⟨q3, hD⟩ := g_ck hD
  refine mr_iald C hw (by decide) tf_142 q3 dX10_isWatching_7 ?_
  refine lv_iload_n C.1.1 C.1.2.1 dX10_isWatching_8 rfl (lv_at hl 2 rfl) ?_
  refine lv_icmp_ne (tgt := 16) C.1.1 C.1.2.1 dX10_isWatching_9 (by decide) (fun c4 => ?_) (fun c4 => ?_)
  · replace hD := g_neg c4 hD
    refine lv_iconst (v := 0) C.1.1 C.1.2.1 dX10_isWatching_16 (by decide) ?_
    exact hb17 0 M L _ _ ls hD hw (lv_sub hl [] rfl)
  · replace hD := g_pos c4 hD
    refine lv_iconst (v := 1) C.1.1 C.1.2.1 dX10_isWatching_12 (by decide) ?_
    refine lv_goto (tgt := 17) C.1.1 C.1.2.1 dX10_isWatching_13 (by decide) ?_
    exact hb17 1 M L _ _ ls hD hw (lv_sub hl [] rfl)

theorem dX10_signalOf_0 : decode cX10_signalOf 0 = .ok (.aload_n 0, 1) := by decide +kernel
theorem dX10_signalOf_1 : decode cX10_signalOf 1 = .ok (.getfield 11, 3) := by decide +kernel
theorem dX10_signalOf_4 : decode cX10_signalOf 4 = .ok (.iconst 0, 1) := by decide +kernel
theorem dX10_signalOf_5 : decode cX10_signalOf 5 = .ok (.aaload, 1) := by decide +kernel
theorem dX10_signalOf_6 : decode cX10_signalOf 6 = .ok (.iload_n 1, 1) := by decide +kernel
theorem dX10_signalOf_7 : decode cX10_signalOf 7 = .ok (.iaload, 1) := by decide +kernel
theorem dX10_signalOf_8 : decode cX10_signalOf 8 = .ok (.ireturn, 1) := by decide +kernel
theorem cwX10_signalOf : mw_cwV yX10_signalOf cX10_signalOf 2 ((some .int)) 1 := ⟨⟨wd_9, wd_1624, by decide +kernel⟩, wd_1622, wd_1623⟩
set_option maxHeartbeats 4000000 in
set_option maxRecDepth 100000 in
theorem tX10_signalOf (l : Launch) (G : mwG) (ad : Nat → Nat) (fu : Nat) (a1 : Int32) (M : mwM) (L : mwL) {r0 : Int32} {M0 : mwM} {L0 : mwL} (hD : DX10_signalOf fu a1 M L = some (r0, M0, L0)) : Met l yX10_signalOf (Cond.code yX10_signalOf cX10_signalOf 2 ((some .int)) :: GT) ({ frames := 0, cells := 0, slots := 0, locals := 0 }) (mw_Pre G ad NF TF FF M L [.ref (ad 139), .int a1]) (mw_Qi G ad NF TF FF (mw_eqI r0 M0 L0)) 0 0 (mw_fr G) := by
  refine mw_enter (by decide) (Nat.le_of_ble_eq_true rfl) ?_
  intro p e s m below meth c ls C hr hlocks hnm hw hl
  have hl : lv_has ls 2 [(0, .ref (ad 139)), (1, .int a1)] := hl
  unfold DX10_signalOf at hD
  refine lv_aload_n C.1.1 C.1.2.1 dX10_signalOf_0 rfl (lv_at hl 0 rfl) ?_
  refine mr_getR C hw kc_10 0 (by decide) tf_139 ff_139_0 wd_328 dX10_signalOf_1 (by decide) rfl ?_
  refine lv_iconst (v := 0) C.1.1 C.1.2.1 dX10_signalOf_4 (by decide) ?_
  refine mr_aald C hw (by decide) tf_140 (by decide) (by decide) rfl rfl (show vp_in 0 12 from by unfold vp_in; decide) ff_140_0 dX10_signalOf_5 ?_
  refine lv_iload_n C.1.1 C.1.2.1 dX10_signalOf_6 rfl (lv_at hl 1 rfl) ?_
  obtain ⟨q2, hD⟩ := g_ck hD
  refine mr_iald C hw (by decide) tf_141 q2 dX10_signalOf_7 ?_
  exact mr_iret C hr hlocks hw rfl (Option.some.inj hD) dX10_signalOf_8

theorem dX10_entryOf_0 : decode cX10_entryOf 0 = .ok (.iconst 0, 1) := by decide +kernel
theorem dX10_entryOf_1 : decode cX10_entryOf 1 = .ok (.istore_n 2, 1) := by decide +kernel
theorem dX10_entryOf_2 : decode cX10_entryOf 2 = .ok (.iload_n 2, 1) := by decide +kernel
theorem dX10_entryOf_3 : decode cX10_entryOf 3 = .ok (.aload_n 0, 1) := by decide +kernel
theorem dX10_entryOf_4 : decode cX10_entryOf 4 = .ok (.getfield 24, 3) := by decide +kernel
theorem dX10_entryOf_7 : decode cX10_entryOf 7 = .ok (.if_icmp .ge 21, 3) := by decide +kernel
theorem dX10_entryOf_10 : decode cX10_entryOf 10 = .ok (.aload_n 0, 1) := by decide +kernel
theorem dX10_entryOf_11 : decode cX10_entryOf 11 = .ok (.getfield 16, 3) := by decide +kernel
theorem dX10_entryOf_14 : decode cX10_entryOf 14 = .ok (.iload_n 2, 1) := by decide +kernel
theorem dX10_entryOf_15 : decode cX10_entryOf 15 = .ok (.iaload, 1) := by decide +kernel
theorem dX10_entryOf_16 : decode cX10_entryOf 16 = .ok (.iload_n 1, 1) := by decide +kernel
theorem dX10_entryOf_17 : decode cX10_entryOf 17 = .ok (.if_icmp .ne 5, 3) := by decide +kernel
theorem dX10_entryOf_20 : decode cX10_entryOf 20 = .ok (.iload_n 2, 1) := by decide +kernel
theorem dX10_entryOf_21 : decode cX10_entryOf 21 = .ok (.ireturn, 1) := by decide +kernel
theorem dX10_entryOf_22 : decode cX10_entryOf 22 = .ok (.iinc 2 1, 3) := by decide +kernel
theorem dX10_entryOf_25 : decode cX10_entryOf 25 = .ok (.goto (-23), 3) := by decide +kernel
theorem dX10_entryOf_28 : decode cX10_entryOf 28 = .ok (.iconst (-1), 1) := by decide +kernel
theorem dX10_entryOf_29 : decode cX10_entryOf 29 = .ok (.ireturn, 1) := by decide +kernel
theorem cwX10_entryOf : mw_cwV yX10_entryOf cX10_entryOf 3 ((some .int)) 1 := ⟨⟨wd_9, wd_1742, by decide +kernel⟩, wd_1741, sl_137⟩
set_option maxHeartbeats 4000000 in
set_option maxRecDepth 100000 in
theorem tX10_entryOf (l : Launch) (G : mwG) (ad : Nat → Nat) (fu : Nat) (a1 : Int32) (M : mwM) (L : mwL) {r0 : Int32} {M0 : mwM} {L0 : mwL} (hD : DX10_entryOf fu a1 M L = some (r0, M0, L0)) : Met l yX10_entryOf (Cond.code yX10_entryOf cX10_entryOf 3 ((some .int)) :: GT) ({ frames := 0, cells := 0, slots := 0, locals := 0 }) (mw_Pre G ad NF TF FF M L [.ref (ad 139), .int a1]) (mw_Qi G ad NF TF FF (mw_eqI r0 M0 L0)) 0 0 (mw_fr G) := by
  refine mw_enter (by decide) (Nat.le_of_ble_eq_true rfl) ?_
  intro p e s m below meth c ls C hr hlocks hnm hw hl
  have hl : lv_has ls 3 [(0, .ref (ad 139)), (1, .int a1)] := hl
  have hh2 : ∀ (f : Nat) (v2 : Int32) (M : mwM) (L : mwL) (H : Heap) (locs : List Loc) (ls : Array Slot), fX10_entryOf_h2 fu a1 f (v2, M, L) = some (r0, M0, L0) → mw_W G ad NF TF FF M L H locs → lv_has ls 3 [(0, .ref (ad 139)), (1, .int a1), (2, .int v2)] → W p l e ({ frames := 0, cells := 0, slots := 0, locals := 0 }) s m [.ref (ad 139), .int a1].toArray below meth c H locs 0 0 (MQ below (mw_Qi G ad NF TF FF (mw_eqI r0 M0 L0)) [.ref (ad 139), .int a1].toArray s 0 0 (mw_fr G)) (F0 m 2 ls []) := by
    intro f
    induction f with
    | zero => intro v2 M L H locs ls hD; cases hD
    | succ f2 ih2 =>
      intro v2 M L H locs ls hD hw hl
      replace hD : fX10_entryOf_i2 fu a1 (fX10_entryOf_h2 fu a1 f2) v2 M L = some (r0, M0, L0) := hD
      unfold fX10_entryOf_i2 at hD
      refine lv_iload_n C.1.1 C.1.2.1 dX10_entryOf_2 rfl (lv_at hl 2 rfl) ?_
      refine lv_aload_n C.1.1 C.1.2.1 dX10_entryOf_3 rfl (lv_at hl 0 rfl) ?_
      refine mr_getI C hw kc_10 3 (by decide) tf_139 wd_334 dX10_entryOf_4 (by decide) rfl ?_
      refine lv_icmp_ge (tgt := 28) C.1.1 C.1.2.1 dX10_entryOf_7 (by decide) (fun c1 => ?_) (fun c1 => ?_)
      · replace hD := g_pos c1 hD
        refine lv_iconst (v := (-1)) C.1.1 C.1.2.1 dX10_entryOf_28 (by decide) ?_
        exact mr_iret C hr hlocks hw rfl (Option.some.inj hD) dX10_entryOf_29
      · replace hD := g_neg c1 hD
        refine lv_aload_n C.1.1 C.1.2.1 dX10_entryOf_10 rfl (lv_at hl 0 rfl) ?_
        refine mr_getR C hw kc_10 1 (by decide) tf_139 ff_139_1 wd_329 dX10_entryOf_11 (by decide) rfl ?_
        refine lv_iload_n C.1.1 C.1.2.1 dX10_entryOf_14 rfl (lv_at hl 2 rfl) ?_
        obtain ⟨q2, hD⟩ := g_ck hD
        refine mr_iald C hw (by decide) tf_153 q2 dX10_entryOf_15 ?_
        refine lv_iload_n C.1.1 C.1.2.1 dX10_entryOf_16 rfl (lv_at hl 1 rfl) ?_
        refine lv_icmp_ne (tgt := 22) C.1.1 C.1.2.1 dX10_entryOf_17 (by decide) (fun c3 => ?_) (fun c3 => ?_)
        · replace hD := g_neg c3 hD
          obtain ⟨x4, ex4, hD⟩ := g_let hD
          refine lv_iinc (v := x4) (lv' := [(2, .int x4), (0, .ref (ad 139)), (1, .int a1)]) C.1.1 C.1.2.1 dX10_entryOf_22 hl (k := 2) rfl (by rw [ex4]; rfl) (by decide) rfl (fun ls hl => ?_)
          refine lv_goto (tgt := 2) C.1.1 C.1.2.1 dX10_entryOf_25 (by decide) ?_
          exact ih2 x4 M L _ _ ls hD hw (lv_sub hl [1, 2, 0] rfl)
        · replace hD := g_pos c3 hD
          refine lv_iload_n C.1.1 C.1.2.1 dX10_entryOf_20 rfl (lv_at hl 2 rfl) ?_
          exact mr_iret C hr hlocks hw rfl (Option.some.inj hD) dX10_entryOf_21
  unfold DX10_entryOf at hD
  refine lv_iconst (v := 0) C.1.1 C.1.2.1 dX10_entryOf_0 (by decide) ?_
  refine lv_istore_n (lv' := [(2, .int 0), (0, .ref (ad 139)), (1, .int a1)]) C.1.1 C.1.2.1 dX10_entryOf_1 rfl hl (by decide) rfl (fun ls hl => ?_)
  exact hh2 fu 0 M L _ _ ls hD hw (lv_sub hl [1, 2, 0] rfl)

theorem dX10_weightOf_0 : decode cX10_weightOf 0 = .ok (.iconst 2, 1) := by decide +kernel
theorem dX10_weightOf_1 : decode cX10_weightOf 1 = .ok (.aload_n 0, 1) := by decide +kernel
theorem dX10_weightOf_2 : decode cX10_weightOf 2 = .ok (.getfield 11, 3) := by decide +kernel
theorem dX10_weightOf_5 : decode cX10_weightOf 5 = .ok (.iconst 4, 1) := by decide +kernel
theorem dX10_weightOf_6 : decode cX10_weightOf 6 = .ok (.aaload, 1) := by decide +kernel
theorem dX10_weightOf_7 : decode cX10_weightOf 7 = .ok (.iload_n 1, 1) := by decide +kernel
theorem dX10_weightOf_8 : decode cX10_weightOf 8 = .ok (.iaload, 1) := by decide +kernel
theorem dX10_weightOf_9 : decode cX10_weightOf 9 = .ok (.imul, 1) := by decide +kernel
theorem dX10_weightOf_10 : decode cX10_weightOf 10 = .ok (.iconst 1, 1) := by decide +kernel
theorem dX10_weightOf_11 : decode cX10_weightOf 11 = .ok (.iadd, 1) := by decide +kernel
theorem dX10_weightOf_12 : decode cX10_weightOf 12 = .ok (.aload_n 0, 1) := by decide +kernel
theorem dX10_weightOf_13 : decode cX10_weightOf 13 = .ok (.getfield 11, 3) := by decide +kernel
theorem dX10_weightOf_16 : decode cX10_weightOf 16 = .ok (.iconst 5, 1) := by decide +kernel
theorem dX10_weightOf_17 : decode cX10_weightOf 17 = .ok (.aaload, 1) := by decide +kernel
theorem dX10_weightOf_18 : decode cX10_weightOf 18 = .ok (.iload_n 1, 1) := by decide +kernel
theorem dX10_weightOf_19 : decode cX10_weightOf 19 = .ok (.iaload, 1) := by decide +kernel
theorem dX10_weightOf_20 : decode cX10_weightOf 20 = .ok (.iconst 1, 1) := by decide +kernel
theorem dX10_weightOf_21 : decode cX10_weightOf 21 = .ok (.iand, 1) := by decide +kernel
theorem dX10_weightOf_22 : decode cX10_weightOf 22 = .ok (.isub, 1) := by decide +kernel
theorem dX10_weightOf_23 : decode cX10_weightOf 23 = .ok (.ireturn, 1) := by decide +kernel
theorem cwX10_weightOf : mw_cwV yX10_weightOf cX10_weightOf 2 ((some .int)) 1 := ⟨⟨wd_9, wd_1750, by decide +kernel⟩, wd_1749, sl_139⟩
set_option maxHeartbeats 4000000 in
set_option maxRecDepth 100000 in
theorem tX10_weightOf (l : Launch) (G : mwG) (ad : Nat → Nat) (fu : Nat) (a1 : Int32) (M : mwM) (L : mwL) {r0 : Int32} {M0 : mwM} {L0 : mwL} (hD : DX10_weightOf fu a1 M L = some (r0, M0, L0)) : Met l yX10_weightOf (Cond.code yX10_weightOf cX10_weightOf 2 ((some .int)) :: GT) ({ frames := 0, cells := 0, slots := 0, locals := 0 }) (mw_Pre G ad NF TF FF M L [.ref (ad 139), .int a1]) (mw_Qi G ad NF TF FF (mw_eqI r0 M0 L0)) 0 0 (mw_fr G) := by
  refine mw_enter (by decide) (Nat.le_of_ble_eq_true rfl) ?_
  intro p e s m below meth c ls C hr hlocks hnm hw hl
  have hl : lv_has ls 2 [(0, .ref (ad 139)), (1, .int a1)] := hl
  unfold DX10_weightOf at hD
  refine lv_iconst (v := 2) C.1.1 C.1.2.1 dX10_weightOf_0 (by decide) ?_
  refine lv_aload_n C.1.1 C.1.2.1 dX10_weightOf_1 rfl (lv_at hl 0 rfl) ?_
  refine mr_getR C hw kc_10 0 (by decide) tf_139 ff_139_0 wd_328 dX10_weightOf_2 (by decide) rfl ?_
  refine lv_iconst (v := 4) C.1.1 C.1.2.1 dX10_weightOf_5 (by decide) ?_
  refine mr_aald C hw (by decide) tf_140 (by decide) (by decide) rfl rfl (show vp_in 4 12 from by unfold vp_in; decide) ff_140_4 dX10_weightOf_6 ?_
  refine lv_iload_n C.1.1 C.1.2.1 dX10_weightOf_7 rfl (lv_at hl 1 rfl) ?_
  obtain ⟨q2, hD⟩ := g_ck hD
  refine mr_iald C hw (by decide) tf_145 q2 dX10_weightOf_8 ?_
  refine lv_imul C.1.1 C.1.2.1 dX10_weightOf_9 ?_
  refine lv_iconst (v := 1) C.1.1 C.1.2.1 dX10_weightOf_10 (by decide) ?_
  refine lv_iadd C.1.1 C.1.2.1 dX10_weightOf_11 ?_
  refine lv_aload_n C.1.1 C.1.2.1 dX10_weightOf_12 rfl (lv_at hl 0 rfl) ?_
  refine mr_getR C hw kc_10 0 (by decide) tf_139 ff_139_0 wd_328 dX10_weightOf_13 (by decide) rfl ?_
  refine lv_iconst (v := 5) C.1.1 C.1.2.1 dX10_weightOf_16 (by decide) ?_
  refine mr_aald C hw (by decide) tf_140 (by decide) (by decide) rfl rfl (show vp_in 5 12 from by unfold vp_in; decide) ff_140_5 dX10_weightOf_17 ?_
  refine lv_iload_n C.1.1 C.1.2.1 dX10_weightOf_18 rfl (lv_at hl 1 rfl) ?_
  obtain ⟨q4, hD⟩ := g_ck hD
  refine mr_iald C hw (by decide) tf_146 q4 dX10_weightOf_19 ?_
  refine lv_iconst (v := 1) C.1.1 C.1.2.1 dX10_weightOf_20 (by decide) ?_
  refine lv_iand C.1.1 C.1.2.1 dX10_weightOf_21 ?_
  refine lv_isub C.1.1 C.1.2.1 dX10_weightOf_22 ?_
  exact mr_iret C hr hlocks hw rfl (Option.some.inj hD) dX10_weightOf_23

theorem dX10_findLesser_0 : decode cX10_findLesser 0 = .ok (.iconst (-1), 1) := by decide +kernel
theorem dX10_findLesser_1 : decode cX10_findLesser 1 = .ok (.istore_n 2, 1) := by decide +kernel
theorem dX10_findLesser_2 : decode cX10_findLesser 2 = .ok (.iconst 2, 1) := by decide +kernel
theorem dX10_findLesser_3 : decode cX10_findLesser 3 = .ok (.aload_n 0, 1) := by decide +kernel
theorem dX10_findLesser_4 : decode cX10_findLesser 4 = .ok (.getfield 11, 3) := by decide +kernel
theorem dX10_findLesser_7 : decode cX10_findLesser 7 = .ok (.iconst 4, 1) := by decide +kernel
theorem dX10_findLesser_8 : decode cX10_findLesser 8 = .ok (.aaload, 1) := by decide +kernel
theorem dX10_findLesser_9 : decode cX10_findLesser 9 = .ok (.iload_n 1, 1) := by decide +kernel
theorem dX10_findLesser_10 : decode cX10_findLesser 10 = .ok (.iaload, 1) := by decide +kernel
theorem dX10_findLesser_11 : decode cX10_findLesser 11 = .ok (.imul, 1) := by decide +kernel
theorem dX10_findLesser_12 : decode cX10_findLesser 12 = .ok (.istore_n 3, 1) := by decide +kernel
theorem dX10_findLesser_13 : decode cX10_findLesser 13 = .ok (.iconst 0, 1) := by decide +kernel
theorem dX10_findLesser_14 : decode cX10_findLesser 14 = .ok (.istore 4, 2) := by decide +kernel
theorem dX10_findLesser_16 : decode cX10_findLesser 16 = .ok (.iload 4, 2) := by decide +kernel
theorem dX10_findLesser_18 : decode cX10_findLesser 18 = .ok (.aload_n 0, 1) := by decide +kernel
theorem dX10_findLesser_19 : decode cX10_findLesser 19 = .ok (.getfield 24, 3) := by decide +kernel
theorem dX10_findLesser_22 : decode cX10_findLesser 22 = .ok (.if_icmp .ge 39, 3) := by decide +kernel
theorem dX10_findLesser_25 : decode cX10_findLesser 25 = .ok (.aload_n 0, 1) := by decide +kernel
theorem dX10_findLesser_26 : decode cX10_findLesser 26 = .ok (.aload_n 0, 1) := by decide +kernel
theorem dX10_findLesser_27 : decode cX10_findLesser 27 = .ok (.getfield 16, 3) := by decide +kernel
theorem dX10_findLesser_30 : decode cX10_findLesser 30 = .ok (.iload 4, 2) := by decide +kernel
theorem dX10_findLesser_32 : decode cX10_findLesser 32 = .ok (.iaload, 1) := by decide +kernel
theorem dX10_findLesser_33 : decode cX10_findLesser 33 = .ok (.invokevirtual 66, 3) := by decide +kernel
theorem dX10_findLesser_36 : decode cX10_findLesser 36 = .ok (.iload_n 3, 1) := by decide +kernel
theorem dX10_findLesser_37 : decode cX10_findLesser 37 = .ok (.if_icmp .le 18, 3) := by decide +kernel
theorem dX10_findLesser_40 : decode cX10_findLesser 40 = .ok (.iload 4, 2) := by decide +kernel
theorem dX10_findLesser_42 : decode cX10_findLesser 42 = .ok (.istore_n 2, 1) := by decide +kernel
theorem dX10_findLesser_43 : decode cX10_findLesser 43 = .ok (.aload_n 0, 1) := by decide +kernel
theorem dX10_findLesser_44 : decode cX10_findLesser 44 = .ok (.aload_n 0, 1) := by decide +kernel
theorem dX10_findLesser_45 : decode cX10_findLesser 45 = .ok (.getfield 16, 3) := by decide +kernel
theorem dX10_findLesser_48 : decode cX10_findLesser 48 = .ok (.iload 4, 2) := by decide +kernel
theorem dX10_findLesser_50 : decode cX10_findLesser 50 = .ok (.iaload, 1) := by decide +kernel
theorem dX10_findLesser_51 : decode cX10_findLesser 51 = .ok (.invokevirtual 66, 3) := by decide +kernel
theorem dX10_findLesser_54 : decode cX10_findLesser 54 = .ok (.istore_n 3, 1) := by decide +kernel
theorem dX10_findLesser_55 : decode cX10_findLesser 55 = .ok (.iinc 4 1, 3) := by decide +kernel
theorem dX10_findLesser_58 : decode cX10_findLesser 58 = .ok (.goto (-42), 3) := by decide +kernel
theorem dX10_findLesser_61 : decode cX10_findLesser 61 = .ok (.iload_n 2, 1) := by decide +kernel
theorem dX10_findLesser_62 : decode cX10_findLesser 62 = .ok (.ireturn, 1) := by decide +kernel
theorem cwX10_findLesser : mw_cwV yX10_findLesser cX10_findLesser 5 ((some .int)) 1 := ⟨⟨wd_9, wd_1746, by decide +kernel⟩, wd_1745, sl_138⟩
set_option maxHeartbeats 4000000 in
set_option maxRecDepth 100000 in
theorem tX10_findLesser (l : Launch) (G : mwG) (ad : Nat → Nat) (fu : Nat) (a1 : Int32) (M : mwM) (L : mwL) {r0 : Int32} {M0 : mwM} {L0 : mwL} (hD : DX10_findLesser fu a1 M L = some (r0, M0, L0)) : Met l yX10_findLesser (Cond.code yX10_findLesser cX10_findLesser 5 ((some .int)) :: GT) ({ frames := 1, cells := 0, slots := 0, locals := 21 }) (mw_Pre G ad NF TF FF M L [.ref (ad 139), .int a1]) (mw_Qi G ad NF TF FF (mw_eqI r0 M0 L0)) 0 0 (mw_fr G) := by
  refine mw_enter (by decide) (Nat.le_of_ble_eq_true rfl) ?_
  intro p e s m below meth c ls C hr hlocks hnm hw hl
  have hl : lv_has ls 5 [(0, .ref (ad 139)), (1, .int a1)] := hl
  have hh16 : ∀ (f : Nat) (v2 : Int32) (v3 : Int32) (v4 : Int32) (M : mwM) (L : mwL) (H : Heap) (locs : List Loc) (ls : Array Slot), fX10_findLesser_h16 fu a1 f (v2, v3, v4, M, L) = some (r0, M0, L0) → mw_W G ad NF TF FF M L H locs → lv_has ls 5 [(0, .ref (ad 139)), (2, .int v2), (3, .int v3), (4, .int v4)] → W p l e ({ frames := 1, cells := 0, slots := 0, locals := 21 }) s m [.ref (ad 139), .int a1].toArray below meth c H locs 0 0 (MQ below (mw_Qi G ad NF TF FF (mw_eqI r0 M0 L0)) [.ref (ad 139), .int a1].toArray s 0 0 (mw_fr G)) (F0 m 16 ls []) := by
    intro f
    induction f with
    | zero => intro v2 v3 v4 M L H locs ls hD; cases hD
    | succ f16 ih16 =>
      intro v2 v3 v4 M L H locs ls hD hw hl
      replace hD : fX10_findLesser_i16 fu a1 (fX10_findLesser_h16 fu a1 f16) v2 v3 v4 M L = some (r0, M0, L0) := hD
      have hb55 : ∀ (v2 : Int32) (v3 : Int32) (v4 : Int32) (M : mwM) (L : mwL) (H : Heap) (locs : List Loc) (ls : Array Slot), fX10_findLesser_b55 fu a1 (fX10_findLesser_h16 fu a1 f16) v2 v3 v4 M L = some (r0, M0, L0) → mw_W G ad NF TF FF M L H locs → lv_has ls 5 [(0, .ref (ad 139)), (2, .int v2), (3, .int v3), (4, .int v4)] → W p l e ({ frames := 1, cells := 0, slots := 0, locals := 21 }) s m [.ref (ad 139), .int a1].toArray below meth c H locs 0 0 (MQ below (mw_Qi G ad NF TF FF (mw_eqI r0 M0 L0)) [.ref (ad 139), .int a1].toArray s 0 0 (mw_fr G)) (F0 m 55 ls []) := by
        intro v2 v3 v4 M L H locs ls hD hw hl
        unfold fX10_findLesser_b55 at hD
        obtain ⟨x11, ex11, hD⟩ := g_let hD
        refine lv_iinc (v := x11) (lv' := [(4, .int x11), (0, .ref (ad 139)), (2, .int v2), (3, .int v3)]) C.1.1 C.1.2.1 dX10_findLesser_55 hl (k := 3) rfl (by rw [ex11]; rfl) (by decide) rfl (fun ls hl => ?_)
        refine lv_goto (tgt := 16) C.1.1 C.1.2.1 dX10_findLesser_58 (by decide) ?_
        exact ih16 v2 v3 x11 M L _ _ ls hD hw (lv_sub hl [1, 2, 3, 0] rfl)
      unfold fX10_findLesser_i16 at hD
      refine lv_iload C.1.1 C.1.2.1 dX10_findLesser_16 (lv_at hl 3 rfl) ?_
      refine lv_aload_n C.1.1 C.1.2.1 dX10_findLesser_18 rfl (lv_at hl 0 rfl) ?_
      refine mr_getI C hw kc_10 3 (by decide) tf_139 wd_334 dX10_findLesser_19 (by decide) rfl ?_
      refine lv_icmp_ge (tgt := 61) C.1.1 C.1.2.1 dX10_findLesser_22 (by decide) (fun c1 => ?_) (fun c1 => ?_)
      · replace hD := g_pos c1 hD
        refine lv_iload_n C.1.1 C.1.2.1 dX10_findLesser_61 rfl (lv_at hl 1 rfl) ?_
        exact mr_iret C hr hlocks hw rfl (Option.some.inj hD) dX10_findLesser_62
      · replace hD := g_neg c1 hD
        refine lv_aload_n C.1.1 C.1.2.1 dX10_findLesser_25 rfl (lv_at hl 0 rfl) ?_
        refine lv_aload_n C.1.1 C.1.2.1 dX10_findLesser_26 rfl (lv_at hl 0 rfl) ?_
        refine mr_getR C hw kc_10 1 (by decide) tf_139 ff_139_1 wd_329 dX10_findLesser_27 (by decide) rfl ?_
        refine lv_iload C.1.1 C.1.2.1 dX10_findLesser_30 (lv_at hl 3 rfl) ?_
        obtain ⟨q2, hD⟩ := g_ck hD
        refine mr_iald C hw (by decide) tf_153 q2 dX10_findLesser_32 ?_
        obtain ⟨r5, M3, L4, h1, hD⟩ := g_b3 hD
        refine md_cvI (As := [.int (M 153 v4.toNatClampNeg)]) (rest := []) C hw (tX10_weightOf l G ad fu (M 153 v4.toNatClampNeg) M L h1) kc_10 (by decide) tf_139 wd_1747 cwX10_weightOf ⟨Nat.le_of_ble_eq_true rfl, Nat.le_of_ble_eq_true rfl⟩ rfl hl.1 (Nat.le_of_ble_eq_true rfl) dX10_findLesser_33 rfl rfl ⟨Nat.zero_le _, Nat.zero_le _⟩ rfl (fun H locs hw => ?_)
        refine lv_iload_n C.1.1 C.1.2.1 dX10_findLesser_36 rfl (lv_at hl 2 rfl) ?_
        refine lv_icmp_le (tgt := 55) C.1.1 C.1.2.1 dX10_findLesser_37 (by decide) (fun c6 => ?_) (fun c6 => ?_)
        · replace hD := g_pos c6 hD
          exact hb55 v2 v3 v4 M3 L4 _ _ ls hD hw (lv_sub hl [0, 1, 2, 3] rfl)
        · replace hD := g_neg c6 hD
          refine lv_iload C.1.1 C.1.2.1 dX10_findLesser_40 (lv_at hl 3 rfl) ?_
          refine lv_istore_n (lv' := [(2, .int v4), (0, .ref (ad 139)), (3, .int v3), (4, .int v4)]) C.1.1 C.1.2.1 dX10_findLesser_42 rfl hl (by decide) rfl (fun ls hl => ?_)
          refine lv_aload_n C.1.1 C.1.2.1 dX10_findLesser_43 rfl (lv_at hl 1 rfl) ?_
          refine lv_aload_n C.1.1 C.1.2.1 dX10_findLesser_44 rfl (lv_at hl 1 rfl) ?_
          refine mr_getR C hw kc_10 1 (by decide) tf_139 ff_139_1 wd_329 dX10_findLesser_45 (by decide) rfl ?_
          refine lv_iload C.1.1 C.1.2.1 dX10_findLesser_48 (lv_at hl 3 rfl) ?_
          obtain ⟨q7, hD⟩ := g_ck hD
          refine mr_iald C hw (by decide) tf_153 q7 dX10_findLesser_50 ?_
          obtain ⟨r10, M8, L9, h1, hD⟩ := g_b3 hD
          refine md_cvI (As := [.int (M3 153 v4.toNatClampNeg)]) (rest := []) C hw (tX10_weightOf l G ad fu (M3 153 v4.toNatClampNeg) M3 L4 h1) kc_10 (by decide) tf_139 wd_1747 cwX10_weightOf ⟨Nat.le_of_ble_eq_true rfl, Nat.le_of_ble_eq_true rfl⟩ rfl hl.1 (Nat.le_of_ble_eq_true rfl) dX10_findLesser_51 rfl rfl ⟨Nat.zero_le _, Nat.zero_le _⟩ rfl (fun H locs hw => ?_)
          refine lv_istore_n (lv' := [(3, .int r10), (2, .int v4), (0, .ref (ad 139)), (4, .int v4)]) C.1.1 C.1.2.1 dX10_findLesser_54 rfl hl (by decide) rfl (fun ls hl => ?_)
          exact hb55 v4 r10 v4 M8 L9 _ _ ls hD hw (lv_sub hl [2, 1, 0, 3] rfl)
  unfold DX10_findLesser at hD
  refine lv_iconst (v := (-1)) C.1.1 C.1.2.1 dX10_findLesser_0 (by decide) ?_
  refine lv_istore_n (lv' := [(2, .int ((-1))), (0, .ref (ad 139)), (1, .int a1)]) C.1.1 C.1.2.1 dX10_findLesser_1 rfl hl (by decide) rfl (fun ls hl => ?_)
  refine lv_iconst (v := 2) C.1.1 C.1.2.1 dX10_findLesser_2 (by decide) ?_
  refine lv_aload_n C.1.1 C.1.2.1 dX10_findLesser_3 rfl (lv_at hl 1 rfl) ?_
  refine mr_getR C hw kc_10 0 (by decide) tf_139 ff_139_0 wd_328 dX10_findLesser_4 (by decide) rfl ?_
  refine lv_iconst (v := 4) C.1.1 C.1.2.1 dX10_findLesser_7 (by decide) ?_
  refine mr_aald C hw (by decide) tf_140 (by decide) (by decide) rfl rfl (show vp_in 4 12 from by unfold vp_in; decide) ff_140_4 dX10_findLesser_8 ?_
  refine lv_iload_n C.1.1 C.1.2.1 dX10_findLesser_9 rfl (lv_at hl 2 rfl) ?_
  obtain ⟨q13, hD⟩ := g_ck hD
  refine mr_iald C hw (by decide) tf_145 q13 dX10_findLesser_10 ?_
  refine lv_imul C.1.1 C.1.2.1 dX10_findLesser_11 ?_
  obtain ⟨x14, ex14, hD⟩ := g_let hD
  refine W.eq (g2 := F0 m 12 ls (.int x14 :: [])) (by rw [ex14]) ?_
  refine lv_istore_n (lv' := [(3, .int x14), (2, .int ((-1))), (0, .ref (ad 139)), (1, .int a1)]) C.1.1 C.1.2.1 dX10_findLesser_12 rfl hl (by decide) rfl (fun ls hl => ?_)
  refine lv_iconst (v := 0) C.1.1 C.1.2.1 dX10_findLesser_13 (by decide) ?_
  refine lv_istore (lv' := [(4, .int 0), (3, .int x14), (2, .int ((-1))), (0, .ref (ad 139)), (1, .int a1)]) C.1.1 C.1.2.1 dX10_findLesser_14 hl (by decide) rfl (fun ls hl => ?_)
  exact hh16 fu ((-1)) x14 0 M L _ _ ls hD hw (lv_sub hl [3, 2, 1, 0] rfl)

theorem dX10_removeEntry_0 : decode cX10_removeEntry 0 = .ok (.iload_n 1, 1) := by decide +kernel
theorem dX10_removeEntry_1 : decode cX10_removeEntry 1 = .ok (.ifCond .ge 4, 3) := by decide +kernel
theorem dX10_removeEntry_4 : decode cX10_removeEntry 4 = .ok (.return_, 1) := by decide +kernel
theorem dX10_removeEntry_5 : decode cX10_removeEntry 5 = .ok (.iload_n 1, 1) := by decide +kernel
theorem dX10_removeEntry_6 : decode cX10_removeEntry 6 = .ok (.istore_n 2, 1) := by decide +kernel
theorem dX10_removeEntry_7 : decode cX10_removeEntry 7 = .ok (.iload_n 2, 1) := by decide +kernel
theorem dX10_removeEntry_8 : decode cX10_removeEntry 8 = .ok (.iconst 1, 1) := by decide +kernel
theorem dX10_removeEntry_9 : decode cX10_removeEntry 9 = .ok (.iadd, 1) := by decide +kernel
theorem dX10_removeEntry_10 : decode cX10_removeEntry 10 = .ok (.aload_n 0, 1) := by decide +kernel
theorem dX10_removeEntry_11 : decode cX10_removeEntry 11 = .ok (.getfield 24, 3) := by decide +kernel
theorem dX10_removeEntry_14 : decode cX10_removeEntry 14 = .ok (.if_icmp .ge 23, 3) := by decide +kernel
theorem dX10_removeEntry_17 : decode cX10_removeEntry 17 = .ok (.aload_n 0, 1) := by decide +kernel
theorem dX10_removeEntry_18 : decode cX10_removeEntry 18 = .ok (.getfield 16, 3) := by decide +kernel
theorem dX10_removeEntry_21 : decode cX10_removeEntry 21 = .ok (.iload_n 2, 1) := by decide +kernel
theorem dX10_removeEntry_22 : decode cX10_removeEntry 22 = .ok (.aload_n 0, 1) := by decide +kernel
theorem dX10_removeEntry_23 : decode cX10_removeEntry 23 = .ok (.getfield 16, 3) := by decide +kernel
theorem dX10_removeEntry_26 : decode cX10_removeEntry 26 = .ok (.iload_n 2, 1) := by decide +kernel
theorem dX10_removeEntry_27 : decode cX10_removeEntry 27 = .ok (.iconst 1, 1) := by decide +kernel
theorem dX10_removeEntry_28 : decode cX10_removeEntry 28 = .ok (.iadd, 1) := by decide +kernel
theorem dX10_removeEntry_29 : decode cX10_removeEntry 29 = .ok (.iaload, 1) := by decide +kernel
theorem dX10_removeEntry_30 : decode cX10_removeEntry 30 = .ok (.iastore, 1) := by decide +kernel
theorem dX10_removeEntry_31 : decode cX10_removeEntry 31 = .ok (.iinc 2 1, 3) := by decide +kernel
theorem dX10_removeEntry_34 : decode cX10_removeEntry 34 = .ok (.goto (-27), 3) := by decide +kernel
theorem dX10_removeEntry_37 : decode cX10_removeEntry 37 = .ok (.aload_n 0, 1) := by decide +kernel
theorem dX10_removeEntry_38 : decode cX10_removeEntry 38 = .ok (.dup, 1) := by decide +kernel
theorem dX10_removeEntry_39 : decode cX10_removeEntry 39 = .ok (.getfield 24, 3) := by decide +kernel
theorem dX10_removeEntry_42 : decode cX10_removeEntry 42 = .ok (.iconst 1, 1) := by decide +kernel
theorem dX10_removeEntry_43 : decode cX10_removeEntry 43 = .ok (.isub, 1) := by decide +kernel
theorem dX10_removeEntry_44 : decode cX10_removeEntry 44 = .ok (.putfield 24, 3) := by decide +kernel
theorem dX10_removeEntry_47 : decode cX10_removeEntry 47 = .ok (.return_, 1) := by decide +kernel
theorem cwX10_removeEntry : mw_cwV yX10_removeEntry cX10_removeEntry 3 (none) 1 := ⟨⟨wd_9, wd_1754, by decide +kernel⟩, wd_1753, sl_140⟩
set_option maxHeartbeats 4000000 in
set_option maxRecDepth 100000 in
theorem tX10_removeEntry (l : Launch) (G : mwG) (ad : Nat → Nat) (fu : Nat) (a1 : Int32) (M : mwM) (L : mwL) {M0 : mwM} {L0 : mwL} (hD : DX10_removeEntry fu a1 M L = some (M0, L0)) : Met l yX10_removeEntry (Cond.code yX10_removeEntry cX10_removeEntry 3 (none) :: GT) ({ frames := 0, cells := 0, slots := 0, locals := 0 }) (mw_Pre G ad NF TF FF M L [.ref (ad 139), .int a1]) (mw_Qv G ad NF TF FF (mw_eqV M0 L0)) 0 0 (mw_fr G) := by
  refine mw_enter (by decide) (Nat.le_of_ble_eq_true rfl) ?_
  intro p e s m below meth c ls C hr hlocks hnm hw hl
  have hl : lv_has ls 3 [(0, .ref (ad 139)), (1, .int a1)] := hl
  have hh7 : ∀ (f : Nat) (v2 : Int32) (M : mwM) (L : mwL) (H : Heap) (locs : List Loc) (ls : Array Slot), fX10_removeEntry_h7 fu a1 f (v2, M, L) = some (M0, L0) → mw_W G ad NF TF FF M L H locs → lv_has ls 3 [(0, .ref (ad 139)), (2, .int v2)] → W p l e ({ frames := 0, cells := 0, slots := 0, locals := 0 }) s m [.ref (ad 139), .int a1].toArray below meth c H locs 0 0 (MQ below (mw_Qv G ad NF TF FF (mw_eqV M0 L0)) [.ref (ad 139), .int a1].toArray s 0 0 (mw_fr G)) (F0 m 7 ls []) := by
    intro f
    induction f with
    | zero => intro v2 M L H locs ls hD; cases hD
    | succ f7 ih7 =>
      intro v2 M L H locs ls hD hw hl
      replace hD : fX10_removeEntry_i7 fu a1 (fX10_removeEntry_h7 fu a1 f7) v2 M L = some (M0, L0) := hD
      unfold fX10_removeEntry_i7 at hD
      refine lv_iload_n C.1.1 C.1.2.1 dX10_removeEntry_7 rfl (lv_at hl 1 rfl) ?_
      refine lv_iconst (v := 1) C.1.1 C.1.2.1 dX10_removeEntry_8 (by decide) ?_
      refine lv_iadd C.1.1 C.1.2.1 dX10_removeEntry_9 ?_
      refine lv_aload_n C.1.1 C.1.2.1 dX10_removeEntry_10 rfl (lv_at hl 0 rfl) ?_
      refine mr_getI C hw kc_10 3 (by decide) tf_139 wd_334 dX10_removeEntry_11 (by decide) rfl ?_
      refine lv_icmp_ge (tgt := 37) C.1.1 C.1.2.1 dX10_removeEntry_14 (by decide) (fun c1 => ?_) (fun c1 => ?_)
      · replace hD := g_pos c1 hD
        refine lv_aload_n C.1.1 C.1.2.1 dX10_removeEntry_37 rfl (lv_at hl 0 rfl) ?_
        refine lv_dup C.1.1 C.1.2.1 dX10_removeEntry_38 rfl ?_
        refine mr_getI C hw kc_10 3 (by decide) tf_139 wd_334 dX10_removeEntry_39 (by decide) rfl ?_
        refine lv_iconst (v := 1) C.1.1 C.1.2.1 dX10_removeEntry_42 (by decide) ?_
        refine lv_isub C.1.1 C.1.2.1 dX10_removeEntry_43 ?_
        obtain ⟨M2, eM2, hD⟩ := g_let hD
        refine mr_putI C hw kc_10 3 (by decide) tf_139 wd_334 dX10_removeEntry_44 (by decide) rfl rfl rfl rfl (fun H locs hw => ?_)
        replace hw : mw_W G ad NF TF FF M2 L H locs := by rw [eM2]; exact hw
        exact mr_vret C hr hlocks hw (Option.some.inj hD) dX10_removeEntry_47
      · replace hD := g_neg c1 hD
        refine lv_aload_n C.1.1 C.1.2.1 dX10_removeEntry_17 rfl (lv_at hl 0 rfl) ?_
        refine mr_getR C hw kc_10 1 (by decide) tf_139 ff_139_1 wd_329 dX10_removeEntry_18 (by decide) rfl ?_
        refine lv_iload_n C.1.1 C.1.2.1 dX10_removeEntry_21 rfl (lv_at hl 1 rfl) ?_
        refine lv_aload_n C.1.1 C.1.2.1 dX10_removeEntry_22 rfl (lv_at hl 0 rfl) ?_
        refine mr_getR C hw kc_10 1 (by decide) tf_139 ff_139_1 wd_329 dX10_removeEntry_23 (by decide) rfl ?_
        refine lv_iload_n C.1.1 C.1.2.1 dX10_removeEntry_26 rfl (lv_at hl 1 rfl) ?_
        refine lv_iconst (v := 1) C.1.1 C.1.2.1 dX10_removeEntry_27 (by decide) ?_
        refine lv_iadd C.1.1 C.1.2.1 dX10_removeEntry_28 ?_
        obtain ⟨q3, hD⟩ := g_ck hD
        refine mr_iald C hw (by decide) tf_153 q3 dX10_removeEntry_29 ?_
        obtain ⟨q4, hD⟩ := g_ck hD
        obtain ⟨M5, eM5, hD⟩ := g_let hD
        refine mr_iast C hw (by decide) tf_153 q4 dX10_removeEntry_30 (fun H locs hw => ?_)
        replace hw : mw_W G ad NF TF FF M5 L H locs := by rw [eM5]; exact hw
        obtain ⟨x6, ex6, hD⟩ := g_let hD
        refine lv_iinc (v := x6) (lv' := [(2, .int x6), (0, .ref (ad 139))]) C.1.1 C.1.2.1 dX10_removeEntry_31 hl (k := 1) rfl (by rw [ex6]; rfl) (by decide) rfl (fun ls hl => ?_)
        refine lv_goto (tgt := 7) C.1.1 C.1.2.1 dX10_removeEntry_34 (by decide) ?_
        exact ih7 x6 M5 L _ _ ls hD hw (lv_sub hl [1, 0] rfl)
  unfold DX10_removeEntry at hD
  refine lv_iload_n C.1.1 C.1.2.1 dX10_removeEntry_0 rfl (lv_at hl 1 rfl) ?_
  refine lv_if_ge (tgt := 5) C.1.1 C.1.2.1 dX10_removeEntry_1 (by decide) (fun c7 => ?_) (fun c7 => ?_)
  · replace hD := g_pos c7 hD
    refine lv_iload_n C.1.1 C.1.2.1 dX10_removeEntry_5 rfl (lv_at hl 1 rfl) ?_
    refine lv_istore_n (lv' := [(2, .int a1), (0, .ref (ad 139)), (1, .int a1)]) C.1.1 C.1.2.1 dX10_removeEntry_6 rfl hl (by decide) rfl (fun ls hl => ?_)
    exact hh7 fu a1 M L _ _ ls hD hw (lv_sub hl [1, 0] rfl)
  · replace hD := g_neg c7 hD
    exact mr_vret C hr hlocks hw (Option.some.inj hD) dX10_removeEntry_4

theorem dX10_store_0 : decode cX10_store 0 = .ok (.aload_n 0, 1) := by decide +kernel
theorem dX10_store_1 : decode cX10_store 1 = .ok (.iload_n 1, 1) := by decide +kernel
theorem dX10_store_2 : decode cX10_store 2 = .ok (.invokevirtual 56, 3) := by decide +kernel
theorem dX10_store_5 : decode cX10_store 5 = .ok (.ifCond .ge 64, 3) := by decide +kernel
theorem dX10_store_8 : decode cX10_store 8 = .ok (.aload_n 0, 1) := by decide +kernel
theorem dX10_store_9 : decode cX10_store 9 = .ok (.getfield 24, 3) := by decide +kernel
theorem dX10_store_12 : decode cX10_store 12 = .ok (.bipush 8, 2) := by decide +kernel
theorem dX10_store_14 : decode cX10_store 14 = .ok (.if_icmp .lt 12, 3) := by decide +kernel
theorem dX10_store_17 : decode cX10_store 17 = .ok (.aload_n 0, 1) := by decide +kernel
theorem dX10_store_18 : decode cX10_store 18 = .ok (.aload_n 0, 1) := by decide +kernel
theorem dX10_store_19 : decode cX10_store 19 = .ok (.iload_n 1, 1) := by decide +kernel
theorem dX10_store_20 : decode cX10_store 20 = .ok (.invokevirtual 60, 3) := by decide +kernel
theorem dX10_store_23 : decode cX10_store 23 = .ok (.invokevirtual 63, 3) := by decide +kernel
theorem dX10_store_26 : decode cX10_store 26 = .ok (.aload_n 0, 1) := by decide +kernel
theorem dX10_store_27 : decode cX10_store 27 = .ok (.getfield 24, 3) := by decide +kernel
theorem dX10_store_30 : decode cX10_store 30 = .ok (.bipush 8, 2) := by decide +kernel
theorem dX10_store_32 : decode cX10_store 32 = .ok (.if_icmp .lt 4, 3) := by decide +kernel
theorem dX10_store_35 : decode cX10_store 35 = .ok (.return_, 1) := by decide +kernel
theorem dX10_store_36 : decode cX10_store 36 = .ok (.aload_n 0, 1) := by decide +kernel
theorem dX10_store_37 : decode cX10_store 37 = .ok (.getfield 16, 3) := by decide +kernel
theorem dX10_store_40 : decode cX10_store 40 = .ok (.aload_n 0, 1) := by decide +kernel
theorem dX10_store_41 : decode cX10_store 41 = .ok (.getfield 24, 3) := by decide +kernel
theorem dX10_store_44 : decode cX10_store 44 = .ok (.iload_n 1, 1) := by decide +kernel
theorem dX10_store_45 : decode cX10_store 45 = .ok (.iastore, 1) := by decide +kernel
theorem dX10_store_46 : decode cX10_store 46 = .ok (.aload_n 0, 1) := by decide +kernel
theorem dX10_store_47 : decode cX10_store 47 = .ok (.dup, 1) := by decide +kernel
theorem dX10_store_48 : decode cX10_store 48 = .ok (.getfield 24, 3) := by decide +kernel
theorem dX10_store_51 : decode cX10_store 51 = .ok (.iconst 1, 1) := by decide +kernel
theorem dX10_store_52 : decode cX10_store 52 = .ok (.iadd, 1) := by decide +kernel
theorem dX10_store_53 : decode cX10_store 53 = .ok (.putfield 24, 3) := by decide +kernel
theorem dX10_store_56 : decode cX10_store 56 = .ok (.aload_n 0, 1) := by decide +kernel
theorem dX10_store_57 : decode cX10_store 57 = .ok (.getfield 11, 3) := by decide +kernel
theorem dX10_store_60 : decode cX10_store 60 = .ok (.bipush 10, 2) := by decide +kernel
theorem dX10_store_62 : decode cX10_store 62 = .ok (.aaload, 1) := by decide +kernel
theorem dX10_store_63 : decode cX10_store 63 = .ok (.iload_n 1, 1) := by decide +kernel
theorem dX10_store_64 : decode cX10_store 64 = .ok (.aload_n 0, 1) := by decide +kernel
theorem dX10_store_65 : decode cX10_store 65 = .ok (.getfield 30, 3) := by decide +kernel
theorem dX10_store_68 : decode cX10_store 68 = .ok (.iastore, 1) := by decide +kernel
theorem dX10_store_69 : decode cX10_store 69 = .ok (.aload_n 0, 1) := by decide +kernel
theorem dX10_store_70 : decode cX10_store 70 = .ok (.getfield 11, 3) := by decide +kernel
theorem dX10_store_73 : decode cX10_store 73 = .ok (.bipush 11, 2) := by decide +kernel
theorem dX10_store_75 : decode cX10_store 75 = .ok (.aaload, 1) := by decide +kernel
theorem dX10_store_76 : decode cX10_store 76 = .ok (.iload_n 1, 1) := by decide +kernel
theorem dX10_store_77 : decode cX10_store 77 = .ok (.aload_n 0, 1) := by decide +kernel
theorem dX10_store_78 : decode cX10_store 78 = .ok (.getfield 30, 3) := by decide +kernel
theorem dX10_store_81 : decode cX10_store 81 = .ok (.iastore, 1) := by decide +kernel
theorem dX10_store_82 : decode cX10_store 82 = .ok (.return_, 1) := by decide +kernel
theorem cwX10_store : mw_cwV yX10_store cX10_store 2 (none) 1 := ⟨⟨wd_9, wd_1738, by decide +kernel⟩, wd_1737, sl_136⟩
set_option maxHeartbeats 4000000 in
set_option maxRecDepth 100000 in
theorem tX10_store (l : Launch) (G : mwG) (ad : Nat → Nat) (fu : Nat) (a1 : Int32) (M : mwM) (L : mwL) {M0 : mwM} {L0 : mwL} (hD : DX10_store fu a1 M L = some (M0, L0)) : Met l yX10_store (Cond.code yX10_store cX10_store 2 (none) :: GT) ({ frames := 2, cells := 0, slots := 0, locals := 45 }) (mw_Pre G ad NF TF FF M L [.ref (ad 139), .int a1]) (mw_Qv G ad NF TF FF (mw_eqV M0 L0)) 0 0 (mw_fr G) := by
  refine mw_enter (by decide) (Nat.le_of_ble_eq_true rfl) ?_
  intro p e s m below meth c ls C hr hlocks hnm hw hl
  have hl : lv_has ls 2 [(0, .ref (ad 139)), (1, .int a1)] := hl
  have hb69 : ∀ (M : mwM) (L : mwL) (H : Heap) (locs : List Loc) (ls : Array Slot), fX10_store_b69 fu a1 M L = some (M0, L0) → mw_W G ad NF TF FF M L H locs → lv_has ls 2 [(0, .ref (ad 139)), (1, .int a1)] → W p l e ({ frames := 2, cells := 0, slots := 0, locals := 45 }) s m [.ref (ad 139), .int a1].toArray below meth c H locs 0 0 (MQ below (mw_Qv G ad NF TF FF (mw_eqV M0 L0)) [.ref (ad 139), .int a1].toArray s 0 0 (mw_fr G)) (F0 m 69 ls []) := by
    intro M L H locs ls hD hw hl
    unfold fX10_store_b69 at hD
    refine lv_aload_n C.1.1 C.1.2.1 dX10_store_69 rfl (lv_at hl 0 rfl) ?_
    refine mr_getR C hw kc_10 0 (by decide) tf_139 ff_139_0 wd_328 dX10_store_70 (by decide) rfl ?_
    refine lv_bipush (v := 11) C.1.1 C.1.2.1 dX10_store_73 (by decide) ?_
    refine mr_aald C hw (by decide) tf_140 (by decide) (by decide) rfl rfl (show vp_in 11 12 from by unfold vp_in; decide) ff_140_11 dX10_store_75 ?_
    refine lv_iload_n C.1.1 C.1.2.1 dX10_store_76 rfl (lv_at hl 1 rfl) ?_
    refine lv_aload_n C.1.1 C.1.2.1 dX10_store_77 rfl (lv_at hl 0 rfl) ?_
    refine mr_getI C hw kc_10 5 (by decide) tf_139 wd_337 dX10_store_78 (by decide) rfl ?_
    obtain ⟨q9, hD⟩ := g_ck hD
    obtain ⟨M10, eM10, hD⟩ := g_let hD
    refine mr_iast C hw (by decide) tf_152 q9 dX10_store_81 (fun H locs hw => ?_)
    replace hw : mw_W G ad NF TF FF M10 L H locs := by rw [eM10]; exact hw
    exact mr_vret C hr hlocks hw (Option.some.inj hD) dX10_store_82
  have hb26 : ∀ (M : mwM) (L : mwL) (H : Heap) (locs : List Loc) (ls : Array Slot), fX10_store_b26 fu a1 M L = some (M0, L0) → mw_W G ad NF TF FF M L H locs → lv_has ls 2 [(0, .ref (ad 139)), (1, .int a1)] → W p l e ({ frames := 2, cells := 0, slots := 0, locals := 45 }) s m [.ref (ad 139), .int a1].toArray below meth c H locs 0 0 (MQ below (mw_Qv G ad NF TF FF (mw_eqV M0 L0)) [.ref (ad 139), .int a1].toArray s 0 0 (mw_fr G)) (F0 m 26 ls []) := by
    intro M L H locs ls hD hw hl
    unfold fX10_store_b26 at hD
    refine lv_aload_n C.1.1 C.1.2.1 dX10_store_26 rfl (lv_at hl 0 rfl) ?_
    refine mr_getI C hw kc_10 3 (by decide) tf_139 wd_334 dX10_store_27 (by decide) rfl ?_
    refine lv_bipush (v := 8) C.1.1 C.1.2.1 dX10_store_30 (by decide) ?_
    refine lv_icmp_lt (tgt := 36) C.1.1 C.1.2.1 dX10_store_32 (by decide) (fun c1 => ?_) (fun c1 => ?_)
    · replace hD := g_pos c1 hD
      refine lv_aload_n C.1.1 C.1.2.1 dX10_store_36 rfl (lv_at hl 0 rfl) ?_
      refine mr_getR C hw kc_10 1 (by decide) tf_139 ff_139_1 wd_329 dX10_store_37 (by decide) rfl ?_
      refine lv_aload_n C.1.1 C.1.2.1 dX10_store_40 rfl (lv_at hl 0 rfl) ?_
      refine mr_getI C hw kc_10 3 (by decide) tf_139 wd_334 dX10_store_41 (by decide) rfl ?_
      refine lv_iload_n C.1.1 C.1.2.1 dX10_store_44 rfl (lv_at hl 1 rfl) ?_
      obtain ⟨q2, hD⟩ := g_ck hD
      obtain ⟨M3, eM3, hD⟩ := g_let hD
      refine mr_iast C hw (by decide) tf_153 q2 dX10_store_45 (fun H locs hw => ?_)
      replace hw : mw_W G ad NF TF FF M3 L H locs := by rw [eM3]; exact hw
      refine lv_aload_n C.1.1 C.1.2.1 dX10_store_46 rfl (lv_at hl 0 rfl) ?_
      refine lv_dup C.1.1 C.1.2.1 dX10_store_47 rfl ?_
      refine mr_getI C hw kc_10 3 (by decide) tf_139 wd_334 dX10_store_48 (by decide) rfl ?_
      refine lv_iconst (v := 1) C.1.1 C.1.2.1 dX10_store_51 (by decide) ?_
      refine lv_iadd C.1.1 C.1.2.1 dX10_store_52 ?_
      obtain ⟨M4, eM4, hD⟩ := g_let hD
      refine mr_putI C hw kc_10 3 (by decide) tf_139 wd_334 dX10_store_53 (by decide) rfl rfl rfl rfl (fun H locs hw => ?_)
      replace hw : mw_W G ad NF TF FF M4 L H locs := by rw [eM4]; exact hw
      refine lv_aload_n C.1.1 C.1.2.1 dX10_store_56 rfl (lv_at hl 0 rfl) ?_
      refine mr_getR C hw kc_10 0 (by decide) tf_139 ff_139_0 wd_328 dX10_store_57 (by decide) rfl ?_
      refine lv_bipush (v := 10) C.1.1 C.1.2.1 dX10_store_60 (by decide) ?_
      refine mr_aald C hw (by decide) tf_140 (by decide) (by decide) rfl rfl (show vp_in 10 12 from by unfold vp_in; decide) ff_140_10 dX10_store_62 ?_
      refine lv_iload_n C.1.1 C.1.2.1 dX10_store_63 rfl (lv_at hl 1 rfl) ?_
      refine lv_aload_n C.1.1 C.1.2.1 dX10_store_64 rfl (lv_at hl 0 rfl) ?_
      refine mr_getI C hw kc_10 5 (by decide) tf_139 wd_337 dX10_store_65 (by decide) rfl ?_
      obtain ⟨q6, hD⟩ := g_ck hD
      obtain ⟨M7, eM7, hD⟩ := g_let hD
      refine mr_iast C hw (by decide) tf_151 q6 dX10_store_68 (fun H locs hw => ?_)
      replace hw : mw_W G ad NF TF FF M7 L H locs := by rw [eM7]; exact hw
      exact hb69 M7 L _ _ ls hD hw (lv_sub hl [0, 1] rfl)
    · replace hD := g_neg c1 hD
      exact mr_vret C hr hlocks hw (Option.some.inj hD) dX10_store_35
  unfold DX10_store at hD
  refine lv_aload_n C.1.1 C.1.2.1 dX10_store_0 rfl (lv_at hl 0 rfl) ?_
  refine lv_iload_n C.1.1 C.1.2.1 dX10_store_1 rfl (lv_at hl 1 rfl) ?_
  obtain ⟨r13, M11, L12, h1, hD⟩ := g_b3 hD
  refine md_cvI (As := [.int a1]) (rest := []) C hw (tX10_entryOf l G ad fu a1 M L h1) kc_10 (by decide) tf_139 wd_1739 cwX10_entryOf ⟨Nat.le_of_ble_eq_true rfl, Nat.le_of_ble_eq_true rfl⟩ rfl hl.1 (Nat.le_of_ble_eq_true rfl) dX10_store_2 rfl rfl ⟨Nat.zero_le _, Nat.zero_le _⟩ rfl (fun H locs hw => ?_)
  refine lv_if_ge (tgt := 69) C.1.1 C.1.2.1 dX10_store_5 (by decide) (fun c14 => ?_) (fun c14 => ?_)
  · replace hD := g_pos c14 hD
    exact hb69 M11 L12 _ _ ls hD hw (lv_sub hl [0, 1] rfl)
  · replace hD := g_neg c14 hD
    refine lv_aload_n C.1.1 C.1.2.1 dX10_store_8 rfl (lv_at hl 0 rfl) ?_
    refine mr_getI C hw kc_10 3 (by decide) tf_139 wd_334 dX10_store_9 (by decide) rfl ?_
    refine lv_bipush (v := 8) C.1.1 C.1.2.1 dX10_store_12 (by decide) ?_
    refine lv_icmp_lt (tgt := 26) C.1.1 C.1.2.1 dX10_store_14 (by decide) (fun c15 => ?_) (fun c15 => ?_)
    · replace hD := g_pos c15 hD
      exact hb26 M11 L12 _ _ ls hD hw (lv_sub hl [0, 1] rfl)
    · replace hD := g_neg c15 hD
      refine lv_aload_n C.1.1 C.1.2.1 dX10_store_17 rfl (lv_at hl 0 rfl) ?_
      refine lv_aload_n C.1.1 C.1.2.1 dX10_store_18 rfl (lv_at hl 0 rfl) ?_
      refine lv_iload_n C.1.1 C.1.2.1 dX10_store_19 rfl (lv_at hl 1 rfl) ?_
      obtain ⟨r18, M16, L17, h1, hD⟩ := g_b3 hD
      refine md_cvI (As := [.int a1]) (rest := [.ref (ad 139)]) C hw (tX10_findLesser l G ad fu a1 M11 L12 h1) kc_10 (by decide) tf_139 wd_1743 cwX10_findLesser ⟨Nat.le_of_ble_eq_true rfl, Nat.le_of_ble_eq_true rfl⟩ rfl hl.1 (Nat.le_of_ble_eq_true rfl) dX10_store_20 rfl rfl ⟨Nat.zero_le _, Nat.zero_le _⟩ rfl (fun H locs hw => ?_)
      obtain ⟨M19, L20, h1, hD⟩ := g_b2 hD
      refine md_cvV (As := [.int r18]) (rest := []) C hw (tX10_removeEntry l G ad fu r18 M16 L17 h1) kc_10 (by decide) tf_139 wd_1751 cwX10_removeEntry ⟨Nat.le_of_ble_eq_true rfl, Nat.le_of_ble_eq_true rfl⟩ rfl hl.1 (Nat.le_of_ble_eq_true rfl) dX10_store_23 rfl rfl ⟨Nat.zero_le _, Nat.zero_le _⟩ rfl (fun H locs hw => ?_)
      exact hb26 M19 L20 _ _ ls hD hw (lv_sub hl [0, 1] rfl)

theorem dX10_testFailed_0 : decode cX10_testFailed 0 = .ok (.aload_n 0, 1) := by decide +kernel
theorem dX10_testFailed_1 : decode cX10_testFailed 1 = .ok (.getfield 11, 3) := by decide +kernel
theorem dX10_testFailed_4 : decode cX10_testFailed 4 = .ok (.iconst 5, 1) := by decide +kernel
theorem dX10_testFailed_5 : decode cX10_testFailed 5 = .ok (.aaload, 1) := by decide +kernel
theorem dX10_testFailed_6 : decode cX10_testFailed 6 = .ok (.iload_n 1, 1) := by decide +kernel
theorem dX10_testFailed_7 : decode cX10_testFailed 7 = .ok (.iaload, 1) := by decide +kernel
theorem dX10_testFailed_8 : decode cX10_testFailed 8 = .ok (.istore_n 2, 1) := by decide +kernel
theorem dX10_testFailed_9 : decode cX10_testFailed 9 = .ok (.iload_n 2, 1) := by decide +kernel
theorem dX10_testFailed_10 : decode cX10_testFailed 10 = .ok (.iconst 1, 1) := by decide +kernel
theorem dX10_testFailed_11 : decode cX10_testFailed 11 = .ok (.iand, 1) := by decide +kernel
theorem dX10_testFailed_12 : decode cX10_testFailed 12 = .ok (.ifCond .eq 7, 3) := by decide +kernel
theorem dX10_testFailed_15 : decode cX10_testFailed 15 = .ok (.iconst 1, 1) := by decide +kernel
theorem dX10_testFailed_16 : decode cX10_testFailed 16 = .ok (.goto 4, 3) := by decide +kernel
theorem dX10_testFailed_19 : decode cX10_testFailed 19 = .ok (.iconst 0, 1) := by decide +kernel
theorem dX10_testFailed_20 : decode cX10_testFailed 20 = .ok (.istore_n 3, 1) := by decide +kernel
theorem dX10_testFailed_21 : decode cX10_testFailed 21 = .ok (.iload_n 2, 1) := by decide +kernel
theorem dX10_testFailed_22 : decode cX10_testFailed 22 = .ok (.iconst 2, 1) := by decide +kernel
theorem dX10_testFailed_23 : decode cX10_testFailed 23 = .ok (.iand, 1) := by decide +kernel
theorem dX10_testFailed_24 : decode cX10_testFailed 24 = .ok (.ifCond .ne 29, 3) := by decide +kernel
theorem dX10_testFailed_27 : decode cX10_testFailed 27 = .ok (.aload_n 0, 1) := by decide +kernel
theorem dX10_testFailed_28 : decode cX10_testFailed 28 = .ok (.getfield 11, 3) := by decide +kernel
theorem dX10_testFailed_31 : decode cX10_testFailed 31 = .ok (.bipush 7, 2) := by decide +kernel
theorem dX10_testFailed_33 : decode cX10_testFailed 33 = .ok (.aaload, 1) := by decide +kernel
theorem dX10_testFailed_34 : decode cX10_testFailed 34 = .ok (.iload_n 1, 1) := by decide +kernel
theorem dX10_testFailed_35 : decode cX10_testFailed 35 = .ok (.aload_n 0, 1) := by decide +kernel
theorem dX10_testFailed_36 : decode cX10_testFailed 36 = .ok (.getfield 11, 3) := by decide +kernel
theorem dX10_testFailed_39 : decode cX10_testFailed 39 = .ok (.bipush 7, 2) := by decide +kernel
theorem dX10_testFailed_41 : decode cX10_testFailed 41 = .ok (.aaload, 1) := by decide +kernel
theorem dX10_testFailed_42 : decode cX10_testFailed 42 = .ok (.iload_n 1, 1) := by decide +kernel
theorem dX10_testFailed_43 : decode cX10_testFailed 43 = .ok (.iaload, 1) := by decide +kernel
theorem dX10_testFailed_44 : decode cX10_testFailed 44 = .ok (.iconst 1, 1) := by decide +kernel
theorem dX10_testFailed_45 : decode cX10_testFailed 45 = .ok (.iadd, 1) := by decide +kernel
theorem dX10_testFailed_46 : decode cX10_testFailed 46 = .ok (.sipush 255, 3) := by decide +kernel
theorem dX10_testFailed_49 : decode cX10_testFailed 49 = .ok (.invokestatic 41, 3) := by decide +kernel
theorem dX10_testFailed_52 : decode cX10_testFailed 52 = .ok (.iastore, 1) := by decide +kernel
theorem dX10_testFailed_53 : decode cX10_testFailed 53 = .ok (.iload_n 2, 1) := by decide +kernel
theorem dX10_testFailed_54 : decode cX10_testFailed 54 = .ok (.bipush (-81), 2) := by decide +kernel
theorem dX10_testFailed_56 : decode cX10_testFailed 56 = .ok (.iand, 1) := by decide +kernel
theorem dX10_testFailed_57 : decode cX10_testFailed 57 = .ok (.istore_n 2, 1) := by decide +kernel
theorem dX10_testFailed_58 : decode cX10_testFailed 58 = .ok (.aload_n 0, 1) := by decide +kernel
theorem dX10_testFailed_59 : decode cX10_testFailed 59 = .ok (.getfield 11, 3) := by decide +kernel
theorem dX10_testFailed_62 : decode cX10_testFailed 62 = .ok (.bipush 7, 2) := by decide +kernel
theorem dX10_testFailed_64 : decode cX10_testFailed 64 = .ok (.aaload, 1) := by decide +kernel
theorem dX10_testFailed_65 : decode cX10_testFailed 65 = .ok (.iload_n 1, 1) := by decide +kernel
theorem dX10_testFailed_66 : decode cX10_testFailed 66 = .ok (.iaload, 1) := by decide +kernel
theorem dX10_testFailed_67 : decode cX10_testFailed 67 = .ok (.iconst 2, 1) := by decide +kernel
theorem dX10_testFailed_68 : decode cX10_testFailed 68 = .ok (.if_icmp .lt 27, 3) := by decide +kernel
theorem dX10_testFailed_71 : decode cX10_testFailed 71 = .ok (.iload_n 2, 1) := by decide +kernel
theorem dX10_testFailed_72 : decode cX10_testFailed 72 = .ok (.aload_n 0, 1) := by decide +kernel
theorem dX10_testFailed_73 : decode cX10_testFailed 73 = .ok (.getfield 11, 3) := by decide +kernel
theorem dX10_testFailed_76 : decode cX10_testFailed 76 = .ok (.iconst 4, 1) := by decide +kernel
theorem dX10_testFailed_77 : decode cX10_testFailed 77 = .ok (.aaload, 1) := by decide +kernel
theorem dX10_testFailed_78 : decode cX10_testFailed 78 = .ok (.iload_n 1, 1) := by decide +kernel
theorem dX10_testFailed_79 : decode cX10_testFailed 79 = .ok (.iaload, 1) := by decide +kernel
theorem dX10_testFailed_80 : decode cX10_testFailed 80 = .ok (.bipush 64, 2) := by decide +kernel
theorem dX10_testFailed_82 : decode cX10_testFailed 82 = .ok (.if_icmp .gt 9, 3) := by decide +kernel
theorem dX10_testFailed_85 : decode cX10_testFailed 85 = .ok (.sipush 136, 3) := by decide +kernel
theorem dX10_testFailed_88 : decode cX10_testFailed 88 = .ok (.goto 5, 3) := by decide +kernel
theorem dX10_testFailed_91 : decode cX10_testFailed 91 = .ok (.bipush 8, 2) := by decide +kernel
theorem dX10_testFailed_93 : decode cX10_testFailed 93 = .ok (.ior, 1) := by decide +kernel
theorem dX10_testFailed_94 : decode cX10_testFailed 94 = .ok (.istore_n 2, 1) := by decide +kernel
theorem dX10_testFailed_95 : decode cX10_testFailed 95 = .ok (.aload_n 0, 1) := by decide +kernel
theorem dX10_testFailed_96 : decode cX10_testFailed 96 = .ok (.getfield 11, 3) := by decide +kernel
theorem dX10_testFailed_99 : decode cX10_testFailed 99 = .ok (.iconst 5, 1) := by decide +kernel
theorem dX10_testFailed_100 : decode cX10_testFailed 100 = .ok (.aaload, 1) := by decide +kernel
theorem dX10_testFailed_101 : decode cX10_testFailed 101 = .ok (.iload_n 1, 1) := by decide +kernel
theorem dX10_testFailed_102 : decode cX10_testFailed 102 = .ok (.iload_n 2, 1) := by decide +kernel
theorem dX10_testFailed_103 : decode cX10_testFailed 103 = .ok (.iconst 1, 1) := by decide +kernel
theorem dX10_testFailed_104 : decode cX10_testFailed 104 = .ok (.ior, 1) := by decide +kernel
theorem dX10_testFailed_105 : decode cX10_testFailed 105 = .ok (.iconst 2, 1) := by decide +kernel
theorem dX10_testFailed_106 : decode cX10_testFailed 106 = .ok (.ior, 1) := by decide +kernel
theorem dX10_testFailed_107 : decode cX10_testFailed 107 = .ok (.iconst 4, 1) := by decide +kernel
theorem dX10_testFailed_108 : decode cX10_testFailed 108 = .ok (.ior, 1) := by decide +kernel
theorem dX10_testFailed_109 : decode cX10_testFailed 109 = .ok (.bipush 32, 2) := by decide +kernel
theorem dX10_testFailed_111 : decode cX10_testFailed 111 = .ok (.ior, 1) := by decide +kernel
theorem dX10_testFailed_112 : decode cX10_testFailed 112 = .ok (.iastore, 1) := by decide +kernel
theorem dX10_testFailed_113 : decode cX10_testFailed 113 = .ok (.aload_n 0, 1) := by decide +kernel
theorem dX10_testFailed_114 : decode cX10_testFailed 114 = .ok (.getfield 11, 3) := by decide +kernel
theorem dX10_testFailed_117 : decode cX10_testFailed 117 = .ok (.bipush 8, 2) := by decide +kernel
theorem dX10_testFailed_119 : decode cX10_testFailed 119 = .ok (.aaload, 1) := by decide +kernel
theorem dX10_testFailed_120 : decode cX10_testFailed 120 = .ok (.iload_n 1, 1) := by decide +kernel
theorem dX10_testFailed_121 : decode cX10_testFailed 121 = .ok (.iconst 0, 1) := by decide +kernel
theorem dX10_testFailed_122 : decode cX10_testFailed 122 = .ok (.iastore, 1) := by decide +kernel
theorem dX10_testFailed_123 : decode cX10_testFailed 123 = .ok (.aload_n 0, 1) := by decide +kernel
theorem dX10_testFailed_124 : decode cX10_testFailed 124 = .ok (.getfield 11, 3) := by decide +kernel
theorem dX10_testFailed_127 : decode cX10_testFailed 127 = .ok (.bipush 9, 2) := by decide +kernel
theorem dX10_testFailed_129 : decode cX10_testFailed 129 = .ok (.aaload, 1) := by decide +kernel
theorem dX10_testFailed_130 : decode cX10_testFailed 130 = .ok (.iload_n 1, 1) := by decide +kernel
theorem dX10_testFailed_131 : decode cX10_testFailed 131 = .ok (.iconst 0, 1) := by decide +kernel
theorem dX10_testFailed_132 : decode cX10_testFailed 132 = .ok (.iastore, 1) := by decide +kernel
theorem dX10_testFailed_133 : decode cX10_testFailed 133 = .ok (.iload_n 3, 1) := by decide +kernel
theorem dX10_testFailed_134 : decode cX10_testFailed 134 = .ok (.ifCond .ne 8, 3) := by decide +kernel
theorem dX10_testFailed_137 : decode cX10_testFailed 137 = .ok (.aload_n 0, 1) := by decide +kernel
theorem dX10_testFailed_138 : decode cX10_testFailed 138 = .ok (.iload_n 1, 1) := by decide +kernel
theorem dX10_testFailed_139 : decode cX10_testFailed 139 = .ok (.invokevirtual 53, 3) := by decide +kernel
theorem dX10_testFailed_142 : decode cX10_testFailed 142 = .ok (.return_, 1) := by decide +kernel
theorem cwX10_testFailed : mw_cwV yX10_testFailed cX10_testFailed 4 (none) 1 := ⟨⟨wd_9, wd_1734, by decide +kernel⟩, wd_1733, sl_135⟩
set_option maxHeartbeats 4000000 in
set_option maxRecDepth 100000 in
theorem tX10_testFailed (l : Launch) (G : mwG) (ad : Nat → Nat) (fu : Nat) (a1 : Int32) (M : mwM) (L : mwL) {M0 : mwM} {L0 : mwL} (hD : DX10_testFailed fu a1 M L = some (M0, L0)) : Met l yX10_testFailed (Cond.code yX10_testFailed cX10_testFailed 4 (none) :: GT) ({ frames := 3, cells := 0, slots := 0, locals := 66 }) (mw_Pre G ad NF TF FF M L [.ref (ad 139), .int a1]) (mw_Qv G ad NF TF FF (mw_eqV M0 L0)) 0 0 (mw_fr G) := by
  refine mw_enter (by decide) (Nat.le_of_ble_eq_true rfl) ?_
  intro p e s m below meth c ls C hr hlocks hnm hw hl
  have hl : lv_has ls 4 [(0, .ref (ad 139)), (1, .int a1)] := hl
  have hb142 : ∀ (M : mwM) (L : mwL) (H : Heap) (locs : List Loc) (ls : Array Slot), fX10_testFailed_b142 fu a1 M L = some (M0, L0) → mw_W G ad NF TF FF M L H locs → lv_has ls 4 [] → W p l e ({ frames := 3, cells := 0, slots := 0, locals := 66 }) s m [.ref (ad 139), .int a1].toArray below meth c H locs 0 0 (MQ below (mw_Qv G ad NF TF FF (mw_eqV M0 L0)) [.ref (ad 139), .int a1].toArray s 0 0 (mw_fr G)) (F0 m 142 ls []) := by
    intro M L H locs ls hD hw hl
    unfold fX10_testFailed_b142 at hD
    exact mr_vret C hr hlocks hw (Option.some.inj hD) dX10_testFailed_142
  have hb95 : ∀ (v2 : Int32) (v3 : Int32) (M : mwM) (L : mwL) (H : Heap) (locs : List Loc) (ls : Array Slot), fX10_testFailed_b95 fu a1 v2 v3 M L = some (M0, L0) → mw_W G ad NF TF FF M L H locs → lv_has ls 4 [(0, .ref (ad 139)), (1, .int a1), (2, .int v2), (3, .int v3)] → W p l e ({ frames := 3, cells := 0, slots := 0, locals := 66 }) s m [.ref (ad 139), .int a1].toArray below meth c H locs 0 0 (MQ below (mw_Qv G ad NF TF FF (mw_eqV M0 L0)) [.ref (ad 139), .int a1].toArray s 0 0 (mw_fr G)) (F0 m 95 ls []) := by
    intro v2 v3 M L H locs ls hD hw hl
    unfold fX10_testFailed_b95 at hD
    refine lv_aload_n C.1.1 C.1.2.1 dX10_testFailed_95 rfl (lv_at hl 0 rfl) ?_
    refine mr_getR C hw kc_10 0 (by decide) tf_139 ff_139_0 wd_328 dX10_testFailed_96 (by decide) rfl ?_
    refine lv_iconst (v := 5) C.1.1 C.1.2.1 dX10_testFailed_99 (by decide) ?_
    refine mr_aald C hw (by decide) tf_140 (by decide) (by decide) rfl rfl (show vp_in 5 12 from by unfold vp_in; decide) ff_140_5 dX10_testFailed_100 ?_
    refine lv_iload_n C.1.1 C.1.2.1 dX10_testFailed_101 rfl (lv_at hl 1 rfl) ?_
    refine lv_iload_n C.1.1 C.1.2.1 dX10_testFailed_102 rfl (lv_at hl 2 rfl) ?_
    refine lv_iconst (v := 1) C.1.1 C.1.2.1 dX10_testFailed_103 (by decide) ?_
    refine lv_ior C.1.1 C.1.2.1 dX10_testFailed_104 ?_
    refine lv_iconst (v := 2) C.1.1 C.1.2.1 dX10_testFailed_105 (by decide) ?_
    refine lv_ior C.1.1 C.1.2.1 dX10_testFailed_106 ?_
    refine lv_iconst (v := 4) C.1.1 C.1.2.1 dX10_testFailed_107 (by decide) ?_
    refine lv_ior C.1.1 C.1.2.1 dX10_testFailed_108 ?_
    refine lv_bipush (v := 32) C.1.1 C.1.2.1 dX10_testFailed_109 (by decide) ?_
    refine lv_ior C.1.1 C.1.2.1 dX10_testFailed_111 ?_
    obtain ⟨q16, hD⟩ := g_ck hD
    obtain ⟨M17, eM17, hD⟩ := g_let hD
    refine mr_iast C hw (by decide) tf_146 q16 dX10_testFailed_112 (fun H locs hw => ?_)
    replace hw : mw_W G ad NF TF FF M17 L H locs := by rw [eM17]; exact hw
    refine lv_aload_n C.1.1 C.1.2.1 dX10_testFailed_113 rfl (lv_at hl 0 rfl) ?_
    refine mr_getR C hw kc_10 0 (by decide) tf_139 ff_139_0 wd_328 dX10_testFailed_114 (by decide) rfl ?_
    refine lv_bipush (v := 8) C.1.1 C.1.2.1 dX10_testFailed_117 (by decide) ?_
    refine mr_aald C hw (by decide) tf_140 (by decide) (by decide) rfl rfl (show vp_in 8 12 from by unfold vp_in; decide) ff_140_8 dX10_testFailed_119 ?_
    refine lv_iload_n C.1.1 C.1.2.1 dX10_testFailed_120 rfl (lv_at hl 1 rfl) ?_
    refine lv_iconst (v := 0) C.1.1 C.1.2.1 dX10_testFailed_121 (by decide) ?_
    obtain ⟨q19, hD⟩ := g_ck hD
    obtain ⟨M20, eM20, hD⟩ := g_let hD
    refine mr_iast C hw (by decide) tf_149 q19 dX10_testFailed_122 (fun H locs hw => ?_)
    replace hw : mw_W G ad NF TF FF M20 L H locs := by rw [eM20]; exact hw
    refine lv_aload_n C.1.1 C.1.2.1 dX10_testFailed_123 rfl (lv_at hl 0 rfl) ?_
    refine mr_getR C hw kc_10 0 (by decide) tf_139 ff_139_0 wd_328 dX10_testFailed_124 (by decide) rfl ?_
    refine lv_bipush (v := 9) C.1.1 C.1.2.1 dX10_testFailed_127 (by decide) ?_
    refine mr_aald C hw (by decide) tf_140 (by decide) (by decide) rfl rfl (show vp_in 9 12 from by unfold vp_in; decide) ff_140_9 dX10_testFailed_129 ?_
    refine lv_iload_n C.1.1 C.1.2.1 dX10_testFailed_130 rfl (lv_at hl 1 rfl) ?_
    refine lv_iconst (v := 0) C.1.1 C.1.2.1 dX10_testFailed_131 (by decide) ?_
    obtain ⟨q22, hD⟩ := g_ck hD
    obtain ⟨M23, eM23, hD⟩ := g_let hD
    refine mr_iast C hw (by decide) tf_150 q22 dX10_testFailed_132 (fun H locs hw => ?_)
    replace hw : mw_W G ad NF TF FF M23 L H locs := by rw [eM23]; exact hw
    refine lv_iload_n C.1.1 C.1.2.1 dX10_testFailed_133 rfl (lv_at hl 3 rfl) ?_
    refine lv_if_ne (tgt := 142) C.1.1 C.1.2.1 dX10_testFailed_134 (by decide) (fun c24 => ?_) (fun c24 => ?_)
    · replace hD := g_neg c24 hD
      exact hb142 M23 L _ _ ls hD hw (lv_sub hl [] rfl)
    · replace hD := g_pos c24 hD
      refine lv_aload_n C.1.1 C.1.2.1 dX10_testFailed_137 rfl (lv_at hl 0 rfl) ?_
      refine lv_iload_n C.1.1 C.1.2.1 dX10_testFailed_138 rfl (lv_at hl 1 rfl) ?_
      obtain ⟨M25, L26, h1, hD⟩ := g_b2 hD
      refine md_cvV (As := [.int a1]) (rest := []) C hw (tX10_store l G ad fu a1 M23 L h1) kc_10 (by decide) tf_139 wd_1735 cwX10_store ⟨Nat.le_of_ble_eq_true rfl, Nat.le_of_ble_eq_true rfl⟩ rfl hl.1 (Nat.le_of_ble_eq_true rfl) dX10_testFailed_139 rfl rfl ⟨Nat.zero_le _, Nat.zero_le _⟩ rfl (fun H locs hw => ?_)
      exact hb142 M25 L26 _ _ ls hD hw (lv_sub hl [] rfl)
  have hb93 : ∀ (v3 : Int32) (s0 : Int32) (s1 : Int32) (M : mwM) (L : mwL) (H : Heap) (locs : List Loc) (ls : Array Slot), fX10_testFailed_b93 fu a1 v3 s0 s1 M L = some (M0, L0) → mw_W G ad NF TF FF M L H locs → lv_has ls 4 [(0, .ref (ad 139)), (1, .int a1), (3, .int v3)] → W p l e ({ frames := 3, cells := 0, slots := 0, locals := 66 }) s m [.ref (ad 139), .int a1].toArray below meth c H locs 0 0 (MQ below (mw_Qv G ad NF TF FF (mw_eqV M0 L0)) [.ref (ad 139), .int a1].toArray s 0 0 (mw_fr G)) (F0 m 93 ls [.int s1, .int s0]) := by
    intro v3 s0 s1 M L H locs ls hD hw hl
    unfold fX10_testFailed_b93 at hD
    refine lv_ior C.1.1 C.1.2.1 dX10_testFailed_93 ?_
    obtain ⟨x14, ex14, hD⟩ := g_let hD
    refine W.eq (g2 := F0 m 94 ls (.int x14 :: [])) (by rw [ex14]) ?_
    refine lv_istore_n (lv' := [(2, .int x14), (0, .ref (ad 139)), (1, .int a1), (3, .int v3)]) C.1.1 C.1.2.1 dX10_testFailed_94 rfl hl (by decide) rfl (fun ls hl => ?_)
    exact hb95 x14 v3 M L _ _ ls hD hw (lv_sub hl [1, 2, 0, 3] rfl)
  have hb53 : ∀ (v2 : Int32) (v3 : Int32) (M : mwM) (L : mwL) (H : Heap) (locs : List Loc) (ls : Array Slot), fX10_testFailed_b53 fu a1 v2 v3 M L = some (M0, L0) → mw_W G ad NF TF FF M L H locs → lv_has ls 4 [(0, .ref (ad 139)), (1, .int a1), (2, .int v2), (3, .int v3)] → W p l e ({ frames := 3, cells := 0, slots := 0, locals := 66 }) s m [.ref (ad 139), .int a1].toArray below meth c H locs 0 0 (MQ below (mw_Qv G ad NF TF FF (mw_eqV M0 L0)) [.ref (ad 139), .int a1].toArray s 0 0 (mw_fr G)) (F0 m 53 ls []) := by
    intro v2 v3 M L H locs ls hD hw hl
    unfold fX10_testFailed_b53 at hD
    refine lv_iload_n C.1.1 C.1.2.1 dX10_testFailed_53 rfl (lv_at hl 2 rfl) ?_
    refine lv_bipush (v := (-81)) C.1.1 C.1.2.1 dX10_testFailed_54 (by decide) ?_
    refine lv_iand C.1.1 C.1.2.1 dX10_testFailed_56 ?_
    obtain ⟨x7, ex7, hD⟩ := g_let hD
    refine W.eq (g2 := F0 m 57 ls (.int x7 :: [])) (by rw [ex7]) ?_
    refine lv_istore_n (lv' := [(2, .int x7), (0, .ref (ad 139)), (1, .int a1), (3, .int v3)]) C.1.1 C.1.2.1 dX10_testFailed_57 rfl hl (by decide) rfl (fun ls hl => ?_)
    refine lv_aload_n C.1.1 C.1.2.1 dX10_testFailed_58 rfl (lv_at hl 1 rfl) ?_
    refine mr_getR C hw kc_10 0 (by decide) tf_139 ff_139_0 wd_328 dX10_testFailed_59 (by decide) rfl ?_
    refine lv_bipush (v := 7) C.1.1 C.1.2.1 dX10_testFailed_62 (by decide) ?_
    refine mr_aald C hw (by decide) tf_140 (by decide) (by decide) rfl rfl (show vp_in 7 12 from by unfold vp_in; decide) ff_140_7 dX10_testFailed_64 ?_
    refine lv_iload_n C.1.1 C.1.2.1 dX10_testFailed_65 rfl (lv_at hl 2 rfl) ?_
    obtain ⟨q9, hD⟩ := g_ck hD
    refine mr_iald C hw (by decide) tf_148 q9 dX10_testFailed_66 ?_
    refine lv_iconst (v := 2) C.1.1 C.1.2.1 dX10_testFailed_67 (by decide) ?_
    refine lv_icmp_lt (tgt := 95) C.1.1 C.1.2.1 dX10_testFailed_68 (by decide) (fun c10 => ?_) (fun c10 => ?_)
    · replace hD := g_pos c10 hD
      exact hb95 x7 v3 M L _ _ ls hD hw (lv_sub hl [1, 2, 0, 3] rfl)
    · replace hD := g_neg c10 hD
      refine lv_iload_n C.1.1 C.1.2.1 dX10_testFailed_71 rfl (lv_at hl 0 rfl) ?_
      refine lv_aload_n C.1.1 C.1.2.1 dX10_testFailed_72 rfl (lv_at hl 1 rfl) ?_
      refine mr_getR C hw kc_10 0 (by decide) tf_139 ff_139_0 wd_328 dX10_testFailed_73 (by decide) rfl ?_
      refine lv_iconst (v := 4) C.1.1 C.1.2.1 dX10_testFailed_76 (by decide) ?_
      refine mr_aald C hw (by decide) tf_140 (by decide) (by decide) rfl rfl (show vp_in 4 12 from by unfold vp_in; decide) ff_140_4 dX10_testFailed_77 ?_
      refine lv_iload_n C.1.1 C.1.2.1 dX10_testFailed_78 rfl (lv_at hl 2 rfl) ?_
      obtain ⟨q12, hD⟩ := g_ck hD
      refine mr_iald C hw (by decide) tf_145 q12 dX10_testFailed_79 ?_
      refine lv_bipush (v := 64) C.1.1 C.1.2.1 dX10_testFailed_80 (by decide) ?_
      refine lv_icmp_gt (tgt := 91) C.1.1 C.1.2.1 dX10_testFailed_82 (by decide) (fun c13 => ?_) (fun c13 => ?_)
      · replace hD := g_pos c13 hD
        refine lv_bipush (v := 8) C.1.1 C.1.2.1 dX10_testFailed_91 (by decide) ?_
        exact hb93 v3 x7 8 M L _ _ ls hD hw (lv_sub hl [1, 2, 3] rfl)
      · replace hD := g_neg c13 hD
        refine lv_sipush (v := 136) C.1.1 C.1.2.1 dX10_testFailed_85 (by decide) ?_
        refine lv_goto (tgt := 93) C.1.1 C.1.2.1 dX10_testFailed_88 (by decide) ?_
        exact hb93 v3 x7 136 M L _ _ ls hD hw (lv_sub hl [1, 2, 3] rfl)
  have hb20 : ∀ (v2 : Int32) (s0 : Int32) (M : mwM) (L : mwL) (H : Heap) (locs : List Loc) (ls : Array Slot), fX10_testFailed_b20 fu a1 v2 s0 M L = some (M0, L0) → mw_W G ad NF TF FF M L H locs → lv_has ls 4 [(0, .ref (ad 139)), (1, .int a1), (2, .int v2)] → W p l e ({ frames := 3, cells := 0, slots := 0, locals := 66 }) s m [.ref (ad 139), .int a1].toArray below meth c H locs 0 0 (MQ below (mw_Qv G ad NF TF FF (mw_eqV M0 L0)) [.ref (ad 139), .int a1].toArray s 0 0 (mw_fr G)) (F0 m 20 ls [.int s0]) := by
    intro v2 s0 M L H locs ls hD hw hl
    unfold fX10_testFailed_b20 at hD
    refine lv_istore_n (lv' := [(3, .int s0), (0, .ref (ad 139)), (1, .int a1), (2, .int v2)]) C.1.1 C.1.2.1 dX10_testFailed_20 rfl hl (by decide) rfl (fun ls hl => ?_)
    refine lv_iload_n C.1.1 C.1.2.1 dX10_testFailed_21 rfl (lv_at hl 3 rfl) ?_
    refine lv_iconst (v := 2) C.1.1 C.1.2.1 dX10_testFailed_22 (by decide) ?_
    refine lv_iand C.1.1 C.1.2.1 dX10_testFailed_23 ?_
    refine lv_if_ne (tgt := 53) C.1.1 C.1.2.1 dX10_testFailed_24 (by decide) (fun c1 => ?_) (fun c1 => ?_)
    · replace hD := g_neg c1 hD
      exact hb53 v2 s0 M L _ _ ls hD hw (lv_sub hl [1, 2, 3, 0] rfl)
    · replace hD := g_pos c1 hD
      refine lv_aload_n C.1.1 C.1.2.1 dX10_testFailed_27 rfl (lv_at hl 1 rfl) ?_
      refine mr_getR C hw kc_10 0 (by decide) tf_139 ff_139_0 wd_328 dX10_testFailed_28 (by decide) rfl ?_
      refine lv_bipush (v := 7) C.1.1 C.1.2.1 dX10_testFailed_31 (by decide) ?_
      refine mr_aald C hw (by decide) tf_140 (by decide) (by decide) rfl rfl (show vp_in 7 12 from by unfold vp_in; decide) ff_140_7 dX10_testFailed_33 ?_
      refine lv_iload_n C.1.1 C.1.2.1 dX10_testFailed_34 rfl (lv_at hl 2 rfl) ?_
      refine lv_aload_n C.1.1 C.1.2.1 dX10_testFailed_35 rfl (lv_at hl 1 rfl) ?_
      refine mr_getR C hw kc_10 0 (by decide) tf_139 ff_139_0 wd_328 dX10_testFailed_36 (by decide) rfl ?_
      refine lv_bipush (v := 7) C.1.1 C.1.2.1 dX10_testFailed_39 (by decide) ?_
      refine mr_aald C hw (by decide) tf_140 (by decide) (by decide) rfl rfl (show vp_in 7 12 from by unfold vp_in; decide) ff_140_7 dX10_testFailed_41 ?_
      refine lv_iload_n C.1.1 C.1.2.1 dX10_testFailed_42 rfl (lv_at hl 2 rfl) ?_
      obtain ⟨q4, hD⟩ := g_ck hD
      refine mr_iald C hw (by decide) tf_148 q4 dX10_testFailed_43 ?_
      refine lv_iconst (v := 1) C.1.1 C.1.2.1 dX10_testFailed_44 (by decide) ?_
      refine lv_iadd C.1.1 C.1.2.1 dX10_testFailed_45 ?_
      refine lv_sipush (v := 255) C.1.1 C.1.2.1 dX10_testFailed_46 (by decide) ?_
      refine va_mmin C.1.1 C.1.2.1 (C.1.2.2.1.trans hl.1.symm) C.1.2.2.2.1 (C.1.2.2.2.2 _ wd_1633) (C.1.2.2.2.2 _ wd_1150) (C.1.2.2.2.2 _ wd_30) (C.1.2.2.2.2 _ wd_1151) (Nat.le_of_ble_eq_true rfl) (Nat.le_of_ble_eq_true rfl) (Nat.zero_le _) (Nat.zero_le _) dX10_testFailed_49 ?_
      obtain ⟨q5, hD⟩ := g_ck hD
      obtain ⟨M6, eM6, hD⟩ := g_let hD
      refine mr_iast C hw (by decide) tf_148 q5 dX10_testFailed_52 (fun H locs hw => ?_)
      replace hw : mw_W G ad NF TF FF M6 L H locs := by rw [eM6]; exact hw
      exact hb53 v2 s0 M6 L _ _ ls hD hw (lv_sub hl [1, 2, 3, 0] rfl)
  unfold DX10_testFailed at hD
  refine lv_aload_n C.1.1 C.1.2.1 dX10_testFailed_0 rfl (lv_at hl 0 rfl) ?_
  refine mr_getR C hw kc_10 0 (by decide) tf_139 ff_139_0 wd_328 dX10_testFailed_1 (by decide) rfl ?_
  refine lv_iconst (v := 5) C.1.1 C.1.2.1 dX10_testFailed_4 (by decide) ?_
  refine mr_aald C hw (by decide) tf_140 (by decide) (by decide) rfl rfl (show vp_in 5 12 from by unfold vp_in; decide) ff_140_5 dX10_testFailed_5 ?_
  refine lv_iload_n C.1.1 C.1.2.1 dX10_testFailed_6 rfl (lv_at hl 1 rfl) ?_
  obtain ⟨q28, hD⟩ := g_ck hD
  refine mr_iald C hw (by decide) tf_146 q28 dX10_testFailed_7 ?_
  obtain ⟨x29, ex29, hD⟩ := g_let hD
  refine W.eq (g2 := F0 m 8 ls (.int x29 :: [])) (by rw [ex29]) ?_
  refine lv_istore_n (lv' := [(2, .int x29), (0, .ref (ad 139)), (1, .int a1)]) C.1.1 C.1.2.1 dX10_testFailed_8 rfl hl (by decide) rfl (fun ls hl => ?_)
  refine lv_iload_n C.1.1 C.1.2.1 dX10_testFailed_9 rfl (lv_at hl 0 rfl) ?_
  refine lv_iconst (v := 1) C.1.1 C.1.2.1 dX10_testFailed_10 (by decide) ?_
  refine lv_iand C.1.1 C.1.2.1 dX10_testFailed_11 ?_
  refine lv_if_eq (tgt := 19) C.1.1 C.1.2.1 dX10_testFailed_12 (by decide) (fun c30 => ?_) (fun c30 => ?_)
  · replace hD := g_pos c30 hD
    refine lv_iconst (v := 0) C.1.1 C.1.2.1 dX10_testFailed_19 (by decide) ?_
    exact hb20 x29 0 M L _ _ ls hD hw (lv_sub hl [1, 2, 0] rfl)
  · replace hD := g_neg c30 hD
    refine lv_iconst (v := 1) C.1.1 C.1.2.1 dX10_testFailed_15 (by decide) ?_
    refine lv_goto (tgt := 20) C.1.1 C.1.2.1 dX10_testFailed_16 (by decide) ?_
    exact hb20 x29 1 M L _ _ ls hD hw (lv_sub hl [1, 2, 0] rfl)

theorem dX10_noteFailed_0 : decode cX10_noteFailed 0 = .ok (.aload_n 0, 1) := by decide +kernel
theorem dX10_noteFailed_1 : decode cX10_noteFailed 1 = .ok (.getfield 11, 3) := by decide +kernel
theorem dX10_noteFailed_4 : decode cX10_noteFailed 4 = .ok (.iconst 3, 1) := by decide +kernel
theorem dX10_noteFailed_5 : decode cX10_noteFailed 5 = .ok (.aaload, 1) := by decide +kernel
theorem dX10_noteFailed_6 : decode cX10_noteFailed 6 = .ok (.iload_n 1, 1) := by decide +kernel
theorem dX10_noteFailed_7 : decode cX10_noteFailed 7 = .ok (.iload_n 2, 1) := by decide +kernel
theorem dX10_noteFailed_8 : decode cX10_noteFailed 8 = .ok (.iastore, 1) := by decide +kernel
theorem dX10_noteFailed_9 : decode cX10_noteFailed 9 = .ok (.aload_n 0, 1) := by decide +kernel
theorem dX10_noteFailed_10 : decode cX10_noteFailed 10 = .ok (.dup, 1) := by decide +kernel
theorem dX10_noteFailed_11 : decode cX10_noteFailed 11 = .ok (.getfield 30, 3) := by decide +kernel
theorem dX10_noteFailed_14 : decode cX10_noteFailed 14 = .ok (.iconst 1, 1) := by decide +kernel
theorem dX10_noteFailed_15 : decode cX10_noteFailed 15 = .ok (.iadd, 1) := by decide +kernel
theorem dX10_noteFailed_16 : decode cX10_noteFailed 16 = .ok (.putfield 30, 3) := by decide +kernel
theorem dX10_noteFailed_19 : decode cX10_noteFailed 19 = .ok (.aload_n 0, 1) := by decide +kernel
theorem dX10_noteFailed_20 : decode cX10_noteFailed 20 = .ok (.getfield 11, 3) := by decide +kernel
theorem dX10_noteFailed_23 : decode cX10_noteFailed 23 = .ok (.bipush 6, 2) := by decide +kernel
theorem dX10_noteFailed_25 : decode cX10_noteFailed 25 = .ok (.aaload, 1) := by decide +kernel
theorem dX10_noteFailed_26 : decode cX10_noteFailed 26 = .ok (.iload_n 1, 1) := by decide +kernel
theorem dX10_noteFailed_27 : decode cX10_noteFailed 27 = .ok (.aload_n 0, 1) := by decide +kernel
theorem dX10_noteFailed_28 : decode cX10_noteFailed 28 = .ok (.getfield 11, 3) := by decide +kernel
theorem dX10_noteFailed_31 : decode cX10_noteFailed 31 = .ok (.bipush 6, 2) := by decide +kernel
theorem dX10_noteFailed_33 : decode cX10_noteFailed 33 = .ok (.aaload, 1) := by decide +kernel
theorem dX10_noteFailed_34 : decode cX10_noteFailed 34 = .ok (.iload_n 1, 1) := by decide +kernel
theorem dX10_noteFailed_35 : decode cX10_noteFailed 35 = .ok (.iaload, 1) := by decide +kernel
theorem dX10_noteFailed_36 : decode cX10_noteFailed 36 = .ok (.iconst 0, 1) := by decide +kernel
theorem dX10_noteFailed_37 : decode cX10_noteFailed 37 = .ok (.invokestatic 47, 3) := by decide +kernel
theorem dX10_noteFailed_40 : decode cX10_noteFailed 40 = .ok (.bipush 64, 2) := by decide +kernel
theorem dX10_noteFailed_42 : decode cX10_noteFailed 42 = .ok (.iadd, 1) := by decide +kernel
theorem dX10_noteFailed_43 : decode cX10_noteFailed 43 = .ok (.bipush 127, 2) := by decide +kernel
theorem dX10_noteFailed_45 : decode cX10_noteFailed 45 = .ok (.invokestatic 41, 3) := by decide +kernel
theorem dX10_noteFailed_48 : decode cX10_noteFailed 48 = .ok (.iastore, 1) := by decide +kernel
theorem dX10_noteFailed_49 : decode cX10_noteFailed 49 = .ok (.aload_n 0, 1) := by decide +kernel
theorem dX10_noteFailed_50 : decode cX10_noteFailed 50 = .ok (.getfield 11, 3) := by decide +kernel
theorem dX10_noteFailed_53 : decode cX10_noteFailed 53 = .ok (.bipush 6, 2) := by decide +kernel
theorem dX10_noteFailed_55 : decode cX10_noteFailed 55 = .ok (.aaload, 1) := by decide +kernel
theorem dX10_noteFailed_56 : decode cX10_noteFailed 56 = .ok (.iload_n 1, 1) := by decide +kernel
theorem dX10_noteFailed_57 : decode cX10_noteFailed 57 = .ok (.iaload, 1) := by decide +kernel
theorem dX10_noteFailed_58 : decode cX10_noteFailed 58 = .ok (.bipush 127, 2) := by decide +kernel
theorem dX10_noteFailed_60 : decode cX10_noteFailed 60 = .ok (.if_icmp .ne 8, 3) := by decide +kernel
theorem dX10_noteFailed_63 : decode cX10_noteFailed 63 = .ok (.aload_n 0, 1) := by decide +kernel
theorem dX10_noteFailed_64 : decode cX10_noteFailed 64 = .ok (.iload_n 1, 1) := by decide +kernel
theorem dX10_noteFailed_65 : decode cX10_noteFailed 65 = .ok (.invokevirtual 50, 3) := by decide +kernel
theorem dX10_noteFailed_68 : decode cX10_noteFailed 68 = .ok (.return_, 1) := by decide +kernel
theorem cwX10_noteFailed : mw_cwV yX10_noteFailed cX10_noteFailed 3 (none) 2 := ⟨⟨wd_9, wd_1730, by decide +kernel⟩, wd_1729, sl_134⟩
set_option maxHeartbeats 4000000 in
set_option maxRecDepth 100000 in
theorem tX10_noteFailed (l : Launch) (G : mwG) (ad : Nat → Nat) (fu : Nat) (a1 : Int32) (a2 : Int32) (M : mwM) (L : mwL) {M0 : mwM} {L0 : mwL} (hD : DX10_noteFailed fu a1 a2 M L = some (M0, L0)) : Met l yX10_noteFailed (Cond.code yX10_noteFailed cX10_noteFailed 3 (none) :: GT) ({ frames := 4, cells := 0, slots := 0, locals := 89 }) (mw_Pre G ad NF TF FF M L [.ref (ad 139), .int a1, .int a2]) (mw_Qv G ad NF TF FF (mw_eqV M0 L0)) 0 0 (mw_fr G) := by
  refine mw_enter (by decide) (Nat.le_of_ble_eq_true rfl) ?_
  intro p e s m below meth c ls C hr hlocks hnm hw hl
  have hl : lv_has ls 3 [(0, .ref (ad 139)), (1, .int a1), (2, .int a2)] := hl
  have hb68 : ∀ (M : mwM) (L : mwL) (H : Heap) (locs : List Loc) (ls : Array Slot), fX10_noteFailed_b68 fu a1 a2 M L = some (M0, L0) → mw_W G ad NF TF FF M L H locs → lv_has ls 3 [] → W p l e ({ frames := 4, cells := 0, slots := 0, locals := 89 }) s m [.ref (ad 139), .int a1, .int a2].toArray below meth c H locs 0 0 (MQ below (mw_Qv G ad NF TF FF (mw_eqV M0 L0)) [.ref (ad 139), .int a1, .int a2].toArray s 0 0 (mw_fr G)) (F0 m 68 ls []) := by
    intro M L H locs ls hD hw hl
    unfold fX10_noteFailed_b68 at hD
    exact mr_vret C hr hlocks hw (Option.some.inj hD) dX10_noteFailed_68
  unfold DX10_noteFailed at hD
  refine lv_aload_n C.1.1 C.1.2.1 dX10_noteFailed_0 rfl (lv_at hl 0 rfl) ?_
  refine mr_getR C hw kc_10 0 (by decide) tf_139 ff_139_0 wd_328 dX10_noteFailed_1 (by decide) rfl ?_
  refine lv_iconst (v := 3) C.1.1 C.1.2.1 dX10_noteFailed_4 (by decide) ?_
  refine mr_aald C hw (by decide) tf_140 (by decide) (by decide) rfl rfl (show vp_in 3 12 from by unfold vp_in; decide) ff_140_3 dX10_noteFailed_5 ?_
  refine lv_iload_n C.1.1 C.1.2.1 dX10_noteFailed_6 rfl (lv_at hl 1 rfl) ?_
  refine lv_iload_n C.1.1 C.1.2.1 dX10_noteFailed_7 rfl (lv_at hl 2 rfl) ?_
  obtain ⟨q2, hD⟩ := g_ck hD
  obtain ⟨M3, eM3, hD⟩ := g_let hD
  refine mr_iast C hw (by decide) tf_144 q2 dX10_noteFailed_8 (fun H locs hw => ?_)
  replace hw : mw_W G ad NF TF FF M3 L H locs := by rw [eM3]; exact hw
  refine lv_aload_n C.1.1 C.1.2.1 dX10_noteFailed_9 rfl (lv_at hl 0 rfl) ?_
  refine lv_dup C.1.1 C.1.2.1 dX10_noteFailed_10 rfl ?_
  refine mr_getI C hw kc_10 5 (by decide) tf_139 wd_337 dX10_noteFailed_11 (by decide) rfl ?_
  refine lv_iconst (v := 1) C.1.1 C.1.2.1 dX10_noteFailed_14 (by decide) ?_
  refine lv_iadd C.1.1 C.1.2.1 dX10_noteFailed_15 ?_
  obtain ⟨M4, eM4, hD⟩ := g_let hD
  refine mr_putI C hw kc_10 5 (by decide) tf_139 wd_337 dX10_noteFailed_16 (by decide) rfl rfl rfl rfl (fun H locs hw => ?_)
  replace hw : mw_W G ad NF TF FF M4 L H locs := by rw [eM4]; exact hw
  refine lv_aload_n C.1.1 C.1.2.1 dX10_noteFailed_19 rfl (lv_at hl 0 rfl) ?_
  refine mr_getR C hw kc_10 0 (by decide) tf_139 ff_139_0 wd_328 dX10_noteFailed_20 (by decide) rfl ?_
  refine lv_bipush (v := 6) C.1.1 C.1.2.1 dX10_noteFailed_23 (by decide) ?_
  refine mr_aald C hw (by decide) tf_140 (by decide) (by decide) rfl rfl (show vp_in 6 12 from by unfold vp_in; decide) ff_140_6 dX10_noteFailed_25 ?_
  refine lv_iload_n C.1.1 C.1.2.1 dX10_noteFailed_26 rfl (lv_at hl 1 rfl) ?_
  refine lv_aload_n C.1.1 C.1.2.1 dX10_noteFailed_27 rfl (lv_at hl 0 rfl) ?_
  refine mr_getR C hw kc_10 0 (by decide) tf_139 ff_139_0 wd_328 dX10_noteFailed_28 (by decide) rfl ?_
  refine lv_bipush (v := 6) C.1.1 C.1.2.1 dX10_noteFailed_31 (by decide) ?_
  refine mr_aald C hw (by decide) tf_140 (by decide) (by decide) rfl rfl (show vp_in 6 12 from by unfold vp_in; decide) ff_140_6 dX10_noteFailed_33 ?_
  refine lv_iload_n C.1.1 C.1.2.1 dX10_noteFailed_34 rfl (lv_at hl 1 rfl) ?_
  obtain ⟨q7, hD⟩ := g_ck hD
  refine mr_iald C hw (by decide) tf_147 q7 dX10_noteFailed_35 ?_
  refine lv_iconst (v := 0) C.1.1 C.1.2.1 dX10_noteFailed_36 (by decide) ?_
  refine va_mmax C.1.1 C.1.2.1 (C.1.2.2.1.trans hl.1.symm) C.1.2.2.2.1 (C.1.2.2.2.2 _ wd_1634) (C.1.2.2.2.2 _ wd_1173) (C.1.2.2.2.2 _ wd_30) (C.1.2.2.2.2 _ wd_1174) (Nat.le_of_ble_eq_true rfl) (Nat.le_of_ble_eq_true rfl) (Nat.zero_le _) (Nat.zero_le _) dX10_noteFailed_37 ?_
  refine lv_bipush (v := 64) C.1.1 C.1.2.1 dX10_noteFailed_40 (by decide) ?_
  refine lv_iadd C.1.1 C.1.2.1 dX10_noteFailed_42 ?_
  refine lv_bipush (v := 127) C.1.1 C.1.2.1 dX10_noteFailed_43 (by decide) ?_
  refine va_mmin C.1.1 C.1.2.1 (C.1.2.2.1.trans hl.1.symm) C.1.2.2.2.1 (C.1.2.2.2.2 _ wd_1633) (C.1.2.2.2.2 _ wd_1150) (C.1.2.2.2.2 _ wd_30) (C.1.2.2.2.2 _ wd_1151) (Nat.le_of_ble_eq_true rfl) (Nat.le_of_ble_eq_true rfl) (Nat.zero_le _) (Nat.zero_le _) dX10_noteFailed_45 ?_
  obtain ⟨q8, hD⟩ := g_ck hD
  obtain ⟨M9, eM9, hD⟩ := g_let hD
  refine mr_iast C hw (by decide) tf_147 q8 dX10_noteFailed_48 (fun H locs hw => ?_)
  replace hw : mw_W G ad NF TF FF M9 L H locs := by rw [eM9]; exact hw
  refine lv_aload_n C.1.1 C.1.2.1 dX10_noteFailed_49 rfl (lv_at hl 0 rfl) ?_
  refine mr_getR C hw kc_10 0 (by decide) tf_139 ff_139_0 wd_328 dX10_noteFailed_50 (by decide) rfl ?_
  refine lv_bipush (v := 6) C.1.1 C.1.2.1 dX10_noteFailed_53 (by decide) ?_
  refine mr_aald C hw (by decide) tf_140 (by decide) (by decide) rfl rfl (show vp_in 6 12 from by unfold vp_in; decide) ff_140_6 dX10_noteFailed_55 ?_
  refine lv_iload_n C.1.1 C.1.2.1 dX10_noteFailed_56 rfl (lv_at hl 1 rfl) ?_
  obtain ⟨q11, hD⟩ := g_ck hD
  refine mr_iald C hw (by decide) tf_147 q11 dX10_noteFailed_57 ?_
  refine lv_bipush (v := 127) C.1.1 C.1.2.1 dX10_noteFailed_58 (by decide) ?_
  refine lv_icmp_ne (tgt := 68) C.1.1 C.1.2.1 dX10_noteFailed_60 (by decide) (fun c12 => ?_) (fun c12 => ?_)
  · replace hD := g_neg c12 hD
    exact hb68 M9 L _ _ ls hD hw (lv_sub hl [] rfl)
  · replace hD := g_pos c12 hD
    refine lv_aload_n C.1.1 C.1.2.1 dX10_noteFailed_63 rfl (lv_at hl 0 rfl) ?_
    refine lv_iload_n C.1.1 C.1.2.1 dX10_noteFailed_64 rfl (lv_at hl 1 rfl) ?_
    obtain ⟨M13, L14, h1, hD⟩ := g_b2 hD
    refine md_cvV (As := [.int a1]) (rest := []) C hw (tX10_testFailed l G ad fu a1 M9 L h1) kc_10 (by decide) tf_139 wd_1731 cwX10_testFailed ⟨Nat.le_of_ble_eq_true rfl, Nat.le_of_ble_eq_true rfl⟩ rfl hl.1 (Nat.le_of_ble_eq_true rfl) dX10_noteFailed_65 rfl rfl ⟨Nat.zero_le _, Nat.zero_le _⟩ rfl (fun H locs hw => ?_)
    exact hb68 M13 L14 _ _ ls hD hw (lv_sub hl [] rfl)

theorem dX10_lookForSilence_0 : decode cX10_lookForSilence 0 = .ok (.iconst 0, 1) := by decide +kernel
theorem dX10_lookForSilence_1 : decode cX10_lookForSilence 1 = .ok (.istore_n 2, 1) := by decide +kernel
theorem dX10_lookForSilence_2 : decode cX10_lookForSilence 2 = .ok (.iload_n 2, 1) := by decide +kernel
theorem dX10_lookForSilence_3 : decode cX10_lookForSilence 3 = .ok (.aload_n 0, 1) := by decide +kernel
theorem dX10_lookForSilence_4 : decode cX10_lookForSilence 4 = .ok (.getfield 20, 3) := by decide +kernel
theorem dX10_lookForSilence_7 : decode cX10_lookForSilence 7 = .ok (.if_icmp .ge 36, 3) := by decide +kernel
theorem dX10_lookForSilence_10 : decode cX10_lookForSilence 10 = .ok (.iload_n 1, 1) := by decide +kernel
theorem dX10_lookForSilence_11 : decode cX10_lookForSilence 11 = .ok (.aload_n 0, 1) := by decide +kernel
theorem dX10_lookForSilence_12 : decode cX10_lookForSilence 12 = .ok (.getfield 11, 3) := by decide +kernel
theorem dX10_lookForSilence_15 : decode cX10_lookForSilence 15 = .ok (.iconst 3, 1) := by decide +kernel
theorem dX10_lookForSilence_16 : decode cX10_lookForSilence 16 = .ok (.aaload, 1) := by decide +kernel
theorem dX10_lookForSilence_17 : decode cX10_lookForSilence 17 = .ok (.iload_n 2, 1) := by decide +kernel
theorem dX10_lookForSilence_18 : decode cX10_lookForSilence 18 = .ok (.iaload, 1) := by decide +kernel
theorem dX10_lookForSilence_19 : decode cX10_lookForSilence 19 = .ok (.isub, 1) := by decide +kernel
theorem dX10_lookForSilence_20 : decode cX10_lookForSilence 20 = .ok (.aload_n 0, 1) := by decide +kernel
theorem dX10_lookForSilence_21 : decode cX10_lookForSilence 21 = .ok (.getfield 11, 3) := by decide +kernel
theorem dX10_lookForSilence_24 : decode cX10_lookForSilence 24 = .ok (.iconst 2, 1) := by decide +kernel
theorem dX10_lookForSilence_25 : decode cX10_lookForSilence 25 = .ok (.aaload, 1) := by decide +kernel
theorem dX10_lookForSilence_26 : decode cX10_lookForSilence 26 = .ok (.iload_n 2, 1) := by decide +kernel
theorem dX10_lookForSilence_27 : decode cX10_lookForSilence 27 = .ok (.iaload, 1) := by decide +kernel
theorem dX10_lookForSilence_28 : decode cX10_lookForSilence 28 = .ok (.if_icmp .lt 9, 3) := by decide +kernel
theorem dX10_lookForSilence_31 : decode cX10_lookForSilence 31 = .ok (.aload_n 0, 1) := by decide +kernel
theorem dX10_lookForSilence_32 : decode cX10_lookForSilence 32 = .ok (.iload_n 2, 1) := by decide +kernel
theorem dX10_lookForSilence_33 : decode cX10_lookForSilence 33 = .ok (.iload_n 1, 1) := by decide +kernel
theorem dX10_lookForSilence_34 : decode cX10_lookForSilence 34 = .ok (.invokevirtual 37, 3) := by decide +kernel
theorem dX10_lookForSilence_37 : decode cX10_lookForSilence 37 = .ok (.iinc 2 1, 3) := by decide +kernel
theorem dX10_lookForSilence_40 : decode cX10_lookForSilence 40 = .ok (.goto (-38), 3) := by decide +kernel
theorem dX10_lookForSilence_43 : decode cX10_lookForSilence 43 = .ok (.return_, 1) := by decide +kernel
theorem cwX10_lookForSilence : mw_cwV yX10_lookForSilence cX10_lookForSilence 3 (none) 1 := ⟨⟨wd_9, wd_1726, by decide +kernel⟩, wd_1724, wd_1725⟩
set_option maxHeartbeats 4000000 in
set_option maxRecDepth 100000 in
theorem tX10_lookForSilence (l : Launch) (G : mwG) (ad : Nat → Nat) (fu : Nat) (a1 : Int32) (M : mwM) (L : mwL) {M0 : mwM} {L0 : mwL} (hD : DX10_lookForSilence fu a1 M L = some (M0, L0)) : Met l yX10_lookForSilence (Cond.code yX10_lookForSilence cX10_lookForSilence 3 (none) :: GT) ({ frames := 5, cells := 0, slots := 0, locals := 111 }) (mw_Pre G ad NF TF FF M L [.ref (ad 139), .int a1]) (mw_Qv G ad NF TF FF (mw_eqV M0 L0)) 0 0 (mw_fr G) := by
  refine mw_enter (by decide) (Nat.le_of_ble_eq_true rfl) ?_
  intro p e s m below meth c ls C hr hlocks hnm hw hl
  have hl : lv_has ls 3 [(0, .ref (ad 139)), (1, .int a1)] := hl
  have hh2 : ∀ (f : Nat) (v2 : Int32) (M : mwM) (L : mwL) (H : Heap) (locs : List Loc) (ls : Array Slot), fX10_lookForSilence_h2 fu a1 f (v2, M, L) = some (M0, L0) → mw_W G ad NF TF FF M L H locs → lv_has ls 3 [(0, .ref (ad 139)), (1, .int a1), (2, .int v2)] → W p l e ({ frames := 5, cells := 0, slots := 0, locals := 111 }) s m [.ref (ad 139), .int a1].toArray below meth c H locs 0 0 (MQ below (mw_Qv G ad NF TF FF (mw_eqV M0 L0)) [.ref (ad 139), .int a1].toArray s 0 0 (mw_fr G)) (F0 m 2 ls []) := by
    intro f
    induction f with
    | zero => intro v2 M L H locs ls hD; cases hD
    | succ f2 ih2 =>
      intro v2 M L H locs ls hD hw hl
      replace hD : fX10_lookForSilence_i2 fu a1 (fX10_lookForSilence_h2 fu a1 f2) v2 M L = some (M0, L0) := hD
      have hb37 : ∀ (v2 : Int32) (M : mwM) (L : mwL) (H : Heap) (locs : List Loc) (ls : Array Slot), fX10_lookForSilence_b37 fu a1 (fX10_lookForSilence_h2 fu a1 f2) v2 M L = some (M0, L0) → mw_W G ad NF TF FF M L H locs → lv_has ls 3 [(0, .ref (ad 139)), (1, .int a1), (2, .int v2)] → W p l e ({ frames := 5, cells := 0, slots := 0, locals := 111 }) s m [.ref (ad 139), .int a1].toArray below meth c H locs 0 0 (MQ below (mw_Qv G ad NF TF FF (mw_eqV M0 L0)) [.ref (ad 139), .int a1].toArray s 0 0 (mw_fr G)) (F0 m 37 ls []) := by
        intro v2 M L H locs ls hD hw hl
        unfold fX10_lookForSilence_b37 at hD
        obtain ⟨x9, ex9, hD⟩ := g_let hD
        refine lv_iinc (v := x9) (lv' := [(2, .int x9), (0, .ref (ad 139)), (1, .int a1)]) C.1.1 C.1.2.1 dX10_lookForSilence_37 hl (k := 2) rfl (by rw [ex9]; rfl) (by decide) rfl (fun ls hl => ?_)
        refine lv_goto (tgt := 2) C.1.1 C.1.2.1 dX10_lookForSilence_40 (by decide) ?_
        exact ih2 x9 M L _ _ ls hD hw (lv_sub hl [1, 2, 0] rfl)
      unfold fX10_lookForSilence_i2 at hD
      refine lv_iload_n C.1.1 C.1.2.1 dX10_lookForSilence_2 rfl (lv_at hl 2 rfl) ?_
      refine lv_aload_n C.1.1 C.1.2.1 dX10_lookForSilence_3 rfl (lv_at hl 0 rfl) ?_
      refine mr_getI C hw kc_10 2 (by decide) tf_139 wd_331 dX10_lookForSilence_4 (by decide) rfl ?_
      refine lv_icmp_ge (tgt := 43) C.1.1 C.1.2.1 dX10_lookForSilence_7 (by decide) (fun c1 => ?_) (fun c1 => ?_)
      · replace hD := g_pos c1 hD
        exact mr_vret C hr hlocks hw (Option.some.inj hD) dX10_lookForSilence_43
      · replace hD := g_neg c1 hD
        refine lv_iload_n C.1.1 C.1.2.1 dX10_lookForSilence_10 rfl (lv_at hl 1 rfl) ?_
        refine lv_aload_n C.1.1 C.1.2.1 dX10_lookForSilence_11 rfl (lv_at hl 0 rfl) ?_
        refine mr_getR C hw kc_10 0 (by decide) tf_139 ff_139_0 wd_328 dX10_lookForSilence_12 (by decide) rfl ?_
        refine lv_iconst (v := 3) C.1.1 C.1.2.1 dX10_lookForSilence_15 (by decide) ?_
        refine mr_aald C hw (by decide) tf_140 (by decide) (by decide) rfl rfl (show vp_in 3 12 from by unfold vp_in; decide) ff_140_3 dX10_lookForSilence_16 ?_
        refine lv_iload_n C.1.1 C.1.2.1 dX10_lookForSilence_17 rfl (lv_at hl 2 rfl) ?_
        obtain ⟨q3, hD⟩ := g_ck hD
        refine mr_iald C hw (by decide) tf_144 q3 dX10_lookForSilence_18 ?_
        refine lv_isub C.1.1 C.1.2.1 dX10_lookForSilence_19 ?_
        refine lv_aload_n C.1.1 C.1.2.1 dX10_lookForSilence_20 rfl (lv_at hl 0 rfl) ?_
        refine mr_getR C hw kc_10 0 (by decide) tf_139 ff_139_0 wd_328 dX10_lookForSilence_21 (by decide) rfl ?_
        refine lv_iconst (v := 2) C.1.1 C.1.2.1 dX10_lookForSilence_24 (by decide) ?_
        refine mr_aald C hw (by decide) tf_140 (by decide) (by decide) rfl rfl (show vp_in 2 12 from by unfold vp_in; decide) ff_140_2 dX10_lookForSilence_25 ?_
        refine lv_iload_n C.1.1 C.1.2.1 dX10_lookForSilence_26 rfl (lv_at hl 2 rfl) ?_
        obtain ⟨q5, hD⟩ := g_ck hD
        refine mr_iald C hw (by decide) tf_143 q5 dX10_lookForSilence_27 ?_
        refine lv_icmp_lt (tgt := 37) C.1.1 C.1.2.1 dX10_lookForSilence_28 (by decide) (fun c6 => ?_) (fun c6 => ?_)
        · replace hD := g_pos c6 hD
          exact hb37 v2 M L _ _ ls hD hw (lv_sub hl [0, 1, 2] rfl)
        · replace hD := g_neg c6 hD
          refine lv_aload_n C.1.1 C.1.2.1 dX10_lookForSilence_31 rfl (lv_at hl 0 rfl) ?_
          refine lv_iload_n C.1.1 C.1.2.1 dX10_lookForSilence_32 rfl (lv_at hl 2 rfl) ?_
          refine lv_iload_n C.1.1 C.1.2.1 dX10_lookForSilence_33 rfl (lv_at hl 1 rfl) ?_
          obtain ⟨M7, L8, h1, hD⟩ := g_b2 hD
          refine md_cvV (As := [.int v2, .int a1]) (rest := []) C hw (tX10_noteFailed l G ad fu v2 a1 M L h1) kc_10 (by decide) tf_139 wd_1727 cwX10_noteFailed ⟨Nat.le_of_ble_eq_true rfl, Nat.le_of_ble_eq_true rfl⟩ rfl hl.1 (Nat.le_of_ble_eq_true rfl) dX10_lookForSilence_34 rfl rfl ⟨Nat.zero_le _, Nat.zero_le _⟩ rfl (fun H locs hw => ?_)
          exact hb37 v2 M7 L8 _ _ ls hD hw (lv_sub hl [0, 1, 2] rfl)
  unfold DX10_lookForSilence at hD
  refine lv_iconst (v := 0) C.1.1 C.1.2.1 dX10_lookForSilence_0 (by decide) ?_
  refine lv_istore_n (lv' := [(2, .int 0), (0, .ref (ad 139)), (1, .int a1)]) C.1.1 C.1.2.1 dX10_lookForSilence_1 rfl hl (by decide) rfl (fun ls hl => ?_)
  exact hh2 fu 0 M L _ _ ls hD hw (lv_sub hl [1, 2, 0] rfl)

theorem dX10_notePassed_0 : decode cX10_notePassed 0 = .ok (.aload_n 0, 1) := by decide +kernel
theorem dX10_notePassed_1 : decode cX10_notePassed 1 = .ok (.getfield 11, 3) := by decide +kernel
theorem dX10_notePassed_4 : decode cX10_notePassed 4 = .ok (.iconst 3, 1) := by decide +kernel
theorem dX10_notePassed_5 : decode cX10_notePassed 5 = .ok (.aaload, 1) := by decide +kernel
theorem dX10_notePassed_6 : decode cX10_notePassed 6 = .ok (.iload_n 1, 1) := by decide +kernel
theorem dX10_notePassed_7 : decode cX10_notePassed 7 = .ok (.iload_n 2, 1) := by decide +kernel
theorem dX10_notePassed_8 : decode cX10_notePassed 8 = .ok (.iastore, 1) := by decide +kernel
theorem dX10_notePassed_9 : decode cX10_notePassed 9 = .ok (.aload_n 0, 1) := by decide +kernel
theorem dX10_notePassed_10 : decode cX10_notePassed 10 = .ok (.dup, 1) := by decide +kernel
theorem dX10_notePassed_11 : decode cX10_notePassed 11 = .ok (.getfield 30, 3) := by decide +kernel
theorem dX10_notePassed_14 : decode cX10_notePassed 14 = .ok (.iconst 1, 1) := by decide +kernel
theorem dX10_notePassed_15 : decode cX10_notePassed 15 = .ok (.iadd, 1) := by decide +kernel
theorem dX10_notePassed_16 : decode cX10_notePassed 16 = .ok (.putfield 30, 3) := by decide +kernel
theorem dX10_notePassed_19 : decode cX10_notePassed 19 = .ok (.aload_n 0, 1) := by decide +kernel
theorem dX10_notePassed_20 : decode cX10_notePassed 20 = .ok (.getfield 11, 3) := by decide +kernel
theorem dX10_notePassed_23 : decode cX10_notePassed 23 = .ok (.bipush 6, 2) := by decide +kernel
theorem dX10_notePassed_25 : decode cX10_notePassed 25 = .ok (.aaload, 1) := by decide +kernel
theorem dX10_notePassed_26 : decode cX10_notePassed 26 = .ok (.iload_n 1, 1) := by decide +kernel
theorem dX10_notePassed_27 : decode cX10_notePassed 27 = .ok (.aload_n 0, 1) := by decide +kernel
theorem dX10_notePassed_28 : decode cX10_notePassed 28 = .ok (.getfield 11, 3) := by decide +kernel
theorem dX10_notePassed_31 : decode cX10_notePassed 31 = .ok (.bipush 6, 2) := by decide +kernel
theorem dX10_notePassed_33 : decode cX10_notePassed 33 = .ok (.aaload, 1) := by decide +kernel
theorem dX10_notePassed_34 : decode cX10_notePassed 34 = .ok (.iload_n 1, 1) := by decide +kernel
theorem dX10_notePassed_35 : decode cX10_notePassed 35 = .ok (.iaload, 1) := by decide +kernel
theorem dX10_notePassed_36 : decode cX10_notePassed 36 = .ok (.iconst 0, 1) := by decide +kernel
theorem dX10_notePassed_37 : decode cX10_notePassed 37 = .ok (.invokestatic 41, 3) := by decide +kernel
theorem dX10_notePassed_40 : decode cX10_notePassed 40 = .ok (.bipush 127, 2) := by decide +kernel
theorem dX10_notePassed_42 : decode cX10_notePassed 42 = .ok (.isub, 1) := by decide +kernel
theorem dX10_notePassed_43 : decode cX10_notePassed 43 = .ok (.bipush (-128), 2) := by decide +kernel
theorem dX10_notePassed_45 : decode cX10_notePassed 45 = .ok (.invokestatic 47, 3) := by decide +kernel
theorem dX10_notePassed_48 : decode cX10_notePassed 48 = .ok (.iastore, 1) := by decide +kernel
theorem dX10_notePassed_49 : decode cX10_notePassed 49 = .ok (.aload_n 0, 1) := by decide +kernel
theorem dX10_notePassed_50 : decode cX10_notePassed 50 = .ok (.getfield 11, 3) := by decide +kernel
theorem dX10_notePassed_53 : decode cX10_notePassed 53 = .ok (.bipush 6, 2) := by decide +kernel
theorem dX10_notePassed_55 : decode cX10_notePassed 55 = .ok (.aaload, 1) := by decide +kernel
theorem dX10_notePassed_56 : decode cX10_notePassed 56 = .ok (.iload_n 1, 1) := by decide +kernel
theorem dX10_notePassed_57 : decode cX10_notePassed 57 = .ok (.iaload, 1) := by decide +kernel
theorem dX10_notePassed_58 : decode cX10_notePassed 58 = .ok (.bipush (-128), 2) := by decide +kernel
theorem dX10_notePassed_60 : decode cX10_notePassed 60 = .ok (.if_icmp .ne 16, 3) := by decide +kernel
theorem dX10_notePassed_63 : decode cX10_notePassed 63 = .ok (.aload_n 0, 1) := by decide +kernel
theorem dX10_notePassed_64 : decode cX10_notePassed 64 = .ok (.getfield 11, 3) := by decide +kernel
theorem dX10_notePassed_67 : decode cX10_notePassed 67 = .ok (.iconst 5, 1) := by decide +kernel
theorem dX10_notePassed_68 : decode cX10_notePassed 68 = .ok (.aaload, 1) := by decide +kernel
theorem dX10_notePassed_69 : decode cX10_notePassed 69 = .ok (.iload_n 1, 1) := by decide +kernel
theorem dX10_notePassed_70 : decode cX10_notePassed 70 = .ok (.dup2, 1) := by decide +kernel
theorem dX10_notePassed_71 : decode cX10_notePassed 71 = .ok (.iaload, 1) := by decide +kernel
theorem dX10_notePassed_72 : decode cX10_notePassed 72 = .ok (.bipush (-82), 2) := by decide +kernel
theorem dX10_notePassed_74 : decode cX10_notePassed 74 = .ok (.iand, 1) := by decide +kernel
theorem dX10_notePassed_75 : decode cX10_notePassed 75 = .ok (.iastore, 1) := by decide +kernel
theorem dX10_notePassed_76 : decode cX10_notePassed 76 = .ok (.return_, 1) := by decide +kernel
theorem cwX10_notePassed : mw_cwV yX10_notePassed cX10_notePassed 3 (none) 2 := ⟨⟨wd_9, wd_1632, by decide +kernel⟩, wd_1630, wd_1631⟩
set_option maxHeartbeats 4000000 in
set_option maxRecDepth 100000 in
theorem tX10_notePassed (l : Launch) (G : mwG) (ad : Nat → Nat) (fu : Nat) (a1 : Int32) (a2 : Int32) (M : mwM) (L : mwL) {M0 : mwM} {L0 : mwL} (hD : DX10_notePassed fu a1 a2 M L = some (M0, L0)) : Met l yX10_notePassed (Cond.code yX10_notePassed cX10_notePassed 3 (none) :: GT) ({ frames := 1, cells := 0, slots := 0, locals := 21 }) (mw_Pre G ad NF TF FF M L [.ref (ad 139), .int a1, .int a2]) (mw_Qv G ad NF TF FF (mw_eqV M0 L0)) 0 0 (mw_fr G) := by
  refine mw_enter (by decide) (Nat.le_of_ble_eq_true rfl) ?_
  intro p e s m below meth c ls C hr hlocks hnm hw hl
  have hl : lv_has ls 3 [(0, .ref (ad 139)), (1, .int a1), (2, .int a2)] := hl
  have hb76 : ∀ (M : mwM) (L : mwL) (H : Heap) (locs : List Loc) (ls : Array Slot), fX10_notePassed_b76 fu a1 a2 M L = some (M0, L0) → mw_W G ad NF TF FF M L H locs → lv_has ls 3 [] → W p l e ({ frames := 1, cells := 0, slots := 0, locals := 21 }) s m [.ref (ad 139), .int a1, .int a2].toArray below meth c H locs 0 0 (MQ below (mw_Qv G ad NF TF FF (mw_eqV M0 L0)) [.ref (ad 139), .int a1, .int a2].toArray s 0 0 (mw_fr G)) (F0 m 76 ls []) := by
    intro M L H locs ls hD hw hl
    unfold fX10_notePassed_b76 at hD
    exact mr_vret C hr hlocks hw (Option.some.inj hD) dX10_notePassed_76
  unfold DX10_notePassed at hD
  refine lv_aload_n C.1.1 C.1.2.1 dX10_notePassed_0 rfl (lv_at hl 0 rfl) ?_
  refine mr_getR C hw kc_10 0 (by decide) tf_139 ff_139_0 wd_328 dX10_notePassed_1 (by decide) rfl ?_
  refine lv_iconst (v := 3) C.1.1 C.1.2.1 dX10_notePassed_4 (by decide) ?_
  refine mr_aald C hw (by decide) tf_140 (by decide) (by decide) rfl rfl (show vp_in 3 12 from by unfold vp_in; decide) ff_140_3 dX10_notePassed_5 ?_
  refine lv_iload_n C.1.1 C.1.2.1 dX10_notePassed_6 rfl (lv_at hl 1 rfl) ?_
  refine lv_iload_n C.1.1 C.1.2.1 dX10_notePassed_7 rfl (lv_at hl 2 rfl) ?_
  obtain ⟨q2, hD⟩ := g_ck hD
  obtain ⟨M3, eM3, hD⟩ := g_let hD
  refine mr_iast C hw (by decide) tf_144 q2 dX10_notePassed_8 (fun H locs hw => ?_)
  replace hw : mw_W G ad NF TF FF M3 L H locs := by rw [eM3]; exact hw
  refine lv_aload_n C.1.1 C.1.2.1 dX10_notePassed_9 rfl (lv_at hl 0 rfl) ?_
  refine lv_dup C.1.1 C.1.2.1 dX10_notePassed_10 rfl ?_
  refine mr_getI C hw kc_10 5 (by decide) tf_139 wd_337 dX10_notePassed_11 (by decide) rfl ?_
  refine lv_iconst (v := 1) C.1.1 C.1.2.1 dX10_notePassed_14 (by decide) ?_
  refine lv_iadd C.1.1 C.1.2.1 dX10_notePassed_15 ?_
  obtain ⟨M4, eM4, hD⟩ := g_let hD
  refine mr_putI C hw kc_10 5 (by decide) tf_139 wd_337 dX10_notePassed_16 (by decide) rfl rfl rfl rfl (fun H locs hw => ?_)
  replace hw : mw_W G ad NF TF FF M4 L H locs := by rw [eM4]; exact hw
  refine lv_aload_n C.1.1 C.1.2.1 dX10_notePassed_19 rfl (lv_at hl 0 rfl) ?_
  refine mr_getR C hw kc_10 0 (by decide) tf_139 ff_139_0 wd_328 dX10_notePassed_20 (by decide) rfl ?_
  refine lv_bipush (v := 6) C.1.1 C.1.2.1 dX10_notePassed_23 (by decide) ?_
  refine mr_aald C hw (by decide) tf_140 (by decide) (by decide) rfl rfl (show vp_in 6 12 from by unfold vp_in; decide) ff_140_6 dX10_notePassed_25 ?_
  refine lv_iload_n C.1.1 C.1.2.1 dX10_notePassed_26 rfl (lv_at hl 1 rfl) ?_
  refine lv_aload_n C.1.1 C.1.2.1 dX10_notePassed_27 rfl (lv_at hl 0 rfl) ?_
  refine mr_getR C hw kc_10 0 (by decide) tf_139 ff_139_0 wd_328 dX10_notePassed_28 (by decide) rfl ?_
  refine lv_bipush (v := 6) C.1.1 C.1.2.1 dX10_notePassed_31 (by decide) ?_
  refine mr_aald C hw (by decide) tf_140 (by decide) (by decide) rfl rfl (show vp_in 6 12 from by unfold vp_in; decide) ff_140_6 dX10_notePassed_33 ?_
  refine lv_iload_n C.1.1 C.1.2.1 dX10_notePassed_34 rfl (lv_at hl 1 rfl) ?_
  obtain ⟨q7, hD⟩ := g_ck hD
  refine mr_iald C hw (by decide) tf_147 q7 dX10_notePassed_35 ?_
  refine lv_iconst (v := 0) C.1.1 C.1.2.1 dX10_notePassed_36 (by decide) ?_
  refine va_mmin C.1.1 C.1.2.1 (C.1.2.2.1.trans hl.1.symm) C.1.2.2.2.1 (C.1.2.2.2.2 _ wd_1633) (C.1.2.2.2.2 _ wd_1150) (C.1.2.2.2.2 _ wd_30) (C.1.2.2.2.2 _ wd_1151) (Nat.le_of_ble_eq_true rfl) (Nat.le_of_ble_eq_true rfl) (Nat.zero_le _) (Nat.zero_le _) dX10_notePassed_37 ?_
  refine lv_bipush (v := 127) C.1.1 C.1.2.1 dX10_notePassed_40 (by decide) ?_
  refine lv_isub C.1.1 C.1.2.1 dX10_notePassed_42 ?_
  refine lv_bipush (v := (-128)) C.1.1 C.1.2.1 dX10_notePassed_43 (by decide) ?_
  refine va_mmax C.1.1 C.1.2.1 (C.1.2.2.1.trans hl.1.symm) C.1.2.2.2.1 (C.1.2.2.2.2 _ wd_1634) (C.1.2.2.2.2 _ wd_1173) (C.1.2.2.2.2 _ wd_30) (C.1.2.2.2.2 _ wd_1174) (Nat.le_of_ble_eq_true rfl) (Nat.le_of_ble_eq_true rfl) (Nat.zero_le _) (Nat.zero_le _) dX10_notePassed_45 ?_
  obtain ⟨q8, hD⟩ := g_ck hD
  obtain ⟨M9, eM9, hD⟩ := g_let hD
  refine mr_iast C hw (by decide) tf_147 q8 dX10_notePassed_48 (fun H locs hw => ?_)
  replace hw : mw_W G ad NF TF FF M9 L H locs := by rw [eM9]; exact hw
  refine lv_aload_n C.1.1 C.1.2.1 dX10_notePassed_49 rfl (lv_at hl 0 rfl) ?_
  refine mr_getR C hw kc_10 0 (by decide) tf_139 ff_139_0 wd_328 dX10_notePassed_50 (by decide) rfl ?_
  refine lv_bipush (v := 6) C.1.1 C.1.2.1 dX10_notePassed_53 (by decide) ?_
  refine mr_aald C hw (by decide) tf_140 (by decide) (by decide) rfl rfl (show vp_in 6 12 from by unfold vp_in; decide) ff_140_6 dX10_notePassed_55 ?_
  refine lv_iload_n C.1.1 C.1.2.1 dX10_notePassed_56 rfl (lv_at hl 1 rfl) ?_
  obtain ⟨q11, hD⟩ := g_ck hD
  refine mr_iald C hw (by decide) tf_147 q11 dX10_notePassed_57 ?_
  refine lv_bipush (v := (-128)) C.1.1 C.1.2.1 dX10_notePassed_58 (by decide) ?_
  refine lv_icmp_ne (tgt := 76) C.1.1 C.1.2.1 dX10_notePassed_60 (by decide) (fun c12 => ?_) (fun c12 => ?_)
  · replace hD := g_neg c12 hD
    exact hb76 M9 L _ _ ls hD hw (lv_sub hl [] rfl)
  · replace hD := g_pos c12 hD
    refine lv_aload_n C.1.1 C.1.2.1 dX10_notePassed_63 rfl (lv_at hl 0 rfl) ?_
    refine mr_getR C hw kc_10 0 (by decide) tf_139 ff_139_0 wd_328 dX10_notePassed_64 (by decide) rfl ?_
    refine lv_iconst (v := 5) C.1.1 C.1.2.1 dX10_notePassed_67 (by decide) ?_
    refine mr_aald C hw (by decide) tf_140 (by decide) (by decide) rfl rfl (show vp_in 5 12 from by unfold vp_in; decide) ff_140_5 dX10_notePassed_68 ?_
    refine lv_iload_n C.1.1 C.1.2.1 dX10_notePassed_69 rfl (lv_at hl 1 rfl) ?_
    refine lv_dup2_11 C.1.1 C.1.2.1 dX10_notePassed_70 rfl rfl ?_
    obtain ⟨q14, hD⟩ := g_ck hD
    refine mr_iald C hw (by decide) tf_146 q14 dX10_notePassed_71 ?_
    refine lv_bipush (v := (-82)) C.1.1 C.1.2.1 dX10_notePassed_72 (by decide) ?_
    refine lv_iand C.1.1 C.1.2.1 dX10_notePassed_74 ?_
    obtain ⟨q15, hD⟩ := g_ck hD
    obtain ⟨M16, eM16, hD⟩ := g_let hD
    refine mr_iast C hw (by decide) tf_146 q15 dX10_notePassed_75 (fun H locs hw => ?_)
    replace hw : mw_W G ad NF TF FF M16 L H locs := by rw [eM16]; exact hw
    exact hb76 M16 L _ _ ls hD hw (lv_sub hl [] rfl)

theorem dX10_endGoodCycle_0 : decode cX10_endGoodCycle 0 = .ok (.aload_n 0, 1) := by decide +kernel
theorem dX10_endGoodCycle_1 : decode cX10_endGoodCycle 1 = .ok (.getfield 11, 3) := by decide +kernel
theorem dX10_endGoodCycle_4 : decode cX10_endGoodCycle 4 = .ok (.iconst 5, 1) := by decide +kernel
theorem dX10_endGoodCycle_5 : decode cX10_endGoodCycle 5 = .ok (.aaload, 1) := by decide +kernel
theorem dX10_endGoodCycle_6 : decode cX10_endGoodCycle 6 = .ok (.iload_n 1, 1) := by decide +kernel
theorem dX10_endGoodCycle_7 : decode cX10_endGoodCycle 7 = .ok (.dup2, 1) := by decide +kernel
theorem dX10_endGoodCycle_8 : decode cX10_endGoodCycle 8 = .ok (.iaload, 1) := by decide +kernel
theorem dX10_endGoodCycle_9 : decode cX10_endGoodCycle 9 = .ok (.bipush (-5), 2) := by decide +kernel
theorem dX10_endGoodCycle_11 : decode cX10_endGoodCycle 11 = .ok (.iand, 1) := by decide +kernel
theorem dX10_endGoodCycle_12 : decode cX10_endGoodCycle 12 = .ok (.iastore, 1) := by decide +kernel
theorem dX10_endGoodCycle_13 : decode cX10_endGoodCycle 13 = .ok (.aload_n 0, 1) := by decide +kernel
theorem dX10_endGoodCycle_14 : decode cX10_endGoodCycle 14 = .ok (.getfield 11, 3) := by decide +kernel
theorem dX10_endGoodCycle_17 : decode cX10_endGoodCycle 17 = .ok (.iconst 5, 1) := by decide +kernel
theorem dX10_endGoodCycle_18 : decode cX10_endGoodCycle 18 = .ok (.aaload, 1) := by decide +kernel
theorem dX10_endGoodCycle_19 : decode cX10_endGoodCycle 19 = .ok (.iload_n 1, 1) := by decide +kernel
theorem dX10_endGoodCycle_20 : decode cX10_endGoodCycle 20 = .ok (.iaload, 1) := by decide +kernel
theorem dX10_endGoodCycle_21 : decode cX10_endGoodCycle 21 = .ok (.bipush 8, 2) := by decide +kernel
theorem dX10_endGoodCycle_23 : decode cX10_endGoodCycle 23 = .ok (.iand, 1) := by decide +kernel
theorem dX10_endGoodCycle_24 : decode cX10_endGoodCycle 24 = .ok (.ifCond .ne 13, 3) := by decide +kernel
theorem dX10_endGoodCycle_27 : decode cX10_endGoodCycle 27 = .ok (.aload_n 0, 1) := by decide +kernel
theorem dX10_endGoodCycle_28 : decode cX10_endGoodCycle 28 = .ok (.getfield 11, 3) := by decide +kernel
theorem dX10_endGoodCycle_31 : decode cX10_endGoodCycle 31 = .ok (.bipush 7, 2) := by decide +kernel
theorem dX10_endGoodCycle_33 : decode cX10_endGoodCycle 33 = .ok (.aaload, 1) := by decide +kernel
theorem dX10_endGoodCycle_34 : decode cX10_endGoodCycle 34 = .ok (.iload_n 1, 1) := by decide +kernel
theorem dX10_endGoodCycle_35 : decode cX10_endGoodCycle 35 = .ok (.iconst 0, 1) := by decide +kernel
theorem dX10_endGoodCycle_36 : decode cX10_endGoodCycle 36 = .ok (.iastore, 1) := by decide +kernel
theorem dX10_endGoodCycle_37 : decode cX10_endGoodCycle 37 = .ok (.aload_n 0, 1) := by decide +kernel
theorem dX10_endGoodCycle_38 : decode cX10_endGoodCycle 38 = .ok (.getfield 11, 3) := by decide +kernel
theorem dX10_endGoodCycle_41 : decode cX10_endGoodCycle 41 = .ok (.bipush 9, 2) := by decide +kernel
theorem dX10_endGoodCycle_43 : decode cX10_endGoodCycle 43 = .ok (.aaload, 1) := by decide +kernel
theorem dX10_endGoodCycle_44 : decode cX10_endGoodCycle 44 = .ok (.iload_n 1, 1) := by decide +kernel
theorem dX10_endGoodCycle_45 : decode cX10_endGoodCycle 45 = .ok (.aload_n 0, 1) := by decide +kernel
theorem dX10_endGoodCycle_46 : decode cX10_endGoodCycle 46 = .ok (.getfield 11, 3) := by decide +kernel
theorem dX10_endGoodCycle_49 : decode cX10_endGoodCycle 49 = .ok (.bipush 9, 2) := by decide +kernel
theorem dX10_endGoodCycle_51 : decode cX10_endGoodCycle 51 = .ok (.aaload, 1) := by decide +kernel
theorem dX10_endGoodCycle_52 : decode cX10_endGoodCycle 52 = .ok (.iload_n 1, 1) := by decide +kernel
theorem dX10_endGoodCycle_53 : decode cX10_endGoodCycle 53 = .ok (.iaload, 1) := by decide +kernel
theorem dX10_endGoodCycle_54 : decode cX10_endGoodCycle 54 = .ok (.iconst 1, 1) := by decide +kernel
theorem dX10_endGoodCycle_55 : decode cX10_endGoodCycle 55 = .ok (.iadd, 1) := by decide +kernel
theorem dX10_endGoodCycle_56 : decode cX10_endGoodCycle 56 = .ok (.sipush 255, 3) := by decide +kernel
theorem dX10_endGoodCycle_59 : decode cX10_endGoodCycle 59 = .ok (.invokestatic 41, 3) := by decide +kernel
theorem dX10_endGoodCycle_62 : decode cX10_endGoodCycle 62 = .ok (.iastore, 1) := by decide +kernel
theorem dX10_endGoodCycle_63 : decode cX10_endGoodCycle 63 = .ok (.aload_n 0, 1) := by decide +kernel
theorem dX10_endGoodCycle_64 : decode cX10_endGoodCycle 64 = .ok (.getfield 11, 3) := by decide +kernel
theorem dX10_endGoodCycle_67 : decode cX10_endGoodCycle 67 = .ok (.bipush 9, 2) := by decide +kernel
theorem dX10_endGoodCycle_69 : decode cX10_endGoodCycle 69 = .ok (.aaload, 1) := by decide +kernel
theorem dX10_endGoodCycle_70 : decode cX10_endGoodCycle 70 = .ok (.iload_n 1, 1) := by decide +kernel
theorem dX10_endGoodCycle_71 : decode cX10_endGoodCycle 71 = .ok (.iaload, 1) := by decide +kernel
theorem dX10_endGoodCycle_72 : decode cX10_endGoodCycle 72 = .ok (.iconst 3, 1) := by decide +kernel
theorem dX10_endGoodCycle_73 : decode cX10_endGoodCycle 73 = .ok (.if_icmp .lt 17, 3) := by decide +kernel
theorem dX10_endGoodCycle_76 : decode cX10_endGoodCycle 76 = .ok (.aload_n 0, 1) := by decide +kernel
theorem dX10_endGoodCycle_77 : decode cX10_endGoodCycle 77 = .ok (.getfield 11, 3) := by decide +kernel
theorem dX10_endGoodCycle_80 : decode cX10_endGoodCycle 80 = .ok (.iconst 5, 1) := by decide +kernel
theorem dX10_endGoodCycle_81 : decode cX10_endGoodCycle 81 = .ok (.aaload, 1) := by decide +kernel
theorem dX10_endGoodCycle_82 : decode cX10_endGoodCycle 82 = .ok (.iload_n 1, 1) := by decide +kernel
theorem dX10_endGoodCycle_83 : decode cX10_endGoodCycle 83 = .ok (.dup2, 1) := by decide +kernel
theorem dX10_endGoodCycle_84 : decode cX10_endGoodCycle 84 = .ok (.iaload, 1) := by decide +kernel
theorem dX10_endGoodCycle_85 : decode cX10_endGoodCycle 85 = .ok (.sipush (-129), 3) := by decide +kernel
theorem dX10_endGoodCycle_88 : decode cX10_endGoodCycle 88 = .ok (.iand, 1) := by decide +kernel
theorem dX10_endGoodCycle_89 : decode cX10_endGoodCycle 89 = .ok (.iastore, 1) := by decide +kernel
theorem dX10_endGoodCycle_90 : decode cX10_endGoodCycle 90 = .ok (.iload_n 2, 1) := by decide +kernel
theorem dX10_endGoodCycle_91 : decode cX10_endGoodCycle 91 = .ok (.ifCond .eq 19, 3) := by decide +kernel
theorem dX10_endGoodCycle_94 : decode cX10_endGoodCycle 94 = .ok (.aload_n 0, 1) := by decide +kernel
theorem dX10_endGoodCycle_95 : decode cX10_endGoodCycle 95 = .ok (.getfield 11, 3) := by decide +kernel
theorem dX10_endGoodCycle_98 : decode cX10_endGoodCycle 98 = .ok (.iconst 5, 1) := by decide +kernel
theorem dX10_endGoodCycle_99 : decode cX10_endGoodCycle 99 = .ok (.aaload, 1) := by decide +kernel
theorem dX10_endGoodCycle_100 : decode cX10_endGoodCycle 100 = .ok (.iload_n 1, 1) := by decide +kernel
theorem dX10_endGoodCycle_101 : decode cX10_endGoodCycle 101 = .ok (.iaload, 1) := by decide +kernel
theorem dX10_endGoodCycle_102 : decode cX10_endGoodCycle 102 = .ok (.bipush 9, 2) := by decide +kernel
theorem dX10_endGoodCycle_104 : decode cX10_endGoodCycle 104 = .ok (.iand, 1) := by decide +kernel
theorem dX10_endGoodCycle_105 : decode cX10_endGoodCycle 105 = .ok (.bipush 8, 2) := by decide +kernel
theorem dX10_endGoodCycle_107 : decode cX10_endGoodCycle 107 = .ok (.if_icmp .eq 4, 3) := by decide +kernel
theorem dX10_endGoodCycle_110 : decode cX10_endGoodCycle 110 = .ok (.return_, 1) := by decide +kernel
theorem dX10_endGoodCycle_111 : decode cX10_endGoodCycle 111 = .ok (.aload_n 0, 1) := by decide +kernel
theorem dX10_endGoodCycle_112 : decode cX10_endGoodCycle 112 = .ok (.getfield 11, 3) := by decide +kernel
theorem dX10_endGoodCycle_115 : decode cX10_endGoodCycle 115 = .ok (.bipush 8, 2) := by decide +kernel
theorem dX10_endGoodCycle_117 : decode cX10_endGoodCycle 117 = .ok (.aaload, 1) := by decide +kernel
theorem dX10_endGoodCycle_118 : decode cX10_endGoodCycle 118 = .ok (.iload_n 1, 1) := by decide +kernel
theorem dX10_endGoodCycle_119 : decode cX10_endGoodCycle 119 = .ok (.dup2, 1) := by decide +kernel
theorem dX10_endGoodCycle_120 : decode cX10_endGoodCycle 120 = .ok (.iaload, 1) := by decide +kernel
theorem dX10_endGoodCycle_121 : decode cX10_endGoodCycle 121 = .ok (.iconst 1, 1) := by decide +kernel
theorem dX10_endGoodCycle_122 : decode cX10_endGoodCycle 122 = .ok (.iadd, 1) := by decide +kernel
theorem dX10_endGoodCycle_123 : decode cX10_endGoodCycle 123 = .ok (.iastore, 1) := by decide +kernel
theorem dX10_endGoodCycle_124 : decode cX10_endGoodCycle 124 = .ok (.aload_n 0, 1) := by decide +kernel
theorem dX10_endGoodCycle_125 : decode cX10_endGoodCycle 125 = .ok (.getfield 11, 3) := by decide +kernel
theorem dX10_endGoodCycle_128 : decode cX10_endGoodCycle 128 = .ok (.bipush 8, 2) := by decide +kernel
theorem dX10_endGoodCycle_130 : decode cX10_endGoodCycle 130 = .ok (.aaload, 1) := by decide +kernel
theorem dX10_endGoodCycle_131 : decode cX10_endGoodCycle 131 = .ok (.iload_n 1, 1) := by decide +kernel
theorem dX10_endGoodCycle_132 : decode cX10_endGoodCycle 132 = .ok (.iaload, 1) := by decide +kernel
theorem dX10_endGoodCycle_133 : decode cX10_endGoodCycle 133 = .ok (.bipush 40, 2) := by decide +kernel
theorem dX10_endGoodCycle_135 : decode cX10_endGoodCycle 135 = .ok (.if_icmp .lt 55, 3) := by decide +kernel
theorem dX10_endGoodCycle_138 : decode cX10_endGoodCycle 138 = .ok (.aload_n 0, 1) := by decide +kernel
theorem dX10_endGoodCycle_139 : decode cX10_endGoodCycle 139 = .ok (.getfield 11, 3) := by decide +kernel
theorem dX10_endGoodCycle_142 : decode cX10_endGoodCycle 142 = .ok (.iconst 5, 1) := by decide +kernel
theorem dX10_endGoodCycle_143 : decode cX10_endGoodCycle 143 = .ok (.aaload, 1) := by decide +kernel
theorem dX10_endGoodCycle_144 : decode cX10_endGoodCycle 144 = .ok (.iload_n 1, 1) := by decide +kernel
theorem dX10_endGoodCycle_145 : decode cX10_endGoodCycle 145 = .ok (.dup2, 1) := by decide +kernel
theorem dX10_endGoodCycle_146 : decode cX10_endGoodCycle 146 = .ok (.iaload, 1) := by decide +kernel
theorem dX10_endGoodCycle_147 : decode cX10_endGoodCycle 147 = .ok (.bipush (-9), 2) := by decide +kernel
theorem dX10_endGoodCycle_149 : decode cX10_endGoodCycle 149 = .ok (.iand, 1) := by decide +kernel
theorem dX10_endGoodCycle_150 : decode cX10_endGoodCycle 150 = .ok (.iastore, 1) := by decide +kernel
theorem dX10_endGoodCycle_151 : decode cX10_endGoodCycle 151 = .ok (.aload_n 0, 1) := by decide +kernel
theorem dX10_endGoodCycle_152 : decode cX10_endGoodCycle 152 = .ok (.getfield 11, 3) := by decide +kernel
theorem dX10_endGoodCycle_155 : decode cX10_endGoodCycle 155 = .ok (.bipush 7, 2) := by decide +kernel
theorem dX10_endGoodCycle_157 : decode cX10_endGoodCycle 157 = .ok (.aaload, 1) := by decide +kernel
theorem dX10_endGoodCycle_158 : decode cX10_endGoodCycle 158 = .ok (.iload_n 1, 1) := by decide +kernel
theorem dX10_endGoodCycle_159 : decode cX10_endGoodCycle 159 = .ok (.iconst 0, 1) := by decide +kernel
theorem dX10_endGoodCycle_160 : decode cX10_endGoodCycle 160 = .ok (.iastore, 1) := by decide +kernel
theorem dX10_endGoodCycle_161 : decode cX10_endGoodCycle 161 = .ok (.aload_n 0, 1) := by decide +kernel
theorem dX10_endGoodCycle_162 : decode cX10_endGoodCycle 162 = .ok (.getfield 11, 3) := by decide +kernel
theorem dX10_endGoodCycle_165 : decode cX10_endGoodCycle 165 = .ok (.bipush 8, 2) := by decide +kernel
theorem dX10_endGoodCycle_167 : decode cX10_endGoodCycle 167 = .ok (.aaload, 1) := by decide +kernel
theorem dX10_endGoodCycle_168 : decode cX10_endGoodCycle 168 = .ok (.iload_n 1, 1) := by decide +kernel
theorem dX10_endGoodCycle_169 : decode cX10_endGoodCycle 169 = .ok (.iconst 0, 1) := by decide +kernel
theorem dX10_endGoodCycle_170 : decode cX10_endGoodCycle 170 = .ok (.iastore, 1) := by decide +kernel
theorem dX10_endGoodCycle_171 : decode cX10_endGoodCycle 171 = .ok (.aload_n 0, 1) := by decide +kernel
theorem dX10_endGoodCycle_172 : decode cX10_endGoodCycle 172 = .ok (.getfield 11, 3) := by decide +kernel
theorem dX10_endGoodCycle_175 : decode cX10_endGoodCycle 175 = .ok (.bipush 9, 2) := by decide +kernel
theorem dX10_endGoodCycle_177 : decode cX10_endGoodCycle 177 = .ok (.aaload, 1) := by decide +kernel
theorem dX10_endGoodCycle_178 : decode cX10_endGoodCycle 178 = .ok (.iload_n 1, 1) := by decide +kernel
theorem dX10_endGoodCycle_179 : decode cX10_endGoodCycle 179 = .ok (.iconst 0, 1) := by decide +kernel
theorem dX10_endGoodCycle_180 : decode cX10_endGoodCycle 180 = .ok (.iastore, 1) := by decide +kernel
theorem dX10_endGoodCycle_181 : decode cX10_endGoodCycle 181 = .ok (.aload_n 0, 1) := by decide +kernel
theorem dX10_endGoodCycle_182 : decode cX10_endGoodCycle 182 = .ok (.aload_n 0, 1) := by decide +kernel
theorem dX10_endGoodCycle_183 : decode cX10_endGoodCycle 183 = .ok (.iload_n 1, 1) := by decide +kernel
theorem dX10_endGoodCycle_184 : decode cX10_endGoodCycle 184 = .ok (.invokevirtual 56, 3) := by decide +kernel
theorem dX10_endGoodCycle_187 : decode cX10_endGoodCycle 187 = .ok (.invokevirtual 63, 3) := by decide +kernel
theorem dX10_endGoodCycle_190 : decode cX10_endGoodCycle 190 = .ok (.return_, 1) := by decide +kernel
theorem cwX10_endGoodCycle : mw_cwV yX10_endGoodCycle cX10_endGoodCycle 3 (none) 2 := ⟨⟨wd_9, wd_1916, by decide +kernel⟩, wd_1915, sl_146⟩
set_option maxHeartbeats 4000000 in
set_option maxRecDepth 100000 in
theorem tX10_endGoodCycle (l : Launch) (G : mwG) (ad : Nat → Nat) (fu : Nat) (a1 : Int32) (a2 : Int32) (M : mwM) (L : mwL) {M0 : mwM} {L0 : mwL} (hD : DX10_endGoodCycle fu a1 a2 M L = some (M0, L0)) : Met l yX10_endGoodCycle (Cond.code yX10_endGoodCycle cX10_endGoodCycle 3 (none) :: GT) ({ frames := 1, cells := 0, slots := 0, locals := 22 }) (mw_Pre G ad NF TF FF M L [.ref (ad 139), .int a1, .int a2]) (mw_Qv G ad NF TF FF (mw_eqV M0 L0)) 0 0 (mw_fr G) := by
  refine mw_enter (by decide) (Nat.le_of_ble_eq_true rfl) ?_
  intro p e s m below meth c ls C hr hlocks hnm hw hl
  have hl : lv_has ls 3 [(0, .ref (ad 139)), (1, .int a1), (2, .int a2)] := hl
  have hb110 : ∀ (M : mwM) (L : mwL) (H : Heap) (locs : List Loc) (ls : Array Slot), fX10_endGoodCycle_b110 fu a1 a2 M L = some (M0, L0) → mw_W G ad NF TF FF M L H locs → lv_has ls 3 [] → W p l e ({ frames := 1, cells := 0, slots := 0, locals := 22 }) s m [.ref (ad 139), .int a1, .int a2].toArray below meth c H locs 0 0 (MQ below (mw_Qv G ad NF TF FF (mw_eqV M0 L0)) [.ref (ad 139), .int a1, .int a2].toArray s 0 0 (mw_fr G)) (F0 m 110 ls []) := by
    intro M L H locs ls hD hw hl
    unfold fX10_endGoodCycle_b110 at hD
    exact mr_vret C hr hlocks hw (Option.some.inj hD) dX10_endGoodCycle_110
  have hb190 : ∀ (M : mwM) (L : mwL) (H : Heap) (locs : List Loc) (ls : Array Slot), fX10_endGoodCycle_b190 fu a1 a2 M L = some (M0, L0) → mw_W G ad NF TF FF M L H locs → lv_has ls 3 [] → W p l e ({ frames := 1, cells := 0, slots := 0, locals := 22 }) s m [.ref (ad 139), .int a1, .int a2].toArray below meth c H locs 0 0 (MQ below (mw_Qv G ad NF TF FF (mw_eqV M0 L0)) [.ref (ad 139), .int a1, .int a2].toArray s 0 0 (mw_fr G)) (F0 m 190 ls []) := by
    intro M L H locs ls hD hw hl
    unfold fX10_endGoodCycle_b190 at hD
    exact mr_vret C hr hlocks hw (Option.some.inj hD) dX10_endGoodCycle_190
  have hb90 : ∀ (M : mwM) (L : mwL) (H : Heap) (locs : List Loc) (ls : Array Slot), fX10_endGoodCycle_b90 fu a1 a2 M L = some (M0, L0) → mw_W G ad NF TF FF M L H locs → lv_has ls 3 [(0, .ref (ad 139)), (1, .int a1), (2, .int a2)] → W p l e ({ frames := 1, cells := 0, slots := 0, locals := 22 }) s m [.ref (ad 139), .int a1, .int a2].toArray below meth c H locs 0 0 (MQ below (mw_Qv G ad NF TF FF (mw_eqV M0 L0)) [.ref (ad 139), .int a1, .int a2].toArray s 0 0 (mw_fr G)) (F0 m 90 ls []) := by
    intro M L H locs ls hD hw hl
    unfold fX10_endGoodCycle_b90 at hD
    refine lv_iload_n C.1.1 C.1.2.1 dX10_endGoodCycle_90 rfl (lv_at hl 2 rfl) ?_
    refine lv_if_eq (tgt := 110) C.1.1 C.1.2.1 dX10_endGoodCycle_91 (by decide) (fun c13 => ?_) (fun c13 => ?_)
    · replace hD := g_pos c13 hD
      exact hb110 M L _ _ ls hD hw (lv_sub hl [] rfl)
    · replace hD := g_neg c13 hD
      refine lv_aload_n C.1.1 C.1.2.1 dX10_endGoodCycle_94 rfl (lv_at hl 0 rfl) ?_
      refine mr_getR C hw kc_10 0 (by decide) tf_139 ff_139_0 wd_328 dX10_endGoodCycle_95 (by decide) rfl ?_
      refine lv_iconst (v := 5) C.1.1 C.1.2.1 dX10_endGoodCycle_98 (by decide) ?_
      refine mr_aald C hw (by decide) tf_140 (by decide) (by decide) rfl rfl (show vp_in 5 12 from by unfold vp_in; decide) ff_140_5 dX10_endGoodCycle_99 ?_
      refine lv_iload_n C.1.1 C.1.2.1 dX10_endGoodCycle_100 rfl (lv_at hl 1 rfl) ?_
      obtain ⟨q15, hD⟩ := g_ck hD
      refine mr_iald C hw (by decide) tf_146 q15 dX10_endGoodCycle_101 ?_
      refine lv_bipush (v := 9) C.1.1 C.1.2.1 dX10_endGoodCycle_102 (by decide) ?_
      refine lv_iand C.1.1 C.1.2.1 dX10_endGoodCycle_104 ?_
      refine lv_bipush (v := 8) C.1.1 C.1.2.1 dX10_endGoodCycle_105 (by decide) ?_
      refine lv_icmp_eq (tgt := 111) C.1.1 C.1.2.1 dX10_endGoodCycle_107 (by decide) (fun c16 => ?_) (fun c16 => ?_)
      · replace hD := g_pos c16 hD
        refine lv_aload_n C.1.1 C.1.2.1 dX10_endGoodCycle_111 rfl (lv_at hl 0 rfl) ?_
        refine mr_getR C hw kc_10 0 (by decide) tf_139 ff_139_0 wd_328 dX10_endGoodCycle_112 (by decide) rfl ?_
        refine lv_bipush (v := 8) C.1.1 C.1.2.1 dX10_endGoodCycle_115 (by decide) ?_
        refine mr_aald C hw (by decide) tf_140 (by decide) (by decide) rfl rfl (show vp_in 8 12 from by unfold vp_in; decide) ff_140_8 dX10_endGoodCycle_117 ?_
        refine lv_iload_n C.1.1 C.1.2.1 dX10_endGoodCycle_118 rfl (lv_at hl 1 rfl) ?_
        refine lv_dup2_11 C.1.1 C.1.2.1 dX10_endGoodCycle_119 rfl rfl ?_
        obtain ⟨q18, hD⟩ := g_ck hD
        refine mr_iald C hw (by decide) tf_149 q18 dX10_endGoodCycle_120 ?_
        refine lv_iconst (v := 1) C.1.1 C.1.2.1 dX10_endGoodCycle_121 (by decide) ?_
        refine lv_iadd C.1.1 C.1.2.1 dX10_endGoodCycle_122 ?_
        obtain ⟨q19, hD⟩ := g_ck hD
        obtain ⟨M20, eM20, hD⟩ := g_let hD
        refine mr_iast C hw (by decide) tf_149 q19 dX10_endGoodCycle_123 (fun H locs hw => ?_)
        replace hw : mw_W G ad NF TF FF M20 L H locs := by rw [eM20]; exact hw
        refine lv_aload_n C.1.1 C.1.2.1 dX10_endGoodCycle_124 rfl (lv_at hl 0 rfl) ?_
        refine mr_getR C hw kc_10 0 (by decide) tf_139 ff_139_0 wd_328 dX10_endGoodCycle_125 (by decide) rfl ?_
        refine lv_bipush (v := 8) C.1.1 C.1.2.1 dX10_endGoodCycle_128 (by decide) ?_
        refine mr_aald C hw (by decide) tf_140 (by decide) (by decide) rfl rfl (show vp_in 8 12 from by unfold vp_in; decide) ff_140_8 dX10_endGoodCycle_130 ?_
        refine lv_iload_n C.1.1 C.1.2.1 dX10_endGoodCycle_131 rfl (lv_at hl 1 rfl) ?_
        obtain ⟨q22, hD⟩ := g_ck hD
        refine mr_iald C hw (by decide) tf_149 q22 dX10_endGoodCycle_132 ?_
        refine lv_bipush (v := 40) C.1.1 C.1.2.1 dX10_endGoodCycle_133 (by decide) ?_
        refine lv_icmp_lt (tgt := 190) C.1.1 C.1.2.1 dX10_endGoodCycle_135 (by decide) (fun c23 => ?_) (fun c23 => ?_)
        · replace hD := g_pos c23 hD
          exact hb190 M20 L _ _ ls hD hw (lv_sub hl [] rfl)
        · replace hD := g_neg c23 hD
          refine lv_aload_n C.1.1 C.1.2.1 dX10_endGoodCycle_138 rfl (lv_at hl 0 rfl) ?_
          refine mr_getR C hw kc_10 0 (by decide) tf_139 ff_139_0 wd_328 dX10_endGoodCycle_139 (by decide) rfl ?_
          refine lv_iconst (v := 5) C.1.1 C.1.2.1 dX10_endGoodCycle_142 (by decide) ?_
          refine mr_aald C hw (by decide) tf_140 (by decide) (by decide) rfl rfl (show vp_in 5 12 from by unfold vp_in; decide) ff_140_5 dX10_endGoodCycle_143 ?_
          refine lv_iload_n C.1.1 C.1.2.1 dX10_endGoodCycle_144 rfl (lv_at hl 1 rfl) ?_
          refine lv_dup2_11 C.1.1 C.1.2.1 dX10_endGoodCycle_145 rfl rfl ?_
          obtain ⟨q25, hD⟩ := g_ck hD
          refine mr_iald C hw (by decide) tf_146 q25 dX10_endGoodCycle_146 ?_
          refine lv_bipush (v := (-9)) C.1.1 C.1.2.1 dX10_endGoodCycle_147 (by decide) ?_
          refine lv_iand C.1.1 C.1.2.1 dX10_endGoodCycle_149 ?_
          obtain ⟨q26, hD⟩ := g_ck hD
          obtain ⟨M27, eM27, hD⟩ := g_let hD
          refine mr_iast C hw (by decide) tf_146 q26 dX10_endGoodCycle_150 (fun H locs hw => ?_)
          replace hw : mw_W G ad NF TF FF M27 L H locs := by rw [eM27]; exact hw
          refine lv_aload_n C.1.1 C.1.2.1 dX10_endGoodCycle_151 rfl (lv_at hl 0 rfl) ?_
          refine mr_getR C hw kc_10 0 (by decide) tf_139 ff_139_0 wd_328 dX10_endGoodCycle_152 (by decide) rfl ?_
          refine lv_bipush (v := 7) C.1.1 C.1.2.1 dX10_endGoodCycle_155 (by decide) ?_
          refine mr_aald C hw (by decide) tf_140 (by decide) (by decide) rfl rfl (show vp_in 7 12 from by unfold vp_in; decide) ff_140_7 dX10_endGoodCycle_157 ?_
          refine lv_iload_n C.1.1 C.1.2.1 dX10_endGoodCycle_158 rfl (lv_at hl 1 rfl) ?_
          refine lv_iconst (v := 0) C.1.1 C.1.2.1 dX10_endGoodCycle_159 (by decide) ?_
          obtain ⟨q29, hD⟩ := g_ck hD
          obtain ⟨M30, eM30, hD⟩ := g_let hD
          refine mr_iast C hw (by decide) tf_148 q29 dX10_endGoodCycle_160 (fun H locs hw => ?_)
          replace hw : mw_W G ad NF TF FF M30 L H locs := by rw [eM30]; exact hw
          refine lv_aload_n C.1.1 C.1.2.1 dX10_endGoodCycle_161 rfl (lv_at hl 0 rfl) ?_
          refine mr_getR C hw kc_10 0 (by decide) tf_139 ff_139_0 wd_328 dX10_endGoodCycle_162 (by decide) rfl ?_
          refine lv_bipush (v := 8) C.1.1 C.1.2.1 dX10_endGoodCycle_165 (by decide) ?_
          refine mr_aald C hw (by decide) tf_140 (by decide) (by decide) rfl rfl (show vp_in 8 12 from by unfold vp_in; decide) ff_140_8 dX10_endGoodCycle_167 ?_
          refine lv_iload_n C.1.1 C.1.2.1 dX10_endGoodCycle_168 rfl (lv_at hl 1 rfl) ?_
          refine lv_iconst (v := 0) C.1.1 C.1.2.1 dX10_endGoodCycle_169 (by decide) ?_
          obtain ⟨q32, hD⟩ := g_ck hD
          obtain ⟨M33, eM33, hD⟩ := g_let hD
          refine mr_iast C hw (by decide) tf_149 q32 dX10_endGoodCycle_170 (fun H locs hw => ?_)
          replace hw : mw_W G ad NF TF FF M33 L H locs := by rw [eM33]; exact hw
          refine lv_aload_n C.1.1 C.1.2.1 dX10_endGoodCycle_171 rfl (lv_at hl 0 rfl) ?_
          refine mr_getR C hw kc_10 0 (by decide) tf_139 ff_139_0 wd_328 dX10_endGoodCycle_172 (by decide) rfl ?_
          refine lv_bipush (v := 9) C.1.1 C.1.2.1 dX10_endGoodCycle_175 (by decide) ?_
          refine mr_aald C hw (by decide) tf_140 (by decide) (by decide) rfl rfl (show vp_in 9 12 from by unfold vp_in; decide) ff_140_9 dX10_endGoodCycle_177 ?_
          refine lv_iload_n C.1.1 C.1.2.1 dX10_endGoodCycle_178 rfl (lv_at hl 1 rfl) ?_
          refine lv_iconst (v := 0) C.1.1 C.1.2.1 dX10_endGoodCycle_179 (by decide) ?_
          obtain ⟨q35, hD⟩ := g_ck hD
          obtain ⟨M36, eM36, hD⟩ := g_let hD
          refine mr_iast C hw (by decide) tf_150 q35 dX10_endGoodCycle_180 (fun H locs hw => ?_)
          replace hw : mw_W G ad NF TF FF M36 L H locs := by rw [eM36]; exact hw
          refine lv_aload_n C.1.1 C.1.2.1 dX10_endGoodCycle_181 rfl (lv_at hl 0 rfl) ?_
          refine lv_aload_n C.1.1 C.1.2.1 dX10_endGoodCycle_182 rfl (lv_at hl 0 rfl) ?_
          refine lv_iload_n C.1.1 C.1.2.1 dX10_endGoodCycle_183 rfl (lv_at hl 1 rfl) ?_
          obtain ⟨r39, M37, L38, h1, hD⟩ := g_b3 hD
          refine md_cvI (As := [.int a1]) (rest := [.ref (ad 139)]) C hw (tX10_entryOf l G ad fu a1 M36 L h1) kc_10 (by decide) tf_139 wd_1739 cwX10_entryOf ⟨Nat.le_of_ble_eq_true rfl, Nat.le_of_ble_eq_true rfl⟩ rfl hl.1 (Nat.le_of_ble_eq_true rfl) dX10_endGoodCycle_184 rfl rfl ⟨Nat.zero_le _, Nat.zero_le _⟩ rfl (fun H locs hw => ?_)
          obtain ⟨M40, L41, h1, hD⟩ := g_b2 hD
          refine md_cvV (As := [.int r39]) (rest := []) C hw (tX10_removeEntry l G ad fu r39 M37 L38 h1) kc_10 (by decide) tf_139 wd_1751 cwX10_removeEntry ⟨Nat.le_of_ble_eq_true rfl, Nat.le_of_ble_eq_true rfl⟩ rfl hl.1 (Nat.le_of_ble_eq_true rfl) dX10_endGoodCycle_187 rfl rfl ⟨Nat.zero_le _, Nat.zero_le _⟩ rfl (fun H locs hw => ?_)
          exact hb190 M40 L41 _ _ ls hD hw (lv_sub hl [] rfl)
      · replace hD := g_neg c16 hD
        exact hb110 M L _ _ ls hD hw (lv_sub hl [] rfl)
  have hb37 : ∀ (M : mwM) (L : mwL) (H : Heap) (locs : List Loc) (ls : Array Slot), fX10_endGoodCycle_b37 fu a1 a2 M L = some (M0, L0) → mw_W G ad NF TF FF M L H locs → lv_has ls 3 [(0, .ref (ad 139)), (1, .int a1), (2, .int a2)] → W p l e ({ frames := 1, cells := 0, slots := 0, locals := 22 }) s m [.ref (ad 139), .int a1, .int a2].toArray below meth c H locs 0 0 (MQ below (mw_Qv G ad NF TF FF (mw_eqV M0 L0)) [.ref (ad 139), .int a1, .int a2].toArray s 0 0 (mw_fr G)) (F0 m 37 ls []) := by
    intro M L H locs ls hD hw hl
    unfold fX10_endGoodCycle_b37 at hD
    refine lv_aload_n C.1.1 C.1.2.1 dX10_endGoodCycle_37 rfl (lv_at hl 0 rfl) ?_
    refine mr_getR C hw kc_10 0 (by decide) tf_139 ff_139_0 wd_328 dX10_endGoodCycle_38 (by decide) rfl ?_
    refine lv_bipush (v := 9) C.1.1 C.1.2.1 dX10_endGoodCycle_41 (by decide) ?_
    refine mr_aald C hw (by decide) tf_140 (by decide) (by decide) rfl rfl (show vp_in 9 12 from by unfold vp_in; decide) ff_140_9 dX10_endGoodCycle_43 ?_
    refine lv_iload_n C.1.1 C.1.2.1 dX10_endGoodCycle_44 rfl (lv_at hl 1 rfl) ?_
    refine lv_aload_n C.1.1 C.1.2.1 dX10_endGoodCycle_45 rfl (lv_at hl 0 rfl) ?_
    refine mr_getR C hw kc_10 0 (by decide) tf_139 ff_139_0 wd_328 dX10_endGoodCycle_46 (by decide) rfl ?_
    refine lv_bipush (v := 9) C.1.1 C.1.2.1 dX10_endGoodCycle_49 (by decide) ?_
    refine mr_aald C hw (by decide) tf_140 (by decide) (by decide) rfl rfl (show vp_in 9 12 from by unfold vp_in; decide) ff_140_9 dX10_endGoodCycle_51 ?_
    refine lv_iload_n C.1.1 C.1.2.1 dX10_endGoodCycle_52 rfl (lv_at hl 1 rfl) ?_
    obtain ⟨q3, hD⟩ := g_ck hD
    refine mr_iald C hw (by decide) tf_150 q3 dX10_endGoodCycle_53 ?_
    refine lv_iconst (v := 1) C.1.1 C.1.2.1 dX10_endGoodCycle_54 (by decide) ?_
    refine lv_iadd C.1.1 C.1.2.1 dX10_endGoodCycle_55 ?_
    refine lv_sipush (v := 255) C.1.1 C.1.2.1 dX10_endGoodCycle_56 (by decide) ?_
    refine va_mmin C.1.1 C.1.2.1 (C.1.2.2.1.trans hl.1.symm) C.1.2.2.2.1 (C.1.2.2.2.2 _ wd_1633) (C.1.2.2.2.2 _ wd_1150) (C.1.2.2.2.2 _ wd_30) (C.1.2.2.2.2 _ wd_1151) (Nat.le_of_ble_eq_true rfl) (Nat.le_of_ble_eq_true rfl) (Nat.zero_le _) (Nat.zero_le _) dX10_endGoodCycle_59 ?_
    obtain ⟨q4, hD⟩ := g_ck hD
    obtain ⟨M5, eM5, hD⟩ := g_let hD
    refine mr_iast C hw (by decide) tf_150 q4 dX10_endGoodCycle_62 (fun H locs hw => ?_)
    replace hw : mw_W G ad NF TF FF M5 L H locs := by rw [eM5]; exact hw
    refine lv_aload_n C.1.1 C.1.2.1 dX10_endGoodCycle_63 rfl (lv_at hl 0 rfl) ?_
    refine mr_getR C hw kc_10 0 (by decide) tf_139 ff_139_0 wd_328 dX10_endGoodCycle_64 (by decide) rfl ?_
    refine lv_bipush (v := 9) C.1.1 C.1.2.1 dX10_endGoodCycle_67 (by decide) ?_
    refine mr_aald C hw (by decide) tf_140 (by decide) (by decide) rfl rfl (show vp_in 9 12 from by unfold vp_in; decide) ff_140_9 dX10_endGoodCycle_69 ?_
    refine lv_iload_n C.1.1 C.1.2.1 dX10_endGoodCycle_70 rfl (lv_at hl 1 rfl) ?_
    obtain ⟨q7, hD⟩ := g_ck hD
    refine mr_iald C hw (by decide) tf_150 q7 dX10_endGoodCycle_71 ?_
    refine lv_iconst (v := 3) C.1.1 C.1.2.1 dX10_endGoodCycle_72 (by decide) ?_
    refine lv_icmp_lt (tgt := 90) C.1.1 C.1.2.1 dX10_endGoodCycle_73 (by decide) (fun c8 => ?_) (fun c8 => ?_)
    · replace hD := g_pos c8 hD
      exact hb90 M5 L _ _ ls hD hw (lv_sub hl [0, 1, 2] rfl)
    · replace hD := g_neg c8 hD
      refine lv_aload_n C.1.1 C.1.2.1 dX10_endGoodCycle_76 rfl (lv_at hl 0 rfl) ?_
      refine mr_getR C hw kc_10 0 (by decide) tf_139 ff_139_0 wd_328 dX10_endGoodCycle_77 (by decide) rfl ?_
      refine lv_iconst (v := 5) C.1.1 C.1.2.1 dX10_endGoodCycle_80 (by decide) ?_
      refine mr_aald C hw (by decide) tf_140 (by decide) (by decide) rfl rfl (show vp_in 5 12 from by unfold vp_in; decide) ff_140_5 dX10_endGoodCycle_81 ?_
      refine lv_iload_n C.1.1 C.1.2.1 dX10_endGoodCycle_82 rfl (lv_at hl 1 rfl) ?_
      refine lv_dup2_11 C.1.1 C.1.2.1 dX10_endGoodCycle_83 rfl rfl ?_
      obtain ⟨q10, hD⟩ := g_ck hD
      refine mr_iald C hw (by decide) tf_146 q10 dX10_endGoodCycle_84 ?_
      refine lv_sipush (v := (-129)) C.1.1 C.1.2.1 dX10_endGoodCycle_85 (by decide) ?_
      refine lv_iand C.1.1 C.1.2.1 dX10_endGoodCycle_88 ?_
      obtain ⟨q11, hD⟩ := g_ck hD
      obtain ⟨M12, eM12, hD⟩ := g_let hD
      refine mr_iast C hw (by decide) tf_146 q11 dX10_endGoodCycle_89 (fun H locs hw => ?_)
      replace hw : mw_W G ad NF TF FF M12 L H locs := by rw [eM12]; exact hw
      exact hb90 M12 L _ _ ls hD hw (lv_sub hl [0, 1, 2] rfl)
  unfold DX10_endGoodCycle at hD
  refine lv_aload_n C.1.1 C.1.2.1 dX10_endGoodCycle_0 rfl (lv_at hl 0 rfl) ?_
  refine mr_getR C hw kc_10 0 (by decide) tf_139 ff_139_0 wd_328 dX10_endGoodCycle_1 (by decide) rfl ?_
  refine lv_iconst (v := 5) C.1.1 C.1.2.1 dX10_endGoodCycle_4 (by decide) ?_
  refine mr_aald C hw (by decide) tf_140 (by decide) (by decide) rfl rfl (show vp_in 5 12 from by unfold vp_in; decide) ff_140_5 dX10_endGoodCycle_5 ?_
  refine lv_iload_n C.1.1 C.1.2.1 dX10_endGoodCycle_6 rfl (lv_at hl 1 rfl) ?_
  refine lv_dup2_11 C.1.1 C.1.2.1 dX10_endGoodCycle_7 rfl rfl ?_
  obtain ⟨q43, hD⟩ := g_ck hD
  refine mr_iald C hw (by decide) tf_146 q43 dX10_endGoodCycle_8 ?_
  refine lv_bipush (v := (-5)) C.1.1 C.1.2.1 dX10_endGoodCycle_9 (by decide) ?_
  refine lv_iand C.1.1 C.1.2.1 dX10_endGoodCycle_11 ?_
  obtain ⟨q44, hD⟩ := g_ck hD
  obtain ⟨M45, eM45, hD⟩ := g_let hD
  refine mr_iast C hw (by decide) tf_146 q44 dX10_endGoodCycle_12 (fun H locs hw => ?_)
  replace hw : mw_W G ad NF TF FF M45 L H locs := by rw [eM45]; exact hw
  refine lv_aload_n C.1.1 C.1.2.1 dX10_endGoodCycle_13 rfl (lv_at hl 0 rfl) ?_
  refine mr_getR C hw kc_10 0 (by decide) tf_139 ff_139_0 wd_328 dX10_endGoodCycle_14 (by decide) rfl ?_
  refine lv_iconst (v := 5) C.1.1 C.1.2.1 dX10_endGoodCycle_17 (by decide) ?_
  refine mr_aald C hw (by decide) tf_140 (by decide) (by decide) rfl rfl (show vp_in 5 12 from by unfold vp_in; decide) ff_140_5 dX10_endGoodCycle_18 ?_
  refine lv_iload_n C.1.1 C.1.2.1 dX10_endGoodCycle_19 rfl (lv_at hl 1 rfl) ?_
  obtain ⟨q47, hD⟩ := g_ck hD
  refine mr_iald C hw (by decide) tf_146 q47 dX10_endGoodCycle_20 ?_
  refine lv_bipush (v := 8) C.1.1 C.1.2.1 dX10_endGoodCycle_21 (by decide) ?_
  refine lv_iand C.1.1 C.1.2.1 dX10_endGoodCycle_23 ?_
  refine lv_if_ne (tgt := 37) C.1.1 C.1.2.1 dX10_endGoodCycle_24 (by decide) (fun c48 => ?_) (fun c48 => ?_)
  · replace hD := g_neg c48 hD
    exact hb37 M45 L _ _ ls hD hw (lv_sub hl [0, 1, 2] rfl)
  · replace hD := g_pos c48 hD
    refine lv_aload_n C.1.1 C.1.2.1 dX10_endGoodCycle_27 rfl (lv_at hl 0 rfl) ?_
    refine mr_getR C hw kc_10 0 (by decide) tf_139 ff_139_0 wd_328 dX10_endGoodCycle_28 (by decide) rfl ?_
    refine lv_bipush (v := 7) C.1.1 C.1.2.1 dX10_endGoodCycle_31 (by decide) ?_
    refine mr_aald C hw (by decide) tf_140 (by decide) (by decide) rfl rfl (show vp_in 7 12 from by unfold vp_in; decide) ff_140_7 dX10_endGoodCycle_33 ?_
    refine lv_iload_n C.1.1 C.1.2.1 dX10_endGoodCycle_34 rfl (lv_at hl 1 rfl) ?_
    refine lv_iconst (v := 0) C.1.1 C.1.2.1 dX10_endGoodCycle_35 (by decide) ?_
    obtain ⟨q50, hD⟩ := g_ck hD
    obtain ⟨M51, eM51, hD⟩ := g_let hD
    refine mr_iast C hw (by decide) tf_148 q50 dX10_endGoodCycle_36 (fun H locs hw => ?_)
    replace hw : mw_W G ad NF TF FF M51 L H locs := by rw [eM51]; exact hw
    exact hb37 M51 L _ _ ls hD hw (lv_sub hl [0, 1, 2] rfl)

theorem dX10_endCycle_0 : decode cX10_endCycle 0 = .ok (.iconst 0, 1) := by decide +kernel
theorem dX10_endCycle_1 : decode cX10_endCycle 1 = .ok (.istore_n 2, 1) := by decide +kernel
theorem dX10_endCycle_2 : decode cX10_endCycle 2 = .ok (.iload_n 2, 1) := by decide +kernel
theorem dX10_endCycle_3 : decode cX10_endCycle 3 = .ok (.aload_n 0, 1) := by decide +kernel
theorem dX10_endCycle_4 : decode cX10_endCycle 4 = .ok (.getfield 20, 3) := by decide +kernel
theorem dX10_endCycle_7 : decode cX10_endCycle 7 = .ok (.if_icmp .ge 29, 3) := by decide +kernel
theorem dX10_endCycle_10 : decode cX10_endCycle 10 = .ok (.aload_n 0, 1) := by decide +kernel
theorem dX10_endCycle_11 : decode cX10_endCycle 11 = .ok (.getfield 11, 3) := by decide +kernel
theorem dX10_endCycle_14 : decode cX10_endCycle 14 = .ok (.iconst 5, 1) := by decide +kernel
theorem dX10_endCycle_15 : decode cX10_endCycle 15 = .ok (.aaload, 1) := by decide +kernel
theorem dX10_endCycle_16 : decode cX10_endCycle 16 = .ok (.iload_n 2, 1) := by decide +kernel
theorem dX10_endCycle_17 : decode cX10_endCycle 17 = .ok (.iaload, 1) := by decide +kernel
theorem dX10_endCycle_18 : decode cX10_endCycle 18 = .ok (.bipush 66, 2) := by decide +kernel
theorem dX10_endCycle_20 : decode cX10_endCycle 20 = .ok (.iand, 1) := by decide +kernel
theorem dX10_endCycle_21 : decode cX10_endCycle 21 = .ok (.ifCond .ne 9, 3) := by decide +kernel
theorem dX10_endCycle_24 : decode cX10_endCycle 24 = .ok (.aload_n 0, 1) := by decide +kernel
theorem dX10_endCycle_25 : decode cX10_endCycle 25 = .ok (.iload_n 2, 1) := by decide +kernel
theorem dX10_endCycle_26 : decode cX10_endCycle 26 = .ok (.iload_n 1, 1) := by decide +kernel
theorem dX10_endCycle_27 : decode cX10_endCycle 27 = .ok (.invokevirtual 69, 3) := by decide +kernel
theorem dX10_endCycle_30 : decode cX10_endCycle 30 = .ok (.iinc 2 1, 3) := by decide +kernel
theorem dX10_endCycle_33 : decode cX10_endCycle 33 = .ok (.goto (-31), 3) := by decide +kernel
theorem dX10_endCycle_36 : decode cX10_endCycle 36 = .ok (.iconst 0, 1) := by decide +kernel
theorem dX10_endCycle_37 : decode cX10_endCycle 37 = .ok (.istore_n 2, 1) := by decide +kernel
theorem dX10_endCycle_38 : decode cX10_endCycle 38 = .ok (.iload_n 2, 1) := by decide +kernel
theorem dX10_endCycle_39 : decode cX10_endCycle 39 = .ok (.aload_n 0, 1) := by decide +kernel
theorem dX10_endCycle_40 : decode cX10_endCycle 40 = .ok (.getfield 20, 3) := by decide +kernel
theorem dX10_endCycle_43 : decode cX10_endCycle 43 = .ok (.if_icmp .ge 31, 3) := by decide +kernel
theorem dX10_endCycle_46 : decode cX10_endCycle 46 = .ok (.aload_n 0, 1) := by decide +kernel
theorem dX10_endCycle_47 : decode cX10_endCycle 47 = .ok (.getfield 11, 3) := by decide +kernel
theorem dX10_endCycle_50 : decode cX10_endCycle 50 = .ok (.iconst 5, 1) := by decide +kernel
theorem dX10_endCycle_51 : decode cX10_endCycle 51 = .ok (.aaload, 1) := by decide +kernel
theorem dX10_endCycle_52 : decode cX10_endCycle 52 = .ok (.iload_n 2, 1) := by decide +kernel
theorem dX10_endCycle_53 : decode cX10_endCycle 53 = .ok (.aload_n 0, 1) := by decide +kernel
theorem dX10_endCycle_54 : decode cX10_endCycle 54 = .ok (.getfield 11, 3) := by decide +kernel
theorem dX10_endCycle_57 : decode cX10_endCycle 57 = .ok (.iconst 5, 1) := by decide +kernel
theorem dX10_endCycle_58 : decode cX10_endCycle 58 = .ok (.aaload, 1) := by decide +kernel
theorem dX10_endCycle_59 : decode cX10_endCycle 59 = .ok (.iload_n 2, 1) := by decide +kernel
theorem dX10_endCycle_60 : decode cX10_endCycle 60 = .ok (.iaload, 1) := by decide +kernel
theorem dX10_endCycle_61 : decode cX10_endCycle 61 = .ok (.bipush (-3), 2) := by decide +kernel
theorem dX10_endCycle_63 : decode cX10_endCycle 63 = .ok (.iand, 1) := by decide +kernel
theorem dX10_endCycle_64 : decode cX10_endCycle 64 = .ok (.bipush 64, 2) := by decide +kernel
theorem dX10_endCycle_66 : decode cX10_endCycle 66 = .ok (.ior, 1) := by decide +kernel
theorem dX10_endCycle_67 : decode cX10_endCycle 67 = .ok (.iastore, 1) := by decide +kernel
theorem dX10_endCycle_68 : decode cX10_endCycle 68 = .ok (.iinc 2 1, 3) := by decide +kernel
theorem dX10_endCycle_71 : decode cX10_endCycle 71 = .ok (.goto (-33), 3) := by decide +kernel
theorem dX10_endCycle_74 : decode cX10_endCycle 74 = .ok (.aload_n 0, 1) := by decide +kernel
theorem dX10_endCycle_75 : decode cX10_endCycle 75 = .ok (.dup, 1) := by decide +kernel
theorem dX10_endCycle_76 : decode cX10_endCycle 76 = .ok (.getfield 27, 3) := by decide +kernel
theorem dX10_endCycle_79 : decode cX10_endCycle 79 = .ok (.iconst 1, 1) := by decide +kernel
theorem dX10_endCycle_80 : decode cX10_endCycle 80 = .ok (.iadd, 1) := by decide +kernel
theorem dX10_endCycle_81 : decode cX10_endCycle 81 = .ok (.putfield 27, 3) := by decide +kernel
theorem dX10_endCycle_84 : decode cX10_endCycle 84 = .ok (.aload_n 0, 1) := by decide +kernel
theorem dX10_endCycle_85 : decode cX10_endCycle 85 = .ok (.getfield 27, 3) := by decide +kernel
theorem dX10_endCycle_88 : decode cX10_endCycle 88 = .ok (.ireturn, 1) := by decide +kernel
theorem cwX10_endCycle : mw_cwV yX10_endCycle cX10_endCycle 3 ((some .int)) 1 := ⟨⟨wd_9, wd_1912, by decide +kernel⟩, wd_1910, wd_1911⟩
set_option maxHeartbeats 4000000 in
set_option maxRecDepth 100000 in
theorem tX10_endCycle (l : Launch) (G : mwG) (ad : Nat → Nat) (fu : Nat) (a1 : Int32) (M : mwM) (L : mwL) {r0 : Int32} {M0 : mwM} {L0 : mwL} (hD : DX10_endCycle fu a1 M L = some (r0, M0, L0)) : Met l yX10_endCycle (Cond.code yX10_endCycle cX10_endCycle 3 ((some .int)) :: GT) ({ frames := 2, cells := 0, slots := 0, locals := 44 }) (mw_Pre G ad NF TF FF M L [.ref (ad 139), .int a1]) (mw_Qi G ad NF TF FF (mw_eqI r0 M0 L0)) 0 0 (mw_fr G) := by
  refine mw_enter (by decide) (Nat.le_of_ble_eq_true rfl) ?_
  intro p e s m below meth c ls C hr hlocks hnm hw hl
  have hl : lv_has ls 3 [(0, .ref (ad 139)), (1, .int a1)] := hl
  have hh38 : ∀ (f : Nat) (v2 : Int32) (M : mwM) (L : mwL) (H : Heap) (locs : List Loc) (ls : Array Slot), fX10_endCycle_h38 fu a1 f (v2, M, L) = some (r0, M0, L0) → mw_W G ad NF TF FF M L H locs → lv_has ls 3 [(0, .ref (ad 139)), (2, .int v2)] → W p l e ({ frames := 2, cells := 0, slots := 0, locals := 44 }) s m [.ref (ad 139), .int a1].toArray below meth c H locs 0 0 (MQ below (mw_Qi G ad NF TF FF (mw_eqI r0 M0 L0)) [.ref (ad 139), .int a1].toArray s 0 0 (mw_fr G)) (F0 m 38 ls []) := by
    intro f
    induction f with
    | zero => intro v2 M L H locs ls hD; cases hD
    | succ f38 ih38 =>
      intro v2 M L H locs ls hD hw hl
      replace hD : fX10_endCycle_i38 fu a1 (fX10_endCycle_h38 fu a1 f38) v2 M L = some (r0, M0, L0) := hD
      unfold fX10_endCycle_i38 at hD
      refine lv_iload_n C.1.1 C.1.2.1 dX10_endCycle_38 rfl (lv_at hl 1 rfl) ?_
      refine lv_aload_n C.1.1 C.1.2.1 dX10_endCycle_39 rfl (lv_at hl 0 rfl) ?_
      refine mr_getI C hw kc_10 2 (by decide) tf_139 wd_331 dX10_endCycle_40 (by decide) rfl ?_
      refine lv_icmp_ge (tgt := 74) C.1.1 C.1.2.1 dX10_endCycle_43 (by decide) (fun c8 => ?_) (fun c8 => ?_)
      · replace hD := g_pos c8 hD
        refine lv_aload_n C.1.1 C.1.2.1 dX10_endCycle_74 rfl (lv_at hl 0 rfl) ?_
        refine lv_dup C.1.1 C.1.2.1 dX10_endCycle_75 rfl ?_
        refine mr_getI C hw kc_10 4 (by decide) tf_139 wd_336 dX10_endCycle_76 (by decide) rfl ?_
        refine lv_iconst (v := 1) C.1.1 C.1.2.1 dX10_endCycle_79 (by decide) ?_
        refine lv_iadd C.1.1 C.1.2.1 dX10_endCycle_80 ?_
        obtain ⟨M9, eM9, hD⟩ := g_let hD
        refine mr_putI C hw kc_10 4 (by decide) tf_139 wd_336 dX10_endCycle_81 (by decide) rfl rfl rfl rfl (fun H locs hw => ?_)
        replace hw : mw_W G ad NF TF FF M9 L H locs := by rw [eM9]; exact hw
        refine lv_aload_n C.1.1 C.1.2.1 dX10_endCycle_84 rfl (lv_at hl 0 rfl) ?_
        refine mr_getI C hw kc_10 4 (by decide) tf_139 wd_336 dX10_endCycle_85 (by decide) rfl ?_
        exact mr_iret C hr hlocks hw rfl (Option.some.inj hD) dX10_endCycle_88
      · replace hD := g_neg c8 hD
        refine lv_aload_n C.1.1 C.1.2.1 dX10_endCycle_46 rfl (lv_at hl 0 rfl) ?_
        refine mr_getR C hw kc_10 0 (by decide) tf_139 ff_139_0 wd_328 dX10_endCycle_47 (by decide) rfl ?_
        refine lv_iconst (v := 5) C.1.1 C.1.2.1 dX10_endCycle_50 (by decide) ?_
        refine mr_aald C hw (by decide) tf_140 (by decide) (by decide) rfl rfl (show vp_in 5 12 from by unfold vp_in; decide) ff_140_5 dX10_endCycle_51 ?_
        refine lv_iload_n C.1.1 C.1.2.1 dX10_endCycle_52 rfl (lv_at hl 1 rfl) ?_
        refine lv_aload_n C.1.1 C.1.2.1 dX10_endCycle_53 rfl (lv_at hl 0 rfl) ?_
        refine mr_getR C hw kc_10 0 (by decide) tf_139 ff_139_0 wd_328 dX10_endCycle_54 (by decide) rfl ?_
        refine lv_iconst (v := 5) C.1.1 C.1.2.1 dX10_endCycle_57 (by decide) ?_
        refine mr_aald C hw (by decide) tf_140 (by decide) (by decide) rfl rfl (show vp_in 5 12 from by unfold vp_in; decide) ff_140_5 dX10_endCycle_58 ?_
        refine lv_iload_n C.1.1 C.1.2.1 dX10_endCycle_59 rfl (lv_at hl 1 rfl) ?_
        obtain ⟨q12, hD⟩ := g_ck hD
        refine mr_iald C hw (by decide) tf_146 q12 dX10_endCycle_60 ?_
        refine lv_bipush (v := (-3)) C.1.1 C.1.2.1 dX10_endCycle_61 (by decide) ?_
        refine lv_iand C.1.1 C.1.2.1 dX10_endCycle_63 ?_
        refine lv_bipush (v := 64) C.1.1 C.1.2.1 dX10_endCycle_64 (by decide) ?_
        refine lv_ior C.1.1 C.1.2.1 dX10_endCycle_66 ?_
        obtain ⟨q13, hD⟩ := g_ck hD
        obtain ⟨M14, eM14, hD⟩ := g_let hD
        refine mr_iast C hw (by decide) tf_146 q13 dX10_endCycle_67 (fun H locs hw => ?_)
        replace hw : mw_W G ad NF TF FF M14 L H locs := by rw [eM14]; exact hw
        obtain ⟨x15, ex15, hD⟩ := g_let hD
        refine lv_iinc (v := x15) (lv' := [(2, .int x15), (0, .ref (ad 139))]) C.1.1 C.1.2.1 dX10_endCycle_68 hl (k := 1) rfl (by rw [ex15]; rfl) (by decide) rfl (fun ls hl => ?_)
        refine lv_goto (tgt := 38) C.1.1 C.1.2.1 dX10_endCycle_71 (by decide) ?_
        exact ih38 x15 M14 L _ _ ls hD hw (lv_sub hl [1, 0] rfl)
  have hh2 : ∀ (f : Nat) (v2 : Int32) (M : mwM) (L : mwL) (H : Heap) (locs : List Loc) (ls : Array Slot), fX10_endCycle_h2 fu a1 f (v2, M, L) = some (r0, M0, L0) → mw_W G ad NF TF FF M L H locs → lv_has ls 3 [(0, .ref (ad 139)), (1, .int a1), (2, .int v2)] → W p l e ({ frames := 2, cells := 0, slots := 0, locals := 44 }) s m [.ref (ad 139), .int a1].toArray below meth c H locs 0 0 (MQ below (mw_Qi G ad NF TF FF (mw_eqI r0 M0 L0)) [.ref (ad 139), .int a1].toArray s 0 0 (mw_fr G)) (F0 m 2 ls []) := by
    intro f
    induction f with
    | zero => intro v2 M L H locs ls hD; cases hD
    | succ f2 ih2 =>
      intro v2 M L H locs ls hD hw hl
      replace hD : fX10_endCycle_i2 fu a1 (fX10_endCycle_h2 fu a1 f2) v2 M L = some (r0, M0, L0) := hD
      have hb30 : ∀ (v2 : Int32) (M : mwM) (L : mwL) (H : Heap) (locs : List Loc) (ls : Array Slot), fX10_endCycle_b30 fu a1 (fX10_endCycle_h2 fu a1 f2) v2 M L = some (r0, M0, L0) → mw_W G ad NF TF FF M L H locs → lv_has ls 3 [(0, .ref (ad 139)), (1, .int a1), (2, .int v2)] → W p l e ({ frames := 2, cells := 0, slots := 0, locals := 44 }) s m [.ref (ad 139), .int a1].toArray below meth c H locs 0 0 (MQ below (mw_Qi G ad NF TF FF (mw_eqI r0 M0 L0)) [.ref (ad 139), .int a1].toArray s 0 0 (mw_fr G)) (F0 m 30 ls []) := by
        intro v2 M L H locs ls hD hw hl
        unfold fX10_endCycle_b30 at hD
        obtain ⟨x7, ex7, hD⟩ := g_let hD
        refine lv_iinc (v := x7) (lv' := [(2, .int x7), (0, .ref (ad 139)), (1, .int a1)]) C.1.1 C.1.2.1 dX10_endCycle_30 hl (k := 2) rfl (by rw [ex7]; rfl) (by decide) rfl (fun ls hl => ?_)
        refine lv_goto (tgt := 2) C.1.1 C.1.2.1 dX10_endCycle_33 (by decide) ?_
        exact ih2 x7 M L _ _ ls hD hw (lv_sub hl [1, 2, 0] rfl)
      unfold fX10_endCycle_i2 at hD
      refine lv_iload_n C.1.1 C.1.2.1 dX10_endCycle_2 rfl (lv_at hl 2 rfl) ?_
      refine lv_aload_n C.1.1 C.1.2.1 dX10_endCycle_3 rfl (lv_at hl 0 rfl) ?_
      refine mr_getI C hw kc_10 2 (by decide) tf_139 wd_331 dX10_endCycle_4 (by decide) rfl ?_
      refine lv_icmp_ge (tgt := 36) C.1.1 C.1.2.1 dX10_endCycle_7 (by decide) (fun c1 => ?_) (fun c1 => ?_)
      · replace hD := g_pos c1 hD
        refine lv_iconst (v := 0) C.1.1 C.1.2.1 dX10_endCycle_36 (by decide) ?_
        refine lv_istore_n (lv' := [(2, .int 0), (0, .ref (ad 139)), (1, .int a1)]) C.1.1 C.1.2.1 dX10_endCycle_37 rfl hl (by decide) rfl (fun ls hl => ?_)
        exact hh38 fu 0 M L _ _ ls hD hw (lv_sub hl [1, 0] rfl)
      · replace hD := g_neg c1 hD
        refine lv_aload_n C.1.1 C.1.2.1 dX10_endCycle_10 rfl (lv_at hl 0 rfl) ?_
        refine mr_getR C hw kc_10 0 (by decide) tf_139 ff_139_0 wd_328 dX10_endCycle_11 (by decide) rfl ?_
        refine lv_iconst (v := 5) C.1.1 C.1.2.1 dX10_endCycle_14 (by decide) ?_
        refine mr_aald C hw (by decide) tf_140 (by decide) (by decide) rfl rfl (show vp_in 5 12 from by unfold vp_in; decide) ff_140_5 dX10_endCycle_15 ?_
        refine lv_iload_n C.1.1 C.1.2.1 dX10_endCycle_16 rfl (lv_at hl 2 rfl) ?_
        obtain ⟨q3, hD⟩ := g_ck hD
        refine mr_iald C hw (by decide) tf_146 q3 dX10_endCycle_17 ?_
        refine lv_bipush (v := 66) C.1.1 C.1.2.1 dX10_endCycle_18 (by decide) ?_
        refine lv_iand C.1.1 C.1.2.1 dX10_endCycle_20 ?_
        refine lv_if_ne (tgt := 30) C.1.1 C.1.2.1 dX10_endCycle_21 (by decide) (fun c4 => ?_) (fun c4 => ?_)
        · replace hD := g_neg c4 hD
          exact hb30 v2 M L _ _ ls hD hw (lv_sub hl [0, 1, 2] rfl)
        · replace hD := g_pos c4 hD
          refine lv_aload_n C.1.1 C.1.2.1 dX10_endCycle_24 rfl (lv_at hl 0 rfl) ?_
          refine lv_iload_n C.1.1 C.1.2.1 dX10_endCycle_25 rfl (lv_at hl 2 rfl) ?_
          refine lv_iload_n C.1.1 C.1.2.1 dX10_endCycle_26 rfl (lv_at hl 1 rfl) ?_
          obtain ⟨M5, L6, h1, hD⟩ := g_b2 hD
          refine md_cvV (As := [.int v2, .int a1]) (rest := []) C hw (tX10_endGoodCycle l G ad fu v2 a1 M L h1) kc_10 (by decide) tf_139 wd_1913 cwX10_endGoodCycle ⟨Nat.le_of_ble_eq_true rfl, Nat.le_of_ble_eq_true rfl⟩ rfl hl.1 (Nat.le_of_ble_eq_true rfl) dX10_endCycle_27 rfl rfl ⟨Nat.zero_le _, Nat.zero_le _⟩ rfl (fun H locs hw => ?_)
          exact hb30 v2 M5 L6 _ _ ls hD hw (lv_sub hl [0, 1, 2] rfl)
  unfold DX10_endCycle at hD
  refine lv_iconst (v := 0) C.1.1 C.1.2.1 dX10_endCycle_0 (by decide) ?_
  refine lv_istore_n (lv' := [(2, .int 0), (0, .ref (ad 139)), (1, .int a1)]) C.1.1 C.1.2.1 dX10_endCycle_1 rfl hl (by decide) rfl (fun ls hl => ?_)
  exact hh2 fu 0 M L _ _ ls hD hw (lv_sub hl [1, 2, 0] rfl)

theorem dX10_tell_0 : decode cX10_tell 0 = .ok (.iload_n 2, 1) := by decide +kernel
theorem dX10_tell_1 : decode cX10_tell 1 = .ok (.tableswitch 94 0 3 #[31, 40, 50, 72], 31) := by decide +kernel
theorem dX10_tell_32 : decode cX10_tell 32 = .ok (.aload_n 0, 1) := by decide +kernel
theorem dX10_tell_33 : decode cX10_tell 33 = .ok (.getfield 11, 3) := by decide +kernel
theorem dX10_tell_36 : decode cX10_tell 36 = .ok (.iconst 5, 1) := by decide +kernel
theorem dX10_tell_37 : decode cX10_tell 37 = .ok (.aaload, 1) := by decide +kernel
theorem dX10_tell_38 : decode cX10_tell 38 = .ok (.iload_n 1, 1) := by decide +kernel
theorem dX10_tell_39 : decode cX10_tell 39 = .ok (.iaload, 1) := by decide +kernel
theorem dX10_tell_40 : decode cX10_tell 40 = .ok (.ireturn, 1) := by decide +kernel
theorem dX10_tell_41 : decode cX10_tell 41 = .ok (.aload_n 0, 1) := by decide +kernel
theorem dX10_tell_42 : decode cX10_tell 42 = .ok (.getfield 11, 3) := by decide +kernel
theorem dX10_tell_45 : decode cX10_tell 45 = .ok (.bipush 8, 2) := by decide +kernel
theorem dX10_tell_47 : decode cX10_tell 47 = .ok (.aaload, 1) := by decide +kernel
theorem dX10_tell_48 : decode cX10_tell 48 = .ok (.iload_n 1, 1) := by decide +kernel
theorem dX10_tell_49 : decode cX10_tell 49 = .ok (.iaload, 1) := by decide +kernel
theorem dX10_tell_50 : decode cX10_tell 50 = .ok (.ireturn, 1) := by decide +kernel
theorem dX10_tell_51 : decode cX10_tell 51 = .ok (.aload_n 0, 1) := by decide +kernel
theorem dX10_tell_52 : decode cX10_tell 52 = .ok (.iload_n 1, 1) := by decide +kernel
theorem dX10_tell_53 : decode cX10_tell 53 = .ok (.invokevirtual 56, 3) := by decide +kernel
theorem dX10_tell_56 : decode cX10_tell 56 = .ok (.ifCond .ge 7, 3) := by decide +kernel
theorem dX10_tell_59 : decode cX10_tell 59 = .ok (.iconst (-1), 1) := by decide +kernel
theorem dX10_tell_60 : decode cX10_tell 60 = .ok (.goto 12, 3) := by decide +kernel
theorem dX10_tell_63 : decode cX10_tell 63 = .ok (.aload_n 0, 1) := by decide +kernel
theorem dX10_tell_64 : decode cX10_tell 64 = .ok (.getfield 11, 3) := by decide +kernel
theorem dX10_tell_67 : decode cX10_tell 67 = .ok (.bipush 10, 2) := by decide +kernel
theorem dX10_tell_69 : decode cX10_tell 69 = .ok (.aaload, 1) := by decide +kernel
theorem dX10_tell_70 : decode cX10_tell 70 = .ok (.iload_n 1, 1) := by decide +kernel
theorem dX10_tell_71 : decode cX10_tell 71 = .ok (.iaload, 1) := by decide +kernel
theorem dX10_tell_72 : decode cX10_tell 72 = .ok (.ireturn, 1) := by decide +kernel
theorem dX10_tell_73 : decode cX10_tell 73 = .ok (.aload_n 0, 1) := by decide +kernel
theorem dX10_tell_74 : decode cX10_tell 74 = .ok (.iload_n 1, 1) := by decide +kernel
theorem dX10_tell_75 : decode cX10_tell 75 = .ok (.invokevirtual 56, 3) := by decide +kernel
theorem dX10_tell_78 : decode cX10_tell 78 = .ok (.ifCond .ge 7, 3) := by decide +kernel
theorem dX10_tell_81 : decode cX10_tell 81 = .ok (.iconst (-1), 1) := by decide +kernel
theorem dX10_tell_82 : decode cX10_tell 82 = .ok (.goto 12, 3) := by decide +kernel
theorem dX10_tell_85 : decode cX10_tell 85 = .ok (.aload_n 0, 1) := by decide +kernel
theorem dX10_tell_86 : decode cX10_tell 86 = .ok (.getfield 11, 3) := by decide +kernel
theorem dX10_tell_89 : decode cX10_tell 89 = .ok (.bipush 11, 2) := by decide +kernel
theorem dX10_tell_91 : decode cX10_tell 91 = .ok (.aaload, 1) := by decide +kernel
theorem dX10_tell_92 : decode cX10_tell 92 = .ok (.iload_n 1, 1) := by decide +kernel
theorem dX10_tell_93 : decode cX10_tell 93 = .ok (.iaload, 1) := by decide +kernel
theorem dX10_tell_94 : decode cX10_tell 94 = .ok (.ireturn, 1) := by decide +kernel
theorem dX10_tell_95 : decode cX10_tell 95 = .ok (.iload_n 1, 1) := by decide +kernel
theorem dX10_tell_96 : decode cX10_tell 96 = .ok (.aload_n 0, 1) := by decide +kernel
theorem dX10_tell_97 : decode cX10_tell 97 = .ok (.getfield 24, 3) := by decide +kernel
theorem dX10_tell_100 : decode cX10_tell 100 = .ok (.if_icmp .ge 14, 3) := by decide +kernel
theorem dX10_tell_103 : decode cX10_tell 103 = .ok (.aload_n 0, 1) := by decide +kernel
theorem dX10_tell_104 : decode cX10_tell 104 = .ok (.getfield 16, 3) := by decide +kernel
theorem dX10_tell_107 : decode cX10_tell 107 = .ok (.iload_n 1, 1) := by decide +kernel
theorem dX10_tell_108 : decode cX10_tell 108 = .ok (.iaload, 1) := by decide +kernel
theorem dX10_tell_109 : decode cX10_tell 109 = .ok (.iconst 1, 1) := by decide +kernel
theorem dX10_tell_110 : decode cX10_tell 110 = .ok (.iadd, 1) := by decide +kernel
theorem dX10_tell_111 : decode cX10_tell 111 = .ok (.goto 4, 3) := by decide +kernel
theorem dX10_tell_114 : decode cX10_tell 114 = .ok (.iconst (-1), 1) := by decide +kernel
theorem dX10_tell_115 : decode cX10_tell 115 = .ok (.ireturn, 1) := by decide +kernel
theorem cwX10_tell : mw_cwV yX10_tell cX10_tell 3 ((some .int)) 2 := ⟨⟨wd_9, wd_1901, by decide +kernel⟩, wd_1899, wd_1900⟩
set_option maxHeartbeats 4000000 in
set_option maxRecDepth 100000 in
theorem tX10_tell (l : Launch) (G : mwG) (ad : Nat → Nat) (fu : Nat) (a1 : Int32) (a2 : Int32) (M : mwM) (L : mwL) {r0 : Int32} {M0 : mwM} {L0 : mwL} (hD : DX10_tell fu a1 a2 M L = some (r0, M0, L0)) : Met l yX10_tell (Cond.code yX10_tell cX10_tell 3 ((some .int)) :: GT) ({ frames := 1, cells := 0, slots := 0, locals := 22 }) (mw_Pre G ad NF TF FF M L [.ref (ad 139), .int a1, .int a2]) (mw_Qi G ad NF TF FF (mw_eqI r0 M0 L0)) 0 0 (mw_fr G) := by
  refine mw_enter (by decide) (Nat.le_of_ble_eq_true rfl) ?_
  intro p e s m below meth c ls C hr hlocks hnm hw hl
  have hl : lv_has ls 3 [(0, .ref (ad 139)), (1, .int a1), (2, .int a2)] := hl
  have hb72 : ∀ (s0 : Int32) (M : mwM) (L : mwL) (H : Heap) (locs : List Loc) (ls : Array Slot), fX10_tell_b72 fu a1 a2 s0 M L = some (r0, M0, L0) → mw_W G ad NF TF FF M L H locs → lv_has ls 3 [] → W p l e ({ frames := 1, cells := 0, slots := 0, locals := 22 }) s m [.ref (ad 139), .int a1, .int a2].toArray below meth c H locs 0 0 (MQ below (mw_Qi G ad NF TF FF (mw_eqI r0 M0 L0)) [.ref (ad 139), .int a1, .int a2].toArray s 0 0 (mw_fr G)) (F0 m 72 ls [.int s0]) := by
    intro s0 M L H locs ls hD hw hl
    unfold fX10_tell_b72 at hD
    exact mr_iret C hr hlocks hw rfl (Option.some.inj hD) dX10_tell_72
  have hb94 : ∀ (s0 : Int32) (M : mwM) (L : mwL) (H : Heap) (locs : List Loc) (ls : Array Slot), fX10_tell_b94 fu a1 a2 s0 M L = some (r0, M0, L0) → mw_W G ad NF TF FF M L H locs → lv_has ls 3 [] → W p l e ({ frames := 1, cells := 0, slots := 0, locals := 22 }) s m [.ref (ad 139), .int a1, .int a2].toArray below meth c H locs 0 0 (MQ below (mw_Qi G ad NF TF FF (mw_eqI r0 M0 L0)) [.ref (ad 139), .int a1, .int a2].toArray s 0 0 (mw_fr G)) (F0 m 94 ls [.int s0]) := by
    intro s0 M L H locs ls hD hw hl
    unfold fX10_tell_b94 at hD
    exact mr_iret C hr hlocks hw rfl (Option.some.inj hD) dX10_tell_94
  have hb115 : ∀ (s0 : Int32) (M : mwM) (L : mwL) (H : Heap) (locs : List Loc) (ls : Array Slot), fX10_tell_b115 fu a1 a2 s0 M L = some (r0, M0, L0) → mw_W G ad NF TF FF M L H locs → lv_has ls 3 [] → W p l e ({ frames := 1, cells := 0, slots := 0, locals := 22 }) s m [.ref (ad 139), .int a1, .int a2].toArray below meth c H locs 0 0 (MQ below (mw_Qi G ad NF TF FF (mw_eqI r0 M0 L0)) [.ref (ad 139), .int a1, .int a2].toArray s 0 0 (mw_fr G)) (F0 m 115 ls [.int s0]) := by
    intro s0 M L H locs ls hD hw hl
    unfold fX10_tell_b115 at hD
    exact mr_iret C hr hlocks hw rfl (Option.some.inj hD) dX10_tell_115
  unfold DX10_tell at hD
  refine lv_iload_n C.1.1 C.1.2.1 dX10_tell_0 rfl (lv_at hl 2 rfl) ?_
  obtain ⟨x1, ex1, hD⟩ := g_let hD
  refine W.eq (g2 := F0 m 1 ls (.int x1 :: [])) (by rw [ex1]) ?_
  by_cases c2 : x1 = 0
  · replace hD := g_pos c2 hD
    refine lv_tableIn (tgt := 32) C.1.1 C.1.2.1 dX10_tell_1 (by rw [c2]; decide) (by rw [c2]; decide) (off := 31) (by rw [c2]; decide) (by decide) ?_
    refine lv_aload_n C.1.1 C.1.2.1 dX10_tell_32 rfl (lv_at hl 0 rfl) ?_
    refine mr_getR C hw kc_10 0 (by decide) tf_139 ff_139_0 wd_328 dX10_tell_33 (by decide) rfl ?_
    refine lv_iconst (v := 5) C.1.1 C.1.2.1 dX10_tell_36 (by decide) ?_
    refine mr_aald C hw (by decide) tf_140 (by decide) (by decide) rfl rfl (show vp_in 5 12 from by unfold vp_in; decide) ff_140_5 dX10_tell_37 ?_
    refine lv_iload_n C.1.1 C.1.2.1 dX10_tell_38 rfl (lv_at hl 1 rfl) ?_
    obtain ⟨q4, hD⟩ := g_ck hD
    refine mr_iald C hw (by decide) tf_146 q4 dX10_tell_39 ?_
    exact mr_iret C hr hlocks hw rfl (Option.some.inj hD) dX10_tell_40
  replace hD := g_neg c2 hD
  by_cases c5 : x1 = 1
  · replace hD := g_pos c5 hD
    refine lv_tableIn (tgt := 41) C.1.1 C.1.2.1 dX10_tell_1 (by rw [c5]; decide) (by rw [c5]; decide) (off := 40) (by rw [c5]; decide) (by decide) ?_
    refine lv_aload_n C.1.1 C.1.2.1 dX10_tell_41 rfl (lv_at hl 0 rfl) ?_
    refine mr_getR C hw kc_10 0 (by decide) tf_139 ff_139_0 wd_328 dX10_tell_42 (by decide) rfl ?_
    refine lv_bipush (v := 8) C.1.1 C.1.2.1 dX10_tell_45 (by decide) ?_
    refine mr_aald C hw (by decide) tf_140 (by decide) (by decide) rfl rfl (show vp_in 8 12 from by unfold vp_in; decide) ff_140_8 dX10_tell_47 ?_
    refine lv_iload_n C.1.1 C.1.2.1 dX10_tell_48 rfl (lv_at hl 1 rfl) ?_
    obtain ⟨q7, hD⟩ := g_ck hD
    refine mr_iald C hw (by decide) tf_149 q7 dX10_tell_49 ?_
    exact mr_iret C hr hlocks hw rfl (Option.some.inj hD) dX10_tell_50
  replace hD := g_neg c5 hD
  by_cases c8 : x1 = 2
  · replace hD := g_pos c8 hD
    refine lv_tableIn (tgt := 51) C.1.1 C.1.2.1 dX10_tell_1 (by rw [c8]; decide) (by rw [c8]; decide) (off := 50) (by rw [c8]; decide) (by decide) ?_
    refine lv_aload_n C.1.1 C.1.2.1 dX10_tell_51 rfl (lv_at hl 0 rfl) ?_
    refine lv_iload_n C.1.1 C.1.2.1 dX10_tell_52 rfl (lv_at hl 1 rfl) ?_
    obtain ⟨r11, M9, L10, h1, hD⟩ := g_b3 hD
    refine md_cvI (As := [.int a1]) (rest := []) C hw (tX10_entryOf l G ad fu a1 M L h1) kc_10 (by decide) tf_139 wd_1739 cwX10_entryOf ⟨Nat.le_of_ble_eq_true rfl, Nat.le_of_ble_eq_true rfl⟩ rfl hl.1 (Nat.le_of_ble_eq_true rfl) dX10_tell_53 rfl rfl ⟨Nat.zero_le _, Nat.zero_le _⟩ rfl (fun H locs hw => ?_)
    refine lv_if_ge (tgt := 63) C.1.1 C.1.2.1 dX10_tell_56 (by decide) (fun c12 => ?_) (fun c12 => ?_)
    · replace hD := g_pos c12 hD
      refine lv_aload_n C.1.1 C.1.2.1 dX10_tell_63 rfl (lv_at hl 0 rfl) ?_
      refine mr_getR C hw kc_10 0 (by decide) tf_139 ff_139_0 wd_328 dX10_tell_64 (by decide) rfl ?_
      refine lv_bipush (v := 10) C.1.1 C.1.2.1 dX10_tell_67 (by decide) ?_
      refine mr_aald C hw (by decide) tf_140 (by decide) (by decide) rfl rfl (show vp_in 10 12 from by unfold vp_in; decide) ff_140_10 dX10_tell_69 ?_
      refine lv_iload_n C.1.1 C.1.2.1 dX10_tell_70 rfl (lv_at hl 1 rfl) ?_
      obtain ⟨q14, hD⟩ := g_ck hD
      refine mr_iald C hw (by decide) tf_151 q14 dX10_tell_71 ?_
      exact hb72 (M9 151 a1.toNatClampNeg) M9 L10 _ _ ls hD hw (lv_sub hl [] rfl)
    · replace hD := g_neg c12 hD
      refine lv_iconst (v := (-1)) C.1.1 C.1.2.1 dX10_tell_59 (by decide) ?_
      refine lv_goto (tgt := 72) C.1.1 C.1.2.1 dX10_tell_60 (by decide) ?_
      exact hb72 ((-1)) M9 L10 _ _ ls hD hw (lv_sub hl [] rfl)
  replace hD := g_neg c8 hD
  by_cases c15 : x1 = 3
  · replace hD := g_pos c15 hD
    refine lv_tableIn (tgt := 73) C.1.1 C.1.2.1 dX10_tell_1 (by rw [c15]; decide) (by rw [c15]; decide) (off := 72) (by rw [c15]; decide) (by decide) ?_
    refine lv_aload_n C.1.1 C.1.2.1 dX10_tell_73 rfl (lv_at hl 0 rfl) ?_
    refine lv_iload_n C.1.1 C.1.2.1 dX10_tell_74 rfl (lv_at hl 1 rfl) ?_
    obtain ⟨r18, M16, L17, h1, hD⟩ := g_b3 hD
    refine md_cvI (As := [.int a1]) (rest := []) C hw (tX10_entryOf l G ad fu a1 M L h1) kc_10 (by decide) tf_139 wd_1739 cwX10_entryOf ⟨Nat.le_of_ble_eq_true rfl, Nat.le_of_ble_eq_true rfl⟩ rfl hl.1 (Nat.le_of_ble_eq_true rfl) dX10_tell_75 rfl rfl ⟨Nat.zero_le _, Nat.zero_le _⟩ rfl (fun H locs hw => ?_)
    refine lv_if_ge (tgt := 85) C.1.1 C.1.2.1 dX10_tell_78 (by decide) (fun c19 => ?_) (fun c19 => ?_)
    · replace hD := g_pos c19 hD
      refine lv_aload_n C.1.1 C.1.2.1 dX10_tell_85 rfl (lv_at hl 0 rfl) ?_
      refine mr_getR C hw kc_10 0 (by decide) tf_139 ff_139_0 wd_328 dX10_tell_86 (by decide) rfl ?_
      refine lv_bipush (v := 11) C.1.1 C.1.2.1 dX10_tell_89 (by decide) ?_
      refine mr_aald C hw (by decide) tf_140 (by decide) (by decide) rfl rfl (show vp_in 11 12 from by unfold vp_in; decide) ff_140_11 dX10_tell_91 ?_
      refine lv_iload_n C.1.1 C.1.2.1 dX10_tell_92 rfl (lv_at hl 1 rfl) ?_
      obtain ⟨q21, hD⟩ := g_ck hD
      refine mr_iald C hw (by decide) tf_152 q21 dX10_tell_93 ?_
      exact hb94 (M16 152 a1.toNatClampNeg) M16 L17 _ _ ls hD hw (lv_sub hl [] rfl)
    · replace hD := g_neg c19 hD
      refine lv_iconst (v := (-1)) C.1.1 C.1.2.1 dX10_tell_81 (by decide) ?_
      refine lv_goto (tgt := 94) C.1.1 C.1.2.1 dX10_tell_82 (by decide) ?_
      exact hb94 ((-1)) M16 L17 _ _ ls hD hw (lv_sub hl [] rfl)
  replace hD := g_neg c15 hD
  have nc2 : ¬ x1.toInt = 0 := fun q => c2 (Int32.toInt_inj.mp (q.trans (by decide)))
  have nc5 : ¬ x1.toInt = 1 := fun q => c5 (Int32.toInt_inj.mp (q.trans (by decide)))
  have nc8 : ¬ x1.toInt = 2 := fun q => c8 (Int32.toInt_inj.mp (q.trans (by decide)))
  have nc15 : ¬ x1.toInt = 3 := fun q => c15 (Int32.toInt_inj.mp (q.trans (by decide)))
  refine lv_tableOut (tgt := 95) C.1.1 C.1.2.1 dX10_tell_1 (by omega) (by decide) ?_
  refine lv_iload_n C.1.1 C.1.2.1 dX10_tell_95 rfl (lv_at hl 1 rfl) ?_
  refine lv_aload_n C.1.1 C.1.2.1 dX10_tell_96 rfl (lv_at hl 0 rfl) ?_
  refine mr_getI C hw kc_10 3 (by decide) tf_139 wd_334 dX10_tell_97 (by decide) rfl ?_
  refine lv_icmp_ge (tgt := 114) C.1.1 C.1.2.1 dX10_tell_100 (by decide) (fun c22 => ?_) (fun c22 => ?_)
  · replace hD := g_pos c22 hD
    refine lv_iconst (v := (-1)) C.1.1 C.1.2.1 dX10_tell_114 (by decide) ?_
    exact hb115 ((-1)) M L _ _ ls hD hw (lv_sub hl [] rfl)
  · replace hD := g_neg c22 hD
    refine lv_aload_n C.1.1 C.1.2.1 dX10_tell_103 rfl (lv_at hl 0 rfl) ?_
    refine mr_getR C hw kc_10 1 (by decide) tf_139 ff_139_1 wd_329 dX10_tell_104 (by decide) rfl ?_
    refine lv_iload_n C.1.1 C.1.2.1 dX10_tell_107 rfl (lv_at hl 1 rfl) ?_
    obtain ⟨q23, hD⟩ := g_ck hD
    refine mr_iald C hw (by decide) tf_153 q23 dX10_tell_108 ?_
    refine lv_iconst (v := 1) C.1.1 C.1.2.1 dX10_tell_109 (by decide) ?_
    refine lv_iadd C.1.1 C.1.2.1 dX10_tell_110 ?_
    refine lv_goto (tgt := 115) C.1.1 C.1.2.1 dX10_tell_111 (by decide) ?_
    exact hb115 ((M 153 a1.toNatClampNeg) + 1) M L _ _ ls hD hw (lv_sub hl [] rfl)

theorem dX10_statusOf_0 : decode cX10_statusOf 0 = .ok (.aload_n 0, 1) := by decide +kernel
theorem dX10_statusOf_1 : decode cX10_statusOf 1 = .ok (.getfield 11, 3) := by decide +kernel
theorem dX10_statusOf_4 : decode cX10_statusOf 4 = .ok (.iconst 5, 1) := by decide +kernel
theorem dX10_statusOf_5 : decode cX10_statusOf 5 = .ok (.aaload, 1) := by decide +kernel
theorem dX10_statusOf_6 : decode cX10_statusOf 6 = .ok (.iload_n 1, 1) := by decide +kernel
theorem dX10_statusOf_7 : decode cX10_statusOf 7 = .ok (.iaload, 1) := by decide +kernel
theorem dX10_statusOf_8 : decode cX10_statusOf 8 = .ok (.ireturn, 1) := by decide +kernel
theorem cwX10_statusOf : mw_cwV yX10_statusOf cX10_statusOf 2 ((some .int)) 1 := ⟨⟨wd_9, wd_1581, by decide +kernel⟩, wd_1579, wd_1580⟩
set_option maxHeartbeats 4000000 in
set_option maxRecDepth 100000 in
theorem tX10_statusOf (l : Launch) (G : mwG) (ad : Nat → Nat) (fu : Nat) (a1 : Int32) (M : mwM) (L : mwL) {r0 : Int32} {M0 : mwM} {L0 : mwL} (hD : DX10_statusOf fu a1 M L = some (r0, M0, L0)) : Met l yX10_statusOf (Cond.code yX10_statusOf cX10_statusOf 2 ((some .int)) :: GT) ({ frames := 0, cells := 0, slots := 0, locals := 0 }) (mw_Pre G ad NF TF FF M L [.ref (ad 139), .int a1]) (mw_Qi G ad NF TF FF (mw_eqI r0 M0 L0)) 0 0 (mw_fr G) := by
  refine mw_enter (by decide) (Nat.le_of_ble_eq_true rfl) ?_
  intro p e s m below meth c ls C hr hlocks hnm hw hl
  have hl : lv_has ls 2 [(0, .ref (ad 139)), (1, .int a1)] := hl
  unfold DX10_statusOf at hD
  refine lv_aload_n C.1.1 C.1.2.1 dX10_statusOf_0 rfl (lv_at hl 0 rfl) ?_
  refine mr_getR C hw kc_10 0 (by decide) tf_139 ff_139_0 wd_328 dX10_statusOf_1 (by decide) rfl ?_
  refine lv_iconst (v := 5) C.1.1 C.1.2.1 dX10_statusOf_4 (by decide) ?_
  refine mr_aald C hw (by decide) tf_140 (by decide) (by decide) rfl rfl (show vp_in 5 12 from by unfold vp_in; decide) ff_140_5 dX10_statusOf_5 ?_
  refine lv_iload_n C.1.1 C.1.2.1 dX10_statusOf_6 rfl (lv_at hl 1 rfl) ?_
  obtain ⟨q2, hD⟩ := g_ck hD
  refine mr_iald C hw (by decide) tf_146 q2 dX10_statusOf_7 ?_
  exact mr_iret C hr hlocks hw rfl (Option.some.inj hD) dX10_statusOf_8
