theorem dX8_readTask_0 : decode cX8_readTask 0 = .ok (.aload_n 0, 1) := by decide +kernel
theorem dX8_readTask_1 : decode cX8_readTask 1 = .ok (.iconst 0, 1) := by decide +kernel
theorem dX8_readTask_2 : decode cX8_readTask 2 = .ok (.aload_n 0, 1) := by decide +kernel
theorem dX8_readTask_3 : decode cX8_readTask 3 = .ok (.getfield 18, 3) := by decide +kernel
theorem dX8_readTask_6 : decode cX8_readTask 6 = .ok (.getfield 142, 3) := by decide +kernel
theorem dX8_readTask_9 : decode cX8_readTask 9 = .ok (.getfield 146, 3) := by decide +kernel
theorem dX8_readTask_12 : decode cX8_readTask 12 = .ok (.bipush 12, 2) := by decide +kernel
theorem dX8_readTask_14 : decode cX8_readTask 14 = .ok (.invokevirtual 132, 3) := by decide +kernel
theorem dX8_readTask_17 : decode cX8_readTask 17 = .ok (.aload_n 0, 1) := by decide +kernel
theorem dX8_readTask_18 : decode cX8_readTask 18 = .ok (.iconst 0, 1) := by decide +kernel
theorem dX8_readTask_19 : decode cX8_readTask 19 = .ok (.iconst 0, 1) := by decide +kernel
theorem dX8_readTask_20 : decode cX8_readTask 20 = .ok (.invokevirtual 151, 3) := by decide +kernel
theorem dX8_readTask_23 : decode cX8_readTask 23 = .ok (.istore_n 1, 1) := by decide +kernel
theorem dX8_readTask_24 : decode cX8_readTask 24 = .ok (.aload_n 0, 1) := by decide +kernel
theorem dX8_readTask_25 : decode cX8_readTask 25 = .ok (.iconst 0, 1) := by decide +kernel
theorem dX8_readTask_26 : decode cX8_readTask 26 = .ok (.sipush 255, 3) := by decide +kernel
theorem dX8_readTask_29 : decode cX8_readTask 29 = .ok (.invokevirtual 155, 3) := by decide +kernel
theorem dX8_readTask_32 : decode cX8_readTask 32 = .ok (.istore_n 2, 1) := by decide +kernel
theorem dX8_readTask_33 : decode cX8_readTask 33 = .ok (.aload_n 0, 1) := by decide +kernel
theorem dX8_readTask_34 : decode cX8_readTask 34 = .ok (.sipush 500, 3) := by decide +kernel
theorem dX8_readTask_37 : decode cX8_readTask 37 = .ok (.sipush 20000, 3) := by decide +kernel
theorem dX8_readTask_40 : decode cX8_readTask 40 = .ok (.invokevirtual 155, 3) := by decide +kernel
theorem dX8_readTask_43 : decode cX8_readTask 43 = .ok (.istore_n 3, 1) := by decide +kernel
theorem dX8_readTask_44 : decode cX8_readTask 44 = .ok (.aload_n 0, 1) := by decide +kernel
theorem dX8_readTask_45 : decode cX8_readTask 45 = .ok (.iconst 0, 1) := by decide +kernel
theorem dX8_readTask_46 : decode cX8_readTask 46 = .ok (.iload_n 3, 1) := by decide +kernel
theorem dX8_readTask_47 : decode cX8_readTask 47 = .ok (.iconst 1, 1) := by decide +kernel
theorem dX8_readTask_48 : decode cX8_readTask 48 = .ok (.isub, 1) := by decide +kernel
theorem dX8_readTask_49 : decode cX8_readTask 49 = .ok (.invokevirtual 155, 3) := by decide +kernel
theorem dX8_readTask_52 : decode cX8_readTask 52 = .ok (.istore 4, 2) := by decide +kernel
theorem dX8_readTask_54 : decode cX8_readTask 54 = .ok (.aload_n 0, 1) := by decide +kernel
theorem dX8_readTask_55 : decode cX8_readTask 55 = .ok (.iconst 1, 1) := by decide +kernel
theorem dX8_readTask_56 : decode cX8_readTask 56 = .ok (.sipush 1000, 3) := by decide +kernel
theorem dX8_readTask_59 : decode cX8_readTask 59 = .ok (.invokevirtual 155, 3) := by decide +kernel
theorem dX8_readTask_62 : decode cX8_readTask 62 = .ok (.istore 5, 2) := by decide +kernel
theorem dX8_readTask_64 : decode cX8_readTask 64 = .ok (.aload_n 0, 1) := by decide +kernel
theorem dX8_readTask_65 : decode cX8_readTask 65 = .ok (.invokevirtual 136, 3) := by decide +kernel
theorem dX8_readTask_68 : decode cX8_readTask 68 = .ok (.aload_n 0, 1) := by decide +kernel
theorem dX8_readTask_69 : decode cX8_readTask 69 = .ok (.getfield 34, 3) := by decide +kernel
theorem dX8_readTask_72 : decode cX8_readTask 72 = .ok (.ifCond .ne 36, 3) := by decide +kernel
theorem dX8_readTask_75 : decode cX8_readTask 75 = .ok (.aload_n 0, 1) := by decide +kernel
theorem dX8_readTask_76 : decode cX8_readTask 76 = .ok (.iconst 0, 1) := by decide +kernel
theorem dX8_readTask_77 : decode cX8_readTask 77 = .ok (.iconst 1, 1) := by decide +kernel
theorem dX8_readTask_78 : decode cX8_readTask 78 = .ok (.aload_n 0, 1) := by decide +kernel
theorem dX8_readTask_79 : decode cX8_readTask 79 = .ok (.getfield 18, 3) := by decide +kernel
theorem dX8_readTask_82 : decode cX8_readTask 82 = .ok (.getfield 142, 3) := by decide +kernel
theorem dX8_readTask_85 : decode cX8_readTask 85 = .ok (.getfield 146, 3) := by decide +kernel
theorem dX8_readTask_88 : decode cX8_readTask 88 = .ok (.invokevirtual 139, 3) := by decide +kernel
theorem dX8_readTask_91 : decode cX8_readTask 91 = .ok (.aload_n 0, 1) := by decide +kernel
theorem dX8_readTask_92 : decode cX8_readTask 92 = .ok (.getfield 18, 3) := by decide +kernel
theorem dX8_readTask_95 : decode cX8_readTask 95 = .ok (.getfield 142, 3) := by decide +kernel
theorem dX8_readTask_98 : decode cX8_readTask 98 = .ok (.iload_n 2, 1) := by decide +kernel
theorem dX8_readTask_99 : decode cX8_readTask 99 = .ok (.iload_n 1, 1) := by decide +kernel
theorem dX8_readTask_100 : decode cX8_readTask 100 = .ok (.iload_n 3, 1) := by decide +kernel
theorem dX8_readTask_101 : decode cX8_readTask 101 = .ok (.iload 4, 2) := by decide +kernel
theorem dX8_readTask_103 : decode cX8_readTask 103 = .ok (.iload 5, 2) := by decide +kernel
theorem dX8_readTask_105 : decode cX8_readTask 105 = .ok (.invokevirtual 158, 3) := by decide +kernel
theorem dX8_readTask_108 : decode cX8_readTask 108 = .ok (.return_, 1) := by decide +kernel
theorem cwX8_readTask : mw_cwV yX8_readTask cX8_readTask 6 (none) 0 := ⟨⟨wd_2, wd_941, by decide +kernel⟩, wd_940, sl_16⟩
set_option maxHeartbeats 4000000 in
set_option maxRecDepth 100000 in
theorem tX8_readTask (l : Launch) (G : mwG) (ad : Nat → Nat) (fu : Nat) (M : mwM) (L : mwL) {M0 : mwM} {L0 : mwL} (hD : DX8_readTask fu M L = some (M0, L0)) : Met l yX8_readTask (Cond.code yX8_readTask cX8_readTask 6 (none) :: GT) ({ frames := 7, cells := 0, slots := 0, locals := 152 }) (mw_Pre G ad NF TF FF M L [.ref (ad 1)]) (mw_Qv G ad NF TF FF (mw_eqV M0 L0)) 0 0 (mw_fr G) := by
  refine mw_enter (by decide) (Nat.le_of_ble_eq_true rfl) ?_
  intro p e s m below meth c ls C hr hlocks hnm hw hl
  have hl : lv_has ls 6 [(0, .ref (ad 1))] := hl
  have hb108 : ∀ (M : mwM) (L : mwL) (H : Heap) (locs : List Loc) (ls : Array Slot), fX8_readTask_b108 fu M L = some (M0, L0) → mw_W G ad NF TF FF M L H locs → lv_has ls 6 [] → W p l e ({ frames := 7, cells := 0, slots := 0, locals := 152 }) s m [.ref (ad 1)].toArray below meth c H locs 0 0 (MQ below (mw_Qv G ad NF TF FF (mw_eqV M0 L0)) [.ref (ad 1)].toArray s 0 0 (mw_fr G)) (F0 m 108 ls []) := by
    intro M L H locs ls hD hw hl
    unfold fX8_readTask_b108 at hD
    exact mr_vret C hr hlocks hw (Option.some.inj hD) dX8_readTask_108
  unfold DX8_readTask at hD
  refine lv_aload_n C.1.1 C.1.2.1 dX8_readTask_0 rfl (lv_at hl 0 rfl) ?_
  refine lv_iconst (v := 0) C.1.1 C.1.2.1 dX8_readTask_1 (by decide) ?_
  refine lv_aload_n C.1.1 C.1.2.1 dX8_readTask_2 rfl (lv_at hl 0 rfl) ?_
  refine mr_getR C hw kc_8 1 (by decide) tf_1 ff_1_1 wd_595 dX8_readTask_3 (by decide) rfl ?_
  refine mr_getNR C hw kc_1 1 (by decide) tf_3 ff_3_1 nd_516 dX8_readTask_6 (by decide) rfl ?_
  refine mr_getNI C hw kc_4 3 (by decide) tf_5 nd_70 dX8_readTask_9 (by decide) rfl ?_
  refine lv_bipush (v := 12) C.1.1 C.1.2.1 dX8_readTask_12 (by decide) ?_
  obtain ⟨M1, L2, h1, hD⟩ := g_b2 hD
  refine md_cvV (As := [.int 0, .int (M 5 3), .int 12]) (rest := []) C hw (tX8_newName l G ad fu 0 (M 5 3) 12 M L h1) kc_8 (by decide) tf_1 wd_899 cwX8_newName ⟨Nat.le_of_ble_eq_true rfl, Nat.le_of_ble_eq_true rfl⟩ rfl hl.1 (Nat.le_of_ble_eq_true rfl) dX8_readTask_14 rfl rfl ⟨Nat.zero_le _, Nat.zero_le _⟩ rfl (fun H locs hw => ?_)
  refine lv_aload_n C.1.1 C.1.2.1 dX8_readTask_17 rfl (lv_at hl 0 rfl) ?_
  refine lv_iconst (v := 0) C.1.1 C.1.2.1 dX8_readTask_18 (by decide) ?_
  refine lv_iconst (v := 0) C.1.1 C.1.2.1 dX8_readTask_19 (by decide) ?_
  obtain ⟨r5, M3, L4, h1, hD⟩ := g_b3 hD
  refine md_cvI (As := [.int 0, .int 0]) (rest := []) C hw (tX8_toldName l G ad fu 0 0 M1 L2 h1) kc_8 (by decide) tf_1 wd_942 cwX8_toldName ⟨Nat.le_of_ble_eq_true rfl, Nat.le_of_ble_eq_true rfl⟩ rfl hl.1 (Nat.le_of_ble_eq_true rfl) dX8_readTask_20 rfl rfl ⟨Nat.zero_le _, Nat.zero_le _⟩ rfl (fun H locs hw => ?_)
  refine lv_istore_n (lv' := [(1, .int r5), (0, .ref (ad 1))]) C.1.1 C.1.2.1 dX8_readTask_23 rfl hl (by decide) rfl (fun ls hl => ?_)
  refine lv_aload_n C.1.1 C.1.2.1 dX8_readTask_24 rfl (lv_at hl 1 rfl) ?_
  refine lv_iconst (v := 0) C.1.1 C.1.2.1 dX8_readTask_25 (by decide) ?_
  refine lv_sipush (v := 255) C.1.1 C.1.2.1 dX8_readTask_26 (by decide) ?_
  obtain ⟨r8, M6, L7, h1, hD⟩ := g_b3 hD
  refine md_cvI (As := [.int 0, .int 255]) (rest := []) C hw (tX8_number l G ad fu 0 255 M3 L4 h1) kc_8 (by decide) tf_1 wd_950 cwX8_number ⟨Nat.le_of_ble_eq_true rfl, Nat.le_of_ble_eq_true rfl⟩ rfl hl.1 (Nat.le_of_ble_eq_true rfl) dX8_readTask_29 rfl rfl ⟨Nat.zero_le _, Nat.zero_le _⟩ rfl (fun H locs hw => ?_)
  refine lv_istore_n (lv' := [(2, .int r8), (1, .int r5), (0, .ref (ad 1))]) C.1.1 C.1.2.1 dX8_readTask_32 rfl hl (by decide) rfl (fun ls hl => ?_)
  refine lv_aload_n C.1.1 C.1.2.1 dX8_readTask_33 rfl (lv_at hl 2 rfl) ?_
  refine lv_sipush (v := 500) C.1.1 C.1.2.1 dX8_readTask_34 (by decide) ?_
  refine lv_sipush (v := 20000) C.1.1 C.1.2.1 dX8_readTask_37 (by decide) ?_
  obtain ⟨r11, M9, L10, h1, hD⟩ := g_b3 hD
  refine md_cvI (As := [.int 500, .int 20000]) (rest := []) C hw (tX8_number l G ad fu 500 20000 M6 L7 h1) kc_8 (by decide) tf_1 wd_950 cwX8_number ⟨Nat.le_of_ble_eq_true rfl, Nat.le_of_ble_eq_true rfl⟩ rfl hl.1 (Nat.le_of_ble_eq_true rfl) dX8_readTask_40 rfl rfl ⟨Nat.zero_le _, Nat.zero_le _⟩ rfl (fun H locs hw => ?_)
  refine lv_istore_n (lv' := [(3, .int r11), (2, .int r8), (1, .int r5), (0, .ref (ad 1))]) C.1.1 C.1.2.1 dX8_readTask_43 rfl hl (by decide) rfl (fun ls hl => ?_)
  refine lv_aload_n C.1.1 C.1.2.1 dX8_readTask_44 rfl (lv_at hl 3 rfl) ?_
  refine lv_iconst (v := 0) C.1.1 C.1.2.1 dX8_readTask_45 (by decide) ?_
  refine lv_iload_n C.1.1 C.1.2.1 dX8_readTask_46 rfl (lv_at hl 0 rfl) ?_
  refine lv_iconst (v := 1) C.1.1 C.1.2.1 dX8_readTask_47 (by decide) ?_
  refine lv_isub C.1.1 C.1.2.1 dX8_readTask_48 ?_
  obtain ⟨r14, M12, L13, h1, hD⟩ := g_b3 hD
  refine md_cvI (As := [.int 0, .int (r11 - 1)]) (rest := []) C hw (tX8_number l G ad fu 0 (r11 - 1) M9 L10 h1) kc_8 (by decide) tf_1 wd_950 cwX8_number ⟨Nat.le_of_ble_eq_true rfl, Nat.le_of_ble_eq_true rfl⟩ rfl hl.1 (Nat.le_of_ble_eq_true rfl) dX8_readTask_49 rfl rfl ⟨Nat.zero_le _, Nat.zero_le _⟩ rfl (fun H locs hw => ?_)
  refine lv_istore (lv' := [(4, .int r14), (3, .int r11), (2, .int r8), (1, .int r5), (0, .ref (ad 1))]) C.1.1 C.1.2.1 dX8_readTask_52 hl (by decide) rfl (fun ls hl => ?_)
  refine lv_aload_n C.1.1 C.1.2.1 dX8_readTask_54 rfl (lv_at hl 4 rfl) ?_
  refine lv_iconst (v := 1) C.1.1 C.1.2.1 dX8_readTask_55 (by decide) ?_
  refine lv_sipush (v := 1000) C.1.1 C.1.2.1 dX8_readTask_56 (by decide) ?_
  obtain ⟨r17, M15, L16, h1, hD⟩ := g_b3 hD
  refine md_cvI (As := [.int 1, .int 1000]) (rest := []) C hw (tX8_number l G ad fu 1 1000 M12 L13 h1) kc_8 (by decide) tf_1 wd_950 cwX8_number ⟨Nat.le_of_ble_eq_true rfl, Nat.le_of_ble_eq_true rfl⟩ rfl hl.1 (Nat.le_of_ble_eq_true rfl) dX8_readTask_59 rfl rfl ⟨Nat.zero_le _, Nat.zero_le _⟩ rfl (fun H locs hw => ?_)
  refine lv_istore (lv' := [(5, .int r17), (4, .int r14), (3, .int r11), (2, .int r8), (1, .int r5), (0, .ref (ad 1))]) C.1.1 C.1.2.1 dX8_readTask_62 hl (by decide) rfl (fun ls hl => ?_)
  refine lv_aload_n C.1.1 C.1.2.1 dX8_readTask_64 rfl (lv_at hl 5 rfl) ?_
  obtain ⟨M18, L19, h1, hD⟩ := g_b2 hD
  refine md_cvV (As := []) (rest := []) C hw (tX8_endLine l G ad fu M15 L16 h1) kc_8 (by decide) tf_1 wd_930 cwX8_endLine ⟨Nat.le_of_ble_eq_true rfl, Nat.le_of_ble_eq_true rfl⟩ rfl hl.1 (Nat.le_of_ble_eq_true rfl) dX8_readTask_65 rfl rfl ⟨Nat.zero_le _, Nat.zero_le _⟩ rfl (fun H locs hw => ?_)
  refine lv_aload_n C.1.1 C.1.2.1 dX8_readTask_68 rfl (lv_at hl 5 rfl) ?_
  refine mr_getI C hw kc_8 12 (by decide) tf_1 wd_607 dX8_readTask_69 (by decide) rfl ?_
  refine lv_if_ne (tgt := 108) C.1.1 C.1.2.1 dX8_readTask_72 (by decide) (fun c20 => ?_) (fun c20 => ?_)
  · replace hD := g_neg c20 hD
    exact hb108 M18 L19 _ _ ls hD hw (lv_sub hl [] rfl)
  · replace hD := g_pos c20 hD
    refine lv_aload_n C.1.1 C.1.2.1 dX8_readTask_75 rfl (lv_at hl 5 rfl) ?_
    refine lv_iconst (v := 0) C.1.1 C.1.2.1 dX8_readTask_76 (by decide) ?_
    refine lv_iconst (v := 1) C.1.1 C.1.2.1 dX8_readTask_77 (by decide) ?_
    refine lv_aload_n C.1.1 C.1.2.1 dX8_readTask_78 rfl (lv_at hl 5 rfl) ?_
    refine mr_getR C hw kc_8 1 (by decide) tf_1 ff_1_1 wd_595 dX8_readTask_79 (by decide) rfl ?_
    refine mr_getNR C hw kc_1 1 (by decide) tf_3 ff_3_1 nd_516 dX8_readTask_82 (by decide) rfl ?_
    refine mr_getNI C hw kc_4 3 (by decide) tf_5 nd_70 dX8_readTask_85 (by decide) rfl ?_
    obtain ⟨M21, L22, h1, hD⟩ := g_b2 hD
    refine md_cvV (As := [.int 0, .int 1, .int (M18 5 3)]) (rest := []) C hw (tX8_keepName l G ad fu 0 1 (M18 5 3) M18 L19 h1) kc_8 (by decide) tf_1 wd_934 cwX8_keepName ⟨Nat.le_of_ble_eq_true rfl, Nat.le_of_ble_eq_true rfl⟩ rfl hl.1 (Nat.le_of_ble_eq_true rfl) dX8_readTask_88 rfl rfl ⟨Nat.zero_le _, Nat.zero_le _⟩ rfl (fun H locs hw => ?_)
    refine lv_aload_n C.1.1 C.1.2.1 dX8_readTask_91 rfl (lv_at hl 5 rfl) ?_
    refine mr_getR C hw kc_8 1 (by decide) tf_1 ff_1_1 wd_595 dX8_readTask_92 (by decide) rfl ?_
    refine mr_getNR C hw kc_1 1 (by decide) tf_3 ff_3_1 nd_516 dX8_readTask_95 (by decide) rfl ?_
    refine lv_iload_n C.1.1 C.1.2.1 dX8_readTask_98 rfl (lv_at hl 3 rfl) ?_
    refine lv_iload_n C.1.1 C.1.2.1 dX8_readTask_99 rfl (lv_at hl 4 rfl) ?_
    refine lv_iload_n C.1.1 C.1.2.1 dX8_readTask_100 rfl (lv_at hl 2 rfl) ?_
    refine lv_iload C.1.1 C.1.2.1 dX8_readTask_101 (lv_at hl 1 rfl) ?_
    refine lv_iload C.1.1 C.1.2.1 dX8_readTask_103 (lv_at hl 0 rfl) ?_
    obtain ⟨M23, L24, h1, hD⟩ := g_b2 hD
    refine md_cvV (As := [.int r8, .int r5, .int r11, .int r14, .int r17]) (rest := []) C hw (tX4_addTask l G ad fu r8 r5 r11 r14 r17 M21 L22 h1) kc_4 (by decide) tf_5 wd_966 cwX4_addTask ⟨Nat.le_of_ble_eq_true rfl, Nat.le_of_ble_eq_true rfl⟩ rfl hl.1 (Nat.le_of_ble_eq_true rfl) dX8_readTask_105 rfl rfl ⟨Nat.zero_le _, Nat.zero_le _⟩ rfl (fun H locs hw => ?_)
    exact hb108 M23 L24 _ _ ls hD hw (lv_sub hl [] rfl)

theorem dX8_readChart_0 : decode cX8_readChart 0 = .ok (.aload_n 0, 1) := by decide +kernel
theorem dX8_readChart_1 : decode cX8_readChart 1 = .ok (.iconst 0, 1) := by decide +kernel
theorem dX8_readChart_2 : decode cX8_readChart 2 = .ok (.aload_n 0, 1) := by decide +kernel
theorem dX8_readChart_3 : decode cX8_readChart 3 = .ok (.getfield 18, 3) := by decide +kernel
theorem dX8_readChart_6 : decode cX8_readChart 6 = .ok (.getfield 162, 3) := by decide +kernel
theorem dX8_readChart_9 : decode cX8_readChart 9 = .ok (.bipush 12, 2) := by decide +kernel
theorem dX8_readChart_11 : decode cX8_readChart 11 = .ok (.invokevirtual 132, 3) := by decide +kernel
theorem dX8_readChart_14 : decode cX8_readChart 14 = .ok (.aload_n 0, 1) := by decide +kernel
theorem dX8_readChart_15 : decode cX8_readChart 15 = .ok (.iconst 0, 1) := by decide +kernel
theorem dX8_readChart_16 : decode cX8_readChart 16 = .ok (.iconst 1, 1) := by decide +kernel
theorem dX8_readChart_17 : decode cX8_readChart 17 = .ok (.invokevirtual 151, 3) := by decide +kernel
theorem dX8_readChart_20 : decode cX8_readChart 20 = .ok (.istore_n 1, 1) := by decide +kernel
theorem dX8_readChart_21 : decode cX8_readChart 21 = .ok (.aload_n 0, 1) := by decide +kernel
theorem dX8_readChart_22 : decode cX8_readChart 22 = .ok (.getfield 50, 3) := by decide +kernel
theorem dX8_readChart_25 : decode cX8_readChart 25 = .ok (.istore_n 2, 1) := by decide +kernel
theorem dX8_readChart_26 : decode cX8_readChart 26 = .ok (.aload_n 0, 1) := by decide +kernel
theorem dX8_readChart_27 : decode cX8_readChart 27 = .ok (.iconst 0, 1) := by decide +kernel
theorem dX8_readChart_28 : decode cX8_readChart 28 = .ok (.bipush 50, 2) := by decide +kernel
theorem dX8_readChart_30 : decode cX8_readChart 30 = .ok (.invokevirtual 155, 3) := by decide +kernel
theorem dX8_readChart_33 : decode cX8_readChart 33 = .ok (.istore_n 3, 1) := by decide +kernel
theorem dX8_readChart_34 : decode cX8_readChart 34 = .ok (.aload_n 0, 1) := by decide +kernel
theorem dX8_readChart_35 : decode cX8_readChart 35 = .ok (.invokevirtual 136, 3) := by decide +kernel
theorem dX8_readChart_38 : decode cX8_readChart 38 = .ok (.aload_n 0, 1) := by decide +kernel
theorem dX8_readChart_39 : decode cX8_readChart 39 = .ok (.getfield 34, 3) := by decide +kernel
theorem dX8_readChart_42 : decode cX8_readChart 42 = .ok (.ifCond .ne 22, 3) := by decide +kernel
theorem dX8_readChart_45 : decode cX8_readChart 45 = .ok (.aload_n 0, 1) := by decide +kernel
theorem dX8_readChart_46 : decode cX8_readChart 46 = .ok (.getfield 18, 3) := by decide +kernel
theorem dX8_readChart_49 : decode cX8_readChart 49 = .ok (.getfield 165, 3) := by decide +kernel
theorem dX8_readChart_52 : decode cX8_readChart 52 = .ok (.iload_n 1, 1) := by decide +kernel
theorem dX8_readChart_53 : decode cX8_readChart 53 = .ok (.iaload, 1) := by decide +kernel
theorem dX8_readChart_54 : decode cX8_readChart 54 = .ok (.ifCond .lt 10, 3) := by decide +kernel
theorem dX8_readChart_57 : decode cX8_readChart 57 = .ok (.aload_n 0, 1) := by decide +kernel
theorem dX8_readChart_58 : decode cX8_readChart 58 = .ok (.bipush 7, 2) := by decide +kernel
theorem dX8_readChart_60 : decode cX8_readChart 60 = .ok (.iload_n 2, 1) := by decide +kernel
theorem dX8_readChart_61 : decode cX8_readChart 61 = .ok (.invokevirtual 71, 3) := by decide +kernel
theorem dX8_readChart_64 : decode cX8_readChart 64 = .ok (.aload_n 0, 1) := by decide +kernel
theorem dX8_readChart_65 : decode cX8_readChart 65 = .ok (.getfield 34, 3) := by decide +kernel
theorem dX8_readChart_68 : decode cX8_readChart 68 = .ok (.ifCond .ne 25, 3) := by decide +kernel
theorem dX8_readChart_71 : decode cX8_readChart 71 = .ok (.aload_n 0, 1) := by decide +kernel
theorem dX8_readChart_72 : decode cX8_readChart 72 = .ok (.iconst 0, 1) := by decide +kernel
theorem dX8_readChart_73 : decode cX8_readChart 73 = .ok (.iconst 2, 1) := by decide +kernel
theorem dX8_readChart_74 : decode cX8_readChart 74 = .ok (.aload_n 0, 1) := by decide +kernel
theorem dX8_readChart_75 : decode cX8_readChart 75 = .ok (.getfield 18, 3) := by decide +kernel
theorem dX8_readChart_78 : decode cX8_readChart 78 = .ok (.getfield 162, 3) := by decide +kernel
theorem dX8_readChart_81 : decode cX8_readChart 81 = .ok (.invokevirtual 139, 3) := by decide +kernel
theorem dX8_readChart_84 : decode cX8_readChart 84 = .ok (.aload_n 0, 1) := by decide +kernel
theorem dX8_readChart_85 : decode cX8_readChart 85 = .ok (.getfield 18, 3) := by decide +kernel
theorem dX8_readChart_88 : decode cX8_readChart 88 = .ok (.iload_n 1, 1) := by decide +kernel
theorem dX8_readChart_89 : decode cX8_readChart 89 = .ok (.iload_n 3, 1) := by decide +kernel
theorem dX8_readChart_90 : decode cX8_readChart 90 = .ok (.invokevirtual 169, 3) := by decide +kernel
theorem dX8_readChart_93 : decode cX8_readChart 93 = .ok (.return_, 1) := by decide +kernel
theorem cwX8_readChart : mw_cwV yX8_readChart cX8_readChart 4 (none) 0 := ⟨⟨wd_2, wd_973, by decide +kernel⟩, wd_972, sl_23⟩
set_option maxHeartbeats 4000000 in
set_option maxRecDepth 100000 in
theorem tX8_readChart (l : Launch) (G : mwG) (ad : Nat → Nat) (fu : Nat) (M : mwM) (L : mwL) {M0 : mwM} {L0 : mwL} (hD : DX8_readChart fu M L = some (M0, L0)) : Met l yX8_readChart (Cond.code yX8_readChart cX8_readChart 4 (none) :: GT) ({ frames := 7, cells := 0, slots := 0, locals := 152 }) (mw_Pre G ad NF TF FF M L [.ref (ad 1)]) (mw_Qv G ad NF TF FF (mw_eqV M0 L0)) 0 0 (mw_fr G) := by
  refine mw_enter (by decide) (Nat.le_of_ble_eq_true rfl) ?_
  intro p e s m below meth c ls C hr hlocks hnm hw hl
  have hl : lv_has ls 4 [(0, .ref (ad 1))] := hl
  have hb93 : ∀ (M : mwM) (L : mwL) (H : Heap) (locs : List Loc) (ls : Array Slot), fX8_readChart_b93 fu M L = some (M0, L0) → mw_W G ad NF TF FF M L H locs → lv_has ls 4 [] → W p l e ({ frames := 7, cells := 0, slots := 0, locals := 152 }) s m [.ref (ad 1)].toArray below meth c H locs 0 0 (MQ below (mw_Qv G ad NF TF FF (mw_eqV M0 L0)) [.ref (ad 1)].toArray s 0 0 (mw_fr G)) (F0 m 93 ls []) := by
    intro M L H locs ls hD hw hl
    unfold fX8_readChart_b93 at hD
    exact mr_vret C hr hlocks hw (Option.some.inj hD) dX8_readChart_93
  have hb64 : ∀ (v1 : Int32) (v3 : Int32) (M : mwM) (L : mwL) (H : Heap) (locs : List Loc) (ls : Array Slot), fX8_readChart_b64 fu v1 v3 M L = some (M0, L0) → mw_W G ad NF TF FF M L H locs → lv_has ls 4 [(0, .ref (ad 1)), (1, .int v1), (3, .int v3)] → W p l e ({ frames := 7, cells := 0, slots := 0, locals := 152 }) s m [.ref (ad 1)].toArray below meth c H locs 0 0 (MQ below (mw_Qv G ad NF TF FF (mw_eqV M0 L0)) [.ref (ad 1)].toArray s 0 0 (mw_fr G)) (F0 m 64 ls []) := by
    intro v1 v3 M L H locs ls hD hw hl
    unfold fX8_readChart_b64 at hD
    refine lv_aload_n C.1.1 C.1.2.1 dX8_readChart_64 rfl (lv_at hl 0 rfl) ?_
    refine mr_getI C hw kc_8 12 (by decide) tf_1 wd_607 dX8_readChart_65 (by decide) rfl ?_
    refine lv_if_ne (tgt := 93) C.1.1 C.1.2.1 dX8_readChart_68 (by decide) (fun c1 => ?_) (fun c1 => ?_)
    · replace hD := g_neg c1 hD
      exact hb93 M L _ _ ls hD hw (lv_sub hl [] rfl)
    · replace hD := g_pos c1 hD
      refine lv_aload_n C.1.1 C.1.2.1 dX8_readChart_71 rfl (lv_at hl 0 rfl) ?_
      refine lv_iconst (v := 0) C.1.1 C.1.2.1 dX8_readChart_72 (by decide) ?_
      refine lv_iconst (v := 2) C.1.1 C.1.2.1 dX8_readChart_73 (by decide) ?_
      refine lv_aload_n C.1.1 C.1.2.1 dX8_readChart_74 rfl (lv_at hl 0 rfl) ?_
      refine mr_getR C hw kc_8 1 (by decide) tf_1 ff_1_1 wd_595 dX8_readChart_75 (by decide) rfl ?_
      refine mr_getNI C hw kc_1 14 (by decide) tf_3 nd_544 dX8_readChart_78 (by decide) rfl ?_
      obtain ⟨M2, L3, h1, hD⟩ := g_b2 hD
      refine md_cvV (As := [.int 0, .int 2, .int (M 3 14)]) (rest := []) C hw (tX8_keepName l G ad fu 0 2 (M 3 14) M L h1) kc_8 (by decide) tf_1 wd_934 cwX8_keepName ⟨Nat.le_of_ble_eq_true rfl, Nat.le_of_ble_eq_true rfl⟩ rfl hl.1 (Nat.le_of_ble_eq_true rfl) dX8_readChart_81 rfl rfl ⟨Nat.zero_le _, Nat.zero_le _⟩ rfl (fun H locs hw => ?_)
      refine lv_aload_n C.1.1 C.1.2.1 dX8_readChart_84 rfl (lv_at hl 0 rfl) ?_
      refine mr_getR C hw kc_8 1 (by decide) tf_1 ff_1_1 wd_595 dX8_readChart_85 (by decide) rfl ?_
      refine lv_iload_n C.1.1 C.1.2.1 dX8_readChart_88 rfl (lv_at hl 1 rfl) ?_
      refine lv_iload_n C.1.1 C.1.2.1 dX8_readChart_89 rfl (lv_at hl 2 rfl) ?_
      obtain ⟨M4, L5, h1, hD⟩ := g_b2 hD
      refine md_cvV (As := [.int v1, .int v3]) (rest := []) C hw (tX1_addChart l G ad fu v1 v3 M2 L3 h1) kc_1 (by decide) tf_3 wd_974 cwX1_addChart ⟨Nat.le_of_ble_eq_true rfl, Nat.le_of_ble_eq_true rfl⟩ rfl hl.1 (Nat.le_of_ble_eq_true rfl) dX8_readChart_90 rfl rfl ⟨Nat.zero_le _, Nat.zero_le _⟩ rfl (fun H locs hw => ?_)
      exact hb93 M4 L5 _ _ ls hD hw (lv_sub hl [] rfl)
  unfold DX8_readChart at hD
  refine lv_aload_n C.1.1 C.1.2.1 dX8_readChart_0 rfl (lv_at hl 0 rfl) ?_
  refine lv_iconst (v := 0) C.1.1 C.1.2.1 dX8_readChart_1 (by decide) ?_
  refine lv_aload_n C.1.1 C.1.2.1 dX8_readChart_2 rfl (lv_at hl 0 rfl) ?_
  refine mr_getR C hw kc_8 1 (by decide) tf_1 ff_1_1 wd_595 dX8_readChart_3 (by decide) rfl ?_
  refine mr_getNI C hw kc_1 14 (by decide) tf_3 nd_544 dX8_readChart_6 (by decide) rfl ?_
  refine lv_bipush (v := 12) C.1.1 C.1.2.1 dX8_readChart_9 (by decide) ?_
  obtain ⟨M6, L7, h1, hD⟩ := g_b2 hD
  refine md_cvV (As := [.int 0, .int (M 3 14), .int 12]) (rest := []) C hw (tX8_newName l G ad fu 0 (M 3 14) 12 M L h1) kc_8 (by decide) tf_1 wd_899 cwX8_newName ⟨Nat.le_of_ble_eq_true rfl, Nat.le_of_ble_eq_true rfl⟩ rfl hl.1 (Nat.le_of_ble_eq_true rfl) dX8_readChart_11 rfl rfl ⟨Nat.zero_le _, Nat.zero_le _⟩ rfl (fun H locs hw => ?_)
  refine lv_aload_n C.1.1 C.1.2.1 dX8_readChart_14 rfl (lv_at hl 0 rfl) ?_
  refine lv_iconst (v := 0) C.1.1 C.1.2.1 dX8_readChart_15 (by decide) ?_
  refine lv_iconst (v := 1) C.1.1 C.1.2.1 dX8_readChart_16 (by decide) ?_
  obtain ⟨r10, M8, L9, h1, hD⟩ := g_b3 hD
  refine md_cvI (As := [.int 0, .int 1]) (rest := []) C hw (tX8_toldName l G ad fu 0 1 M6 L7 h1) kc_8 (by decide) tf_1 wd_942 cwX8_toldName ⟨Nat.le_of_ble_eq_true rfl, Nat.le_of_ble_eq_true rfl⟩ rfl hl.1 (Nat.le_of_ble_eq_true rfl) dX8_readChart_17 rfl rfl ⟨Nat.zero_le _, Nat.zero_le _⟩ rfl (fun H locs hw => ?_)
  refine lv_istore_n (lv' := [(1, .int r10), (0, .ref (ad 1))]) C.1.1 C.1.2.1 dX8_readChart_20 rfl hl (by decide) rfl (fun ls hl => ?_)
  refine lv_aload_n C.1.1 C.1.2.1 dX8_readChart_21 rfl (lv_at hl 1 rfl) ?_
  refine mr_getI C hw kc_8 8 (by decide) tf_1 wd_603 dX8_readChart_22 (by decide) rfl ?_
  obtain ⟨x11, ex11, hD⟩ := g_let hD
  refine W.eq (g2 := F0 m 25 ls (.int x11 :: [])) (by rw [ex11]) ?_
  refine lv_istore_n (lv' := [(2, .int x11), (1, .int r10), (0, .ref (ad 1))]) C.1.1 C.1.2.1 dX8_readChart_25 rfl hl (by decide) rfl (fun ls hl => ?_)
  refine lv_aload_n C.1.1 C.1.2.1 dX8_readChart_26 rfl (lv_at hl 2 rfl) ?_
  refine lv_iconst (v := 0) C.1.1 C.1.2.1 dX8_readChart_27 (by decide) ?_
  refine lv_bipush (v := 50) C.1.1 C.1.2.1 dX8_readChart_28 (by decide) ?_
  obtain ⟨r14, M12, L13, h1, hD⟩ := g_b3 hD
  refine md_cvI (As := [.int 0, .int 50]) (rest := []) C hw (tX8_number l G ad fu 0 50 M8 L9 h1) kc_8 (by decide) tf_1 wd_950 cwX8_number ⟨Nat.le_of_ble_eq_true rfl, Nat.le_of_ble_eq_true rfl⟩ rfl hl.1 (Nat.le_of_ble_eq_true rfl) dX8_readChart_30 rfl rfl ⟨Nat.zero_le _, Nat.zero_le _⟩ rfl (fun H locs hw => ?_)
  refine lv_istore_n (lv' := [(3, .int r14), (2, .int x11), (1, .int r10), (0, .ref (ad 1))]) C.1.1 C.1.2.1 dX8_readChart_33 rfl hl (by decide) rfl (fun ls hl => ?_)
  refine lv_aload_n C.1.1 C.1.2.1 dX8_readChart_34 rfl (lv_at hl 3 rfl) ?_
  obtain ⟨M15, L16, h1, hD⟩ := g_b2 hD
  refine md_cvV (As := []) (rest := []) C hw (tX8_endLine l G ad fu M12 L13 h1) kc_8 (by decide) tf_1 wd_930 cwX8_endLine ⟨Nat.le_of_ble_eq_true rfl, Nat.le_of_ble_eq_true rfl⟩ rfl hl.1 (Nat.le_of_ble_eq_true rfl) dX8_readChart_35 rfl rfl ⟨Nat.zero_le _, Nat.zero_le _⟩ rfl (fun H locs hw => ?_)
  refine lv_aload_n C.1.1 C.1.2.1 dX8_readChart_38 rfl (lv_at hl 3 rfl) ?_
  refine mr_getI C hw kc_8 12 (by decide) tf_1 wd_607 dX8_readChart_39 (by decide) rfl ?_
  refine lv_if_ne (tgt := 64) C.1.1 C.1.2.1 dX8_readChart_42 (by decide) (fun c17 => ?_) (fun c17 => ?_)
  · replace hD := g_neg c17 hD
    exact hb64 r10 r14 M15 L16 _ _ ls hD hw (lv_sub hl [3, 2, 0] rfl)
  · replace hD := g_pos c17 hD
    refine lv_aload_n C.1.1 C.1.2.1 dX8_readChart_45 rfl (lv_at hl 3 rfl) ?_
    refine mr_getR C hw kc_8 1 (by decide) tf_1 ff_1_1 wd_595 dX8_readChart_46 (by decide) rfl ?_
    refine mr_getNR C hw kc_1 8 (by decide) tf_3 ff_3_8 nd_532 dX8_readChart_49 (by decide) rfl ?_
    refine lv_iload_n C.1.1 C.1.2.1 dX8_readChart_52 rfl (lv_at hl 2 rfl) ?_
    obtain ⟨q18, hD⟩ := g_ck hD
    refine mr_iald C hw (by decide) tf_283 q18 dX8_readChart_53 ?_
    refine lv_if_lt (tgt := 64) C.1.1 C.1.2.1 dX8_readChart_54 (by decide) (fun c19 => ?_) (fun c19 => ?_)
    · replace hD := g_pos c19 hD
      exact hb64 r10 r14 M15 L16 _ _ ls hD hw (lv_sub hl [3, 2, 0] rfl)
    · replace hD := g_neg c19 hD
      refine lv_aload_n C.1.1 C.1.2.1 dX8_readChart_57 rfl (lv_at hl 3 rfl) ?_
      refine lv_bipush (v := 7) C.1.1 C.1.2.1 dX8_readChart_58 (by decide) ?_
      refine lv_iload_n C.1.1 C.1.2.1 dX8_readChart_60 rfl (lv_at hl 1 rfl) ?_
      obtain ⟨M20, L21, h1, hD⟩ := g_b2 hD
      refine md_cvV (As := [.int 7, .int x11]) (rest := []) C hw (tX8_fail l G ad fu 7 x11 M15 L16 h1) kc_8 (by decide) tf_1 wd_918 cwX8_fail ⟨Nat.le_of_ble_eq_true rfl, Nat.le_of_ble_eq_true rfl⟩ rfl hl.1 (Nat.le_of_ble_eq_true rfl) dX8_readChart_61 rfl rfl ⟨Nat.zero_le _, Nat.zero_le _⟩ rfl (fun H locs hw => ?_)
      exact hb64 r10 r14 M20 L21 _ _ ls hD hw (lv_sub hl [3, 2, 0] rfl)

theorem dX8_statesOf_0 : decode cX8_statesOf 0 = .ok (.iconst 1, 1) := by decide +kernel
theorem dX8_statesOf_1 : decode cX8_statesOf 1 = .ok (.iconst 2, 1) := by decide +kernel
theorem dX8_statesOf_2 : decode cX8_statesOf 2 = .ok (.iload_n 0, 1) := by decide +kernel
theorem dX8_statesOf_3 : decode cX8_statesOf 3 = .ok (.imul, 1) := by decide +kernel
theorem dX8_statesOf_4 : decode cX8_statesOf 4 = .ok (.iadd, 1) := by decide +kernel
theorem dX8_statesOf_5 : decode cX8_statesOf 5 = .ok (.ireturn, 1) := by decide +kernel
theorem cwX8_statesOf : mw_cwS yX8_statesOf cX8_statesOf 1 ((some .int)) 1 := ⟨⟨wd_2, wd_992, by decide +kernel⟩, wd_991⟩
set_option maxHeartbeats 4000000 in
set_option maxRecDepth 100000 in
theorem tX8_statesOf (l : Launch) (G : mwG) (ad : Nat → Nat) (fu : Nat) (a1 : Int32) (M : mwM) (L : mwL) {r0 : Int32} {M0 : mwM} {L0 : mwL} (hD : DX8_statesOf fu a1 M L = some (r0, M0, L0)) : Met l yX8_statesOf (Cond.code yX8_statesOf cX8_statesOf 1 ((some .int)) :: GT) ({ frames := 0, cells := 0, slots := 0, locals := 0 }) (mw_Pre G ad NF TF FF M L [.int a1]) (mw_Qi G ad NF TF FF (mw_eqI r0 M0 L0)) 0 0 (mw_fr G) := by
  refine mw_enter (by decide) (Nat.le_of_ble_eq_true rfl) ?_
  intro p e s m below meth c ls C hr hlocks hnm hw hl
  have hl : lv_has ls 1 [(0, .int a1)] := hl
  unfold DX8_statesOf at hD
  refine lv_iconst (v := 1) C.1.1 C.1.2.1 dX8_statesOf_0 (by decide) ?_
  refine lv_iconst (v := 2) C.1.1 C.1.2.1 dX8_statesOf_1 (by decide) ?_
  refine lv_iload_n C.1.1 C.1.2.1 dX8_statesOf_2 rfl (lv_at hl 0 rfl) ?_
  refine lv_imul C.1.1 C.1.2.1 dX8_statesOf_3 ?_
  refine lv_iadd C.1.1 C.1.2.1 dX8_statesOf_4 ?_
  exact mr_iret C hr hlocks hw rfl (Option.some.inj hD) dX8_statesOf_5

theorem dX8_parentState_0 : decode cX8_parentState 0 = .ok (.aload_n 0, 1) := by decide +kernel
theorem dX8_parentState_1 : decode cX8_parentState 1 = .ok (.invokevirtual 282, 3) := by decide +kernel
theorem dX8_parentState_4 : decode cX8_parentState 4 = .ok (.ifCond .eq 13, 3) := by decide +kernel
theorem dX8_parentState_7 : decode cX8_parentState 7 = .ok (.aload_n 0, 1) := by decide +kernel
theorem dX8_parentState_8 : decode cX8_parentState 8 = .ok (.ldc_w 274, 3) := by decide +kernel
theorem dX8_parentState_11 : decode cX8_parentState 11 = .ok (.invokevirtual 276, 3) := by decide +kernel
theorem dX8_parentState_14 : decode cX8_parentState 14 = .ok (.ifCond .eq 5, 3) := by decide +kernel
theorem dX8_parentState_17 : decode cX8_parentState 17 = .ok (.iconst 0, 1) := by decide +kernel
theorem dX8_parentState_18 : decode cX8_parentState 18 = .ok (.ireturn, 1) := by decide +kernel
theorem dX8_parentState_19 : decode cX8_parentState 19 = .ok (.aload_n 0, 1) := by decide +kernel
theorem dX8_parentState_20 : decode cX8_parentState 20 = .ok (.iload_n 1, 1) := by decide +kernel
theorem dX8_parentState_21 : decode cX8_parentState 21 = .ok (.invokestatic 172, 3) := by decide +kernel
theorem dX8_parentState_24 : decode cX8_parentState 24 = .ok (.invokevirtual 279, 3) := by decide +kernel
theorem dX8_parentState_27 : decode cX8_parentState 27 = .ok (.istore_n 2, 1) := by decide +kernel
theorem dX8_parentState_28 : decode cX8_parentState 28 = .ok (.iload_n 2, 1) := by decide +kernel
theorem dX8_parentState_29 : decode cX8_parentState 29 = .ok (.ifCond .ge 14, 3) := by decide +kernel
theorem dX8_parentState_32 : decode cX8_parentState 32 = .ok (.aload_n 0, 1) := by decide +kernel
theorem dX8_parentState_33 : decode cX8_parentState 33 = .ok (.iconst 4, 1) := by decide +kernel
theorem dX8_parentState_34 : decode cX8_parentState 34 = .ok (.aload_n 0, 1) := by decide +kernel
theorem dX8_parentState_35 : decode cX8_parentState 35 = .ok (.getfield 50, 3) := by decide +kernel
theorem dX8_parentState_38 : decode cX8_parentState 38 = .ok (.invokevirtual 71, 3) := by decide +kernel
theorem dX8_parentState_41 : decode cX8_parentState 41 = .ok (.iconst 0, 1) := by decide +kernel
theorem dX8_parentState_42 : decode cX8_parentState 42 = .ok (.ireturn, 1) := by decide +kernel
theorem dX8_parentState_43 : decode cX8_parentState 43 = .ok (.aload_n 0, 1) := by decide +kernel
theorem dX8_parentState_44 : decode cX8_parentState 44 = .ok (.getfield 24, 3) := by decide +kernel
theorem dX8_parentState_47 : decode cX8_parentState 47 = .ok (.iconst 4, 1) := by decide +kernel
theorem dX8_parentState_48 : decode cX8_parentState 48 = .ok (.aaload, 1) := by decide +kernel
theorem dX8_parentState_49 : decode cX8_parentState 49 = .ok (.iload_n 2, 1) := by decide +kernel
theorem dX8_parentState_50 : decode cX8_parentState 50 = .ok (.iaload, 1) := by decide +kernel
theorem dX8_parentState_51 : decode cX8_parentState 51 = .ok (.ireturn, 1) := by decide +kernel
theorem cwX8_parentState : mw_cwV yX8_parentState cX8_parentState 3 ((some .int)) 1 := ⟨⟨wd_2, wd_996, by decide +kernel⟩, wd_995, sl_26⟩
set_option maxHeartbeats 4000000 in
set_option maxRecDepth 100000 in
theorem tX8_parentState (l : Launch) (G : mwG) (ad : Nat → Nat) (fu : Nat) (a1 : Int32) (M : mwM) (L : mwL) {r0 : Int32} {M0 : mwM} {L0 : mwL} (hD : DX8_parentState fu a1 M L = some (r0, M0, L0)) : Met l yX8_parentState (Cond.code yX8_parentState cX8_parentState 3 ((some .int)) :: GT) ({ frames := 6, cells := 0, slots := 0, locals := 129 }) (mw_Pre G ad NF TF FF M L [.ref (ad 1), .int a1]) (mw_Qi G ad NF TF FF (mw_eqI r0 M0 L0)) 0 0 (mw_fr G) := by
  refine mw_enter (by decide) (Nat.le_of_ble_eq_true rfl) ?_
  intro p e s m below meth c ls C hr hlocks hnm hw hl
  have hl : lv_has ls 3 [(0, .ref (ad 1)), (1, .int a1)] := hl
  have hb17 : ∀ (M : mwM) (L : mwL) (H : Heap) (locs : List Loc) (ls : Array Slot), fX8_parentState_b17 fu a1 M L = some (r0, M0, L0) → mw_W G ad NF TF FF M L H locs → lv_has ls 3 [] → W p l e ({ frames := 6, cells := 0, slots := 0, locals := 129 }) s m [.ref (ad 1), .int a1].toArray below meth c H locs 0 0 (MQ below (mw_Qi G ad NF TF FF (mw_eqI r0 M0 L0)) [.ref (ad 1), .int a1].toArray s 0 0 (mw_fr G)) (F0 m 17 ls []) := by
    intro M L H locs ls hD hw hl
    unfold fX8_parentState_b17 at hD
    refine lv_iconst (v := 0) C.1.1 C.1.2.1 dX8_parentState_17 (by decide) ?_
    exact mr_iret C hr hlocks hw rfl (Option.some.inj hD) dX8_parentState_18
  unfold DX8_parentState at hD
  refine lv_aload_n C.1.1 C.1.2.1 dX8_parentState_0 rfl (lv_at hl 0 rfl) ?_
  obtain ⟨r3, M1, L2, h1, hD⟩ := g_b3 hD
  refine md_cvI (As := []) (rest := []) C hw (tX8_fetchWord l G ad fu M L h1) kc_8 (by decide) tf_1 wd_946 cwX8_fetchWord ⟨Nat.le_of_ble_eq_true rfl, Nat.le_of_ble_eq_true rfl⟩ rfl hl.1 (Nat.le_of_ble_eq_true rfl) dX8_parentState_1 rfl rfl ⟨Nat.zero_le _, Nat.zero_le _⟩ rfl (fun H locs hw => ?_)
  refine lv_if_eq (tgt := 17) C.1.1 C.1.2.1 dX8_parentState_4 (by decide) (fun c4 => ?_) (fun c4 => ?_)
  · replace hD := g_pos c4 hD
    exact hb17 M1 L2 _ _ ls hD hw (lv_sub hl [] rfl)
  · replace hD := g_neg c4 hD
    refine lv_aload_n C.1.1 C.1.2.1 dX8_parentState_7 rfl (lv_at hl 0 rfl) ?_
    refine mr_ldcSW (i := 6) C (by decide) rfl dX8_parentState_8 ?_
    obtain ⟨r7, M5, L6, h1, hD⟩ := g_b3 hD
    refine md_cvI (As := [.ref (G.2.1 1000 6)]) (rest := []) C hw (tX8_isWord l G ad fu 6 M1 L2 h1 (by decide : 6 < 8)) kc_8 (by decide) tf_1 wd_914 cwX8_isWord ⟨Nat.le_of_ble_eq_true rfl, Nat.le_of_ble_eq_true rfl⟩ rfl hl.1 (Nat.le_of_ble_eq_true rfl) dX8_parentState_11 rfl rfl ⟨Nat.zero_le _, Nat.zero_le _⟩ rfl (fun H locs hw => ?_)
    refine lv_if_eq (tgt := 19) C.1.1 C.1.2.1 dX8_parentState_14 (by decide) (fun c8 => ?_) (fun c8 => ?_)
    · replace hD := g_pos c8 hD
      refine lv_aload_n C.1.1 C.1.2.1 dX8_parentState_19 rfl (lv_at hl 0 rfl) ?_
      refine lv_iload_n C.1.1 C.1.2.1 dX8_parentState_20 rfl (lv_at hl 1 rfl) ?_
      obtain ⟨r11, M9, L10, h1, hD⟩ := g_b3 hD
      refine md_csI (As := [.int a1]) (rest := [.ref (ad 1)]) C hw (tX8_statesOf l G ad fu a1 M5 L6 h1) wd_990 cwX8_statesOf ⟨Nat.le_of_ble_eq_true rfl, Nat.le_of_ble_eq_true rfl⟩ rfl hl.1 (Nat.le_of_ble_eq_true rfl) dX8_parentState_21 rfl rfl ⟨Nat.zero_le _, Nat.zero_le _⟩ rfl (fun H locs hw => ?_)
      obtain ⟨r14, M12, L13, h1, hD⟩ := g_b3 hD
      refine md_cvI (As := [.int r11]) (rest := []) C hw (tX8_findName l G ad fu r11 M9 L10 h1) kc_8 (by decide) tf_1 wd_922 cwX8_findName ⟨Nat.le_of_ble_eq_true rfl, Nat.le_of_ble_eq_true rfl⟩ rfl hl.1 (Nat.le_of_ble_eq_true rfl) dX8_parentState_24 rfl rfl ⟨Nat.zero_le _, Nat.zero_le _⟩ rfl (fun H locs hw => ?_)
      refine lv_istore_n (lv' := [(2, .int r14), (0, .ref (ad 1)), (1, .int a1)]) C.1.1 C.1.2.1 dX8_parentState_27 rfl hl (by decide) rfl (fun ls hl => ?_)
      refine lv_iload_n C.1.1 C.1.2.1 dX8_parentState_28 rfl (lv_at hl 0 rfl) ?_
      refine lv_if_ge (tgt := 43) C.1.1 C.1.2.1 dX8_parentState_29 (by decide) (fun c15 => ?_) (fun c15 => ?_)
      · replace hD := g_pos c15 hD
        refine lv_aload_n C.1.1 C.1.2.1 dX8_parentState_43 rfl (lv_at hl 1 rfl) ?_
        refine mr_getR C hw kc_8 2 (by decide) tf_1 ff_1_2 wd_596 dX8_parentState_44 (by decide) rfl ?_
        refine lv_iconst (v := 4) C.1.1 C.1.2.1 dX8_parentState_47 (by decide) ?_
        refine mr_aald C hw (by decide) tf_725 (by decide) (by decide) rfl rfl (show vp_in 4 5 from by unfold vp_in; decide) ff_725_4 dX8_parentState_48 ?_
        refine lv_iload_n C.1.1 C.1.2.1 dX8_parentState_49 rfl (lv_at hl 0 rfl) ?_
        obtain ⟨q17, hD⟩ := g_ck hD
        refine mr_iald C hw (by decide) tf_730 q17 dX8_parentState_50 ?_
        exact mr_iret C hr hlocks hw rfl (Option.some.inj hD) dX8_parentState_51
      · replace hD := g_neg c15 hD
        refine lv_aload_n C.1.1 C.1.2.1 dX8_parentState_32 rfl (lv_at hl 1 rfl) ?_
        refine lv_iconst (v := 4) C.1.1 C.1.2.1 dX8_parentState_33 (by decide) ?_
        refine lv_aload_n C.1.1 C.1.2.1 dX8_parentState_34 rfl (lv_at hl 1 rfl) ?_
        refine mr_getI C hw kc_8 8 (by decide) tf_1 wd_603 dX8_parentState_35 (by decide) rfl ?_
        obtain ⟨M18, L19, h1, hD⟩ := g_b2 hD
        refine md_cvV (As := [.int 4, .int (M12 1 8)]) (rest := []) C hw (tX8_fail l G ad fu 4 (M12 1 8) M12 L13 h1) kc_8 (by decide) tf_1 wd_918 cwX8_fail ⟨Nat.le_of_ble_eq_true rfl, Nat.le_of_ble_eq_true rfl⟩ rfl hl.1 (Nat.le_of_ble_eq_true rfl) dX8_parentState_38 rfl rfl ⟨Nat.zero_le _, Nat.zero_le _⟩ rfl (fun H locs hw => ?_)
        refine lv_iconst (v := 0) C.1.1 C.1.2.1 dX8_parentState_41 (by decide) ?_
        exact mr_iret C hr hlocks hw rfl (Option.some.inj hD) dX8_parentState_42
    · replace hD := g_neg c8 hD
      exact hb17 M5 L6 _ _ ls hD hw (lv_sub hl [] rfl)

theorem dX8_oneOf_0 : decode cX8_oneOf 0 = .ok (.aload_n 0, 1) := by decide +kernel
theorem dX8_oneOf_1 : decode cX8_oneOf 1 = .ok (.invokevirtual 282, 3) := by decide +kernel
theorem dX8_oneOf_4 : decode cX8_oneOf 4 = .ok (.ifCond .ne 5, 3) := by decide +kernel
theorem dX8_oneOf_7 : decode cX8_oneOf 7 = .ok (.iconst 0, 1) := by decide +kernel
theorem dX8_oneOf_8 : decode cX8_oneOf 8 = .ok (.ireturn, 1) := by decide +kernel
theorem dX8_oneOf_9 : decode cX8_oneOf 9 = .ok (.aload_n 0, 1) := by decide +kernel
theorem dX8_oneOf_10 : decode cX8_oneOf 10 = .ok (.aload_n 1, 1) := by decide +kernel
theorem dX8_oneOf_11 : decode cX8_oneOf 11 = .ok (.invokevirtual 90, 3) := by decide +kernel
theorem dX8_oneOf_14 : decode cX8_oneOf 14 = .ok (.istore_n 2, 1) := by decide +kernel
theorem dX8_oneOf_15 : decode cX8_oneOf 15 = .ok (.iload_n 2, 1) := by decide +kernel
theorem dX8_oneOf_16 : decode cX8_oneOf 16 = .ok (.ifCond .ge 14, 3) := by decide +kernel
theorem dX8_oneOf_19 : decode cX8_oneOf 19 = .ok (.aload_n 0, 1) := by decide +kernel
theorem dX8_oneOf_20 : decode cX8_oneOf 20 = .ok (.iconst 1, 1) := by decide +kernel
theorem dX8_oneOf_21 : decode cX8_oneOf 21 = .ok (.aload_n 0, 1) := by decide +kernel
theorem dX8_oneOf_22 : decode cX8_oneOf 22 = .ok (.getfield 50, 3) := by decide +kernel
theorem dX8_oneOf_25 : decode cX8_oneOf 25 = .ok (.invokevirtual 71, 3) := by decide +kernel
theorem dX8_oneOf_28 : decode cX8_oneOf 28 = .ok (.iconst 0, 1) := by decide +kernel
theorem dX8_oneOf_29 : decode cX8_oneOf 29 = .ok (.ireturn, 1) := by decide +kernel
theorem dX8_oneOf_30 : decode cX8_oneOf 30 = .ok (.iload_n 2, 1) := by decide +kernel
theorem dX8_oneOf_31 : decode cX8_oneOf 31 = .ok (.ireturn, 1) := by decide +kernel
theorem cwX8_oneOf : mw_cwV yX8_oneOf cX8_oneOf 3 ((some .int)) 1 := ⟨⟨wd_2, wd_1001, by decide +kernel⟩, wd_1000, sl_27⟩
set_option maxHeartbeats 4000000 in
set_option maxRecDepth 100000 in
theorem tX8_oneOf (l : Launch) (G : mwG) (ad : Nat → Nat) (fu : Nat) (a1 : Nat) (M : mwM) (L : mwL) {r0 : Int32} {M0 : mwM} {L0 : mwL} (hD : DX8_oneOf fu a1 M L = some (r0, M0, L0)) (hs1 : a1 < 8) : Met l yX8_oneOf (Cond.code yX8_oneOf cX8_oneOf 3 ((some .int)) :: GT) ({ frames := 6, cells := 0, slots := 0, locals := 132 }) (mw_Pre G ad NF TF FF M L [.ref (ad 1), .ref (G.2.1 1000 a1)]) (mw_Qi G ad NF TF FF (mw_eqI r0 M0 L0)) 0 0 (mw_fr G) := by
  refine mw_enter (by decide) (Nat.le_of_ble_eq_true rfl) ?_
  intro p e s m below meth c ls C hr hlocks hnm hw hl
  have hl : lv_has ls 3 [(0, .ref (ad 1)), (1, .ref (G.2.1 1000 a1))] := hl
  unfold DX8_oneOf at hD
  refine lv_aload_n C.1.1 C.1.2.1 dX8_oneOf_0 rfl (lv_at hl 0 rfl) ?_
  obtain ⟨r3, M1, L2, h1, hD⟩ := g_b3 hD
  refine md_cvI (As := []) (rest := []) C hw (tX8_fetchWord l G ad fu M L h1) kc_8 (by decide) tf_1 wd_946 cwX8_fetchWord ⟨Nat.le_of_ble_eq_true rfl, Nat.le_of_ble_eq_true rfl⟩ rfl hl.1 (Nat.le_of_ble_eq_true rfl) dX8_oneOf_1 rfl rfl ⟨Nat.zero_le _, Nat.zero_le _⟩ rfl (fun H locs hw => ?_)
  refine lv_if_ne (tgt := 9) C.1.1 C.1.2.1 dX8_oneOf_4 (by decide) (fun c4 => ?_) (fun c4 => ?_)
  · replace hD := g_neg c4 hD
    refine lv_aload_n C.1.1 C.1.2.1 dX8_oneOf_9 rfl (lv_at hl 0 rfl) ?_
    refine lv_aload_n C.1.1 C.1.2.1 dX8_oneOf_10 rfl (lv_at hl 1 rfl) ?_
    obtain ⟨r7, M5, L6, h1, hD⟩ := g_b3 hD
    refine md_cvI (As := [.ref (G.2.1 1000 a1)]) (rest := []) C hw (tX8_indexIn l G ad fu a1 M1 L2 h1 hs1) kc_8 (by decide) tf_1 wd_839 cwX8_indexIn ⟨Nat.le_of_ble_eq_true rfl, Nat.le_of_ble_eq_true rfl⟩ rfl hl.1 (Nat.le_of_ble_eq_true rfl) dX8_oneOf_11 rfl rfl ⟨Nat.zero_le _, Nat.zero_le _⟩ rfl (fun H locs hw => ?_)
    refine lv_istore_n (lv' := [(2, .int r7), (0, .ref (ad 1)), (1, .ref (G.2.1 1000 a1))]) C.1.1 C.1.2.1 dX8_oneOf_14 rfl hl (by decide) rfl (fun ls hl => ?_)
    refine lv_iload_n C.1.1 C.1.2.1 dX8_oneOf_15 rfl (lv_at hl 0 rfl) ?_
    refine lv_if_ge (tgt := 30) C.1.1 C.1.2.1 dX8_oneOf_16 (by decide) (fun c8 => ?_) (fun c8 => ?_)
    · replace hD := g_pos c8 hD
      refine lv_iload_n C.1.1 C.1.2.1 dX8_oneOf_30 rfl (lv_at hl 0 rfl) ?_
      exact mr_iret C hr hlocks hw rfl (Option.some.inj hD) dX8_oneOf_31
    · replace hD := g_neg c8 hD
      refine lv_aload_n C.1.1 C.1.2.1 dX8_oneOf_19 rfl (lv_at hl 1 rfl) ?_
      refine lv_iconst (v := 1) C.1.1 C.1.2.1 dX8_oneOf_20 (by decide) ?_
      refine lv_aload_n C.1.1 C.1.2.1 dX8_oneOf_21 rfl (lv_at hl 1 rfl) ?_
      refine mr_getI C hw kc_8 8 (by decide) tf_1 wd_603 dX8_oneOf_22 (by decide) rfl ?_
      obtain ⟨M9, L10, h1, hD⟩ := g_b2 hD
      refine md_cvV (As := [.int 1, .int (M5 1 8)]) (rest := []) C hw (tX8_fail l G ad fu 1 (M5 1 8) M5 L6 h1) kc_8 (by decide) tf_1 wd_918 cwX8_fail ⟨Nat.le_of_ble_eq_true rfl, Nat.le_of_ble_eq_true rfl⟩ rfl hl.1 (Nat.le_of_ble_eq_true rfl) dX8_oneOf_25 rfl rfl ⟨Nat.zero_le _, Nat.zero_le _⟩ rfl (fun H locs hw => ?_)
      refine lv_iconst (v := 0) C.1.1 C.1.2.1 dX8_oneOf_28 (by decide) ?_
      exact mr_iret C hr hlocks hw rfl (Option.some.inj hD) dX8_oneOf_29
  · replace hD := g_pos c4 hD
    refine lv_iconst (v := 0) C.1.1 C.1.2.1 dX8_oneOf_7 (by decide) ?_
    exact mr_iret C hr hlocks hw rfl (Option.some.inj hD) dX8_oneOf_8

theorem dX8_heed_0 : decode cX8_heed 0 = .ok (.iload_n 1, 1) := by decide +kernel
theorem dX8_heed_1 : decode cX8_heed 1 = .ok (.ifCond .ge 24, 3) := by decide +kernel
theorem dX8_heed_4 : decode cX8_heed 4 = .ok (.aload_n 0, 1) := by decide +kernel
theorem dX8_heed_5 : decode cX8_heed 5 = .ok (.iload_n 1, 1) := by decide +kernel
theorem dX8_heed_6 : decode cX8_heed 6 = .ok (.bipush (-4), 2) := by decide +kernel
theorem dX8_heed_8 : decode cX8_heed 8 = .ok (.if_icmp .ne 8, 3) := by decide +kernel
theorem dX8_heed_11 : decode cX8_heed 11 = .ok (.bipush 6, 2) := by decide +kernel
theorem dX8_heed_13 : decode cX8_heed 13 = .ok (.goto 5, 3) := by decide +kernel
theorem dX8_heed_16 : decode cX8_heed 16 = .ok (.bipush 7, 2) := by decide +kernel
theorem dX8_heed_18 : decode cX8_heed 18 = .ok (.aload_n 0, 1) := by decide +kernel
theorem dX8_heed_19 : decode cX8_heed 19 = .ok (.getfield 53, 3) := by decide +kernel
theorem dX8_heed_22 : decode cX8_heed 22 = .ok (.invokevirtual 71, 3) := by decide +kernel
theorem dX8_heed_25 : decode cX8_heed 25 = .ok (.return_, 1) := by decide +kernel
theorem cwX8_heed : mw_cwV yX8_heed cX8_heed 2 (none) 1 := ⟨⟨wd_2, wd_1017, by decide +kernel⟩, wd_1016, sl_30⟩
set_option maxHeartbeats 4000000 in
set_option maxRecDepth 100000 in
theorem tX8_heed (l : Launch) (G : mwG) (ad : Nat → Nat) (fu : Nat) (a1 : Int32) (M : mwM) (L : mwL) {M0 : mwM} {L0 : mwL} (hD : DX8_heed fu a1 M L = some (M0, L0)) : Met l yX8_heed (Cond.code yX8_heed cX8_heed 2 (none) :: GT) ({ frames := 1, cells := 0, slots := 0, locals := 22 }) (mw_Pre G ad NF TF FF M L [.ref (ad 1), .int a1]) (mw_Qv G ad NF TF FF (mw_eqV M0 L0)) 0 0 (mw_fr G) := by
  refine mw_enter (by decide) (Nat.le_of_ble_eq_true rfl) ?_
  intro p e s m below meth c ls C hr hlocks hnm hw hl
  have hl : lv_has ls 2 [(0, .ref (ad 1)), (1, .int a1)] := hl
  have hb25 : ∀ (M : mwM) (L : mwL) (H : Heap) (locs : List Loc) (ls : Array Slot), fX8_heed_b25 fu a1 M L = some (M0, L0) → mw_W G ad NF TF FF M L H locs → lv_has ls 2 [] → W p l e ({ frames := 1, cells := 0, slots := 0, locals := 22 }) s m [.ref (ad 1), .int a1].toArray below meth c H locs 0 0 (MQ below (mw_Qv G ad NF TF FF (mw_eqV M0 L0)) [.ref (ad 1), .int a1].toArray s 0 0 (mw_fr G)) (F0 m 25 ls []) := by
    intro M L H locs ls hD hw hl
    unfold fX8_heed_b25 at hD
    exact mr_vret C hr hlocks hw (Option.some.inj hD) dX8_heed_25
  have hb18 : ∀ (s1 : Int32) (M : mwM) (L : mwL) (H : Heap) (locs : List Loc) (ls : Array Slot), fX8_heed_b18 fu a1 s1 M L = some (M0, L0) → mw_W G ad NF TF FF M L H locs → lv_has ls 2 [(0, .ref (ad 1))] → W p l e ({ frames := 1, cells := 0, slots := 0, locals := 22 }) s m [.ref (ad 1), .int a1].toArray below meth c H locs 0 0 (MQ below (mw_Qv G ad NF TF FF (mw_eqV M0 L0)) [.ref (ad 1), .int a1].toArray s 0 0 (mw_fr G)) (F0 m 18 ls [.int s1, .ref (ad 1)]) := by
    intro s1 M L H locs ls hD hw hl
    unfold fX8_heed_b18 at hD
    refine lv_aload_n C.1.1 C.1.2.1 dX8_heed_18 rfl (lv_at hl 0 rfl) ?_
    refine mr_getI C hw kc_8 7 (by decide) tf_1 wd_602 dX8_heed_19 (by decide) rfl ?_
    obtain ⟨M1, L2, h1, hD⟩ := g_b2 hD
    refine md_cvV (As := [.int s1, .int (M 1 7)]) (rest := []) C hw (tX8_fail l G ad fu s1 (M 1 7) M L h1) kc_8 (by decide) tf_1 wd_918 cwX8_fail ⟨Nat.le_of_ble_eq_true rfl, Nat.le_of_ble_eq_true rfl⟩ rfl hl.1 (Nat.le_of_ble_eq_true rfl) dX8_heed_22 rfl rfl ⟨Nat.zero_le _, Nat.zero_le _⟩ rfl (fun H locs hw => ?_)
    exact hb25 M1 L2 _ _ ls hD hw (lv_sub hl [] rfl)
  unfold DX8_heed at hD
  refine lv_iload_n C.1.1 C.1.2.1 dX8_heed_0 rfl (lv_at hl 1 rfl) ?_
  refine lv_if_ge (tgt := 25) C.1.1 C.1.2.1 dX8_heed_1 (by decide) (fun c3 => ?_) (fun c3 => ?_)
  · replace hD := g_pos c3 hD
    exact hb25 M L _ _ ls hD hw (lv_sub hl [] rfl)
  · replace hD := g_neg c3 hD
    refine lv_aload_n C.1.1 C.1.2.1 dX8_heed_4 rfl (lv_at hl 0 rfl) ?_
    refine lv_iload_n C.1.1 C.1.2.1 dX8_heed_5 rfl (lv_at hl 1 rfl) ?_
    refine lv_bipush (v := (-4)) C.1.1 C.1.2.1 dX8_heed_6 (by decide) ?_
    refine lv_icmp_ne (tgt := 16) C.1.1 C.1.2.1 dX8_heed_8 (by decide) (fun c4 => ?_) (fun c4 => ?_)
    · replace hD := g_neg c4 hD
      refine lv_bipush (v := 7) C.1.1 C.1.2.1 dX8_heed_16 (by decide) ?_
      exact hb18 7 M L _ _ ls hD hw (lv_sub hl [0] rfl)
    · replace hD := g_pos c4 hD
      refine lv_bipush (v := 6) C.1.1 C.1.2.1 dX8_heed_11 (by decide) ?_
      refine lv_goto (tgt := 18) C.1.1 C.1.2.1 dX8_heed_13 (by decide) ?_
      exact hb18 6 M L _ _ ls hD hw (lv_sub hl [0] rfl)

theorem dX8_readState_0 : decode cX8_readState 0 = .ok (.aload_n 0, 1) := by decide +kernel
theorem dX8_readState_1 : decode cX8_readState 1 = .ok (.iconst 0, 1) := by decide +kernel
theorem dX8_readState_2 : decode cX8_readState 2 = .ok (.iconst 2, 1) := by decide +kernel
theorem dX8_readState_3 : decode cX8_readState 3 = .ok (.invokevirtual 151, 3) := by decide +kernel
theorem dX8_readState_6 : decode cX8_readState 6 = .ok (.istore_n 1, 1) := by decide +kernel
theorem dX8_readState_7 : decode cX8_readState 7 = .ok (.aload_n 0, 1) := by decide +kernel
theorem dX8_readState_8 : decode cX8_readState 8 = .ok (.iload_n 1, 1) := by decide +kernel
theorem dX8_readState_9 : decode cX8_readState 9 = .ok (.invokestatic 172, 3) := by decide +kernel
theorem dX8_readState_12 : decode cX8_readState 12 = .ok (.iconst 0, 1) := by decide +kernel
theorem dX8_readState_13 : decode cX8_readState 13 = .ok (.iconst 1, 1) := by decide +kernel
theorem dX8_readState_14 : decode cX8_readState 14 = .ok (.invokevirtual 132, 3) := by decide +kernel
theorem dX8_readState_17 : decode cX8_readState 17 = .ok (.aload_n 0, 1) := by decide +kernel
theorem dX8_readState_18 : decode cX8_readState 18 = .ok (.iload_n 1, 1) := by decide +kernel
theorem dX8_readState_19 : decode cX8_readState 19 = .ok (.invokevirtual 175, 3) := by decide +kernel
theorem dX8_readState_22 : decode cX8_readState 22 = .ok (.istore_n 2, 1) := by decide +kernel
theorem dX8_readState_23 : decode cX8_readState 23 = .ok (.aload_n 0, 1) := by decide +kernel
theorem dX8_readState_24 : decode cX8_readState 24 = .ok (.ldc 178, 2) := by decide +kernel
theorem dX8_readState_26 : decode cX8_readState 26 = .ok (.invokevirtual 180, 3) := by decide +kernel
theorem dX8_readState_29 : decode cX8_readState 29 = .ok (.istore_n 3, 1) := by decide +kernel
theorem dX8_readState_30 : decode cX8_readState 30 = .ok (.aload_n 0, 1) := by decide +kernel
theorem dX8_readState_31 : decode cX8_readState 31 = .ok (.invokevirtual 136, 3) := by decide +kernel
theorem dX8_readState_34 : decode cX8_readState 34 = .ok (.aload_n 0, 1) := by decide +kernel
theorem dX8_readState_35 : decode cX8_readState 35 = .ok (.getfield 34, 3) := by decide +kernel
theorem dX8_readState_38 : decode cX8_readState 38 = .ok (.ifCond .ne 36, 3) := by decide +kernel
theorem dX8_readState_41 : decode cX8_readState 41 = .ok (.aload_n 0, 1) := by decide +kernel
theorem dX8_readState_42 : decode cX8_readState 42 = .ok (.getfield 18, 3) := by decide +kernel
theorem dX8_readState_45 : decode cX8_readState 45 = .ok (.getfield 183, 3) := by decide +kernel
theorem dX8_readState_48 : decode cX8_readState 48 = .ok (.iload_n 1, 1) := by decide +kernel
theorem dX8_readState_49 : decode cX8_readState 49 = .ok (.aaload, 1) := by decide +kernel
theorem dX8_readState_50 : decode cX8_readState 50 = .ok (.iload_n 2, 1) := by decide +kernel
theorem dX8_readState_51 : decode cX8_readState 51 = .ok (.iload_n 3, 1) := by decide +kernel
theorem dX8_readState_52 : decode cX8_readState 52 = .ok (.invokevirtual 187, 3) := by decide +kernel
theorem dX8_readState_55 : decode cX8_readState 55 = .ok (.istore 4, 2) := by decide +kernel
theorem dX8_readState_57 : decode cX8_readState 57 = .ok (.aload_n 0, 1) := by decide +kernel
theorem dX8_readState_58 : decode cX8_readState 58 = .ok (.iload 4, 2) := by decide +kernel
theorem dX8_readState_60 : decode cX8_readState 60 = .ok (.invokevirtual 190, 3) := by decide +kernel
theorem dX8_readState_63 : decode cX8_readState 63 = .ok (.aload_n 0, 1) := by decide +kernel
theorem dX8_readState_64 : decode cX8_readState 64 = .ok (.iload_n 1, 1) := by decide +kernel
theorem dX8_readState_65 : decode cX8_readState 65 = .ok (.invokestatic 172, 3) := by decide +kernel
theorem dX8_readState_68 : decode cX8_readState 68 = .ok (.iconst 4, 1) := by decide +kernel
theorem dX8_readState_69 : decode cX8_readState 69 = .ok (.iload 4, 2) := by decide +kernel
theorem dX8_readState_71 : decode cX8_readState 71 = .ok (.invokevirtual 139, 3) := by decide +kernel
theorem dX8_readState_74 : decode cX8_readState 74 = .ok (.return_, 1) := by decide +kernel
theorem cwX8_readState : mw_cwV yX8_readState cX8_readState 5 (none) 0 := ⟨⟨wd_2, wd_989, by decide +kernel⟩, wd_988, sl_25⟩
set_option maxHeartbeats 4000000 in
set_option maxRecDepth 100000 in
theorem tX8_readState (l : Launch) (G : mwG) (ad : Nat → Nat) (fu : Nat) (M : mwM) (L : mwL) {M0 : mwM} {L0 : mwL} (hD : DX8_readState fu M L = some (M0, L0)) : Met l yX8_readState (Cond.code yX8_readState cX8_readState 5 (none) :: GT) ({ frames := 7, cells := 0, slots := 0, locals := 154 }) (mw_Pre G ad NF TF FF M L [.ref (ad 1)]) (mw_Qv G ad NF TF FF (mw_eqV M0 L0)) 0 0 (mw_fr G) := by
  refine mw_enter (by decide) (Nat.le_of_ble_eq_true rfl) ?_
  intro p e s m below meth c ls C hr hlocks hnm hw hl
  have hl : lv_has ls 5 [(0, .ref (ad 1))] := hl
  have hb74 : ∀ (M : mwM) (L : mwL) (H : Heap) (locs : List Loc) (ls : Array Slot), fX8_readState_b74 fu M L = some (M0, L0) → mw_W G ad NF TF FF M L H locs → lv_has ls 5 [] → W p l e ({ frames := 7, cells := 0, slots := 0, locals := 154 }) s m [.ref (ad 1)].toArray below meth c H locs 0 0 (MQ below (mw_Qv G ad NF TF FF (mw_eqV M0 L0)) [.ref (ad 1)].toArray s 0 0 (mw_fr G)) (F0 m 74 ls []) := by
    intro M L H locs ls hD hw hl
    unfold fX8_readState_b74 at hD
    exact mr_vret C hr hlocks hw (Option.some.inj hD) dX8_readState_74
  unfold DX8_readState at hD
  refine lv_aload_n C.1.1 C.1.2.1 dX8_readState_0 rfl (lv_at hl 0 rfl) ?_
  refine lv_iconst (v := 0) C.1.1 C.1.2.1 dX8_readState_1 (by decide) ?_
  refine lv_iconst (v := 2) C.1.1 C.1.2.1 dX8_readState_2 (by decide) ?_
  obtain ⟨r3, M1, L2, h1, hD⟩ := g_b3 hD
  refine md_cvI (As := [.int 0, .int 2]) (rest := []) C hw (tX8_toldName l G ad fu 0 2 M L h1) kc_8 (by decide) tf_1 wd_942 cwX8_toldName ⟨Nat.le_of_ble_eq_true rfl, Nat.le_of_ble_eq_true rfl⟩ rfl hl.1 (Nat.le_of_ble_eq_true rfl) dX8_readState_3 rfl rfl ⟨Nat.zero_le _, Nat.zero_le _⟩ rfl (fun H locs hw => ?_)
  refine lv_istore_n (lv' := [(1, .int r3), (0, .ref (ad 1))]) C.1.1 C.1.2.1 dX8_readState_6 rfl hl (by decide) rfl (fun ls hl => ?_)
  refine lv_aload_n C.1.1 C.1.2.1 dX8_readState_7 rfl (lv_at hl 1 rfl) ?_
  refine lv_iload_n C.1.1 C.1.2.1 dX8_readState_8 rfl (lv_at hl 0 rfl) ?_
  obtain ⟨r6, M4, L5, h1, hD⟩ := g_b3 hD
  refine md_csI (As := [.int r3]) (rest := [.ref (ad 1)]) C hw (tX8_statesOf l G ad fu r3 M1 L2 h1) wd_990 cwX8_statesOf ⟨Nat.le_of_ble_eq_true rfl, Nat.le_of_ble_eq_true rfl⟩ rfl hl.1 (Nat.le_of_ble_eq_true rfl) dX8_readState_9 rfl rfl ⟨Nat.zero_le _, Nat.zero_le _⟩ rfl (fun H locs hw => ?_)
  refine lv_iconst (v := 0) C.1.1 C.1.2.1 dX8_readState_12 (by decide) ?_
  refine lv_iconst (v := 1) C.1.1 C.1.2.1 dX8_readState_13 (by decide) ?_
  obtain ⟨M7, L8, h1, hD⟩ := g_b2 hD
  refine md_cvV (As := [.int r6, .int 0, .int 1]) (rest := []) C hw (tX8_newName l G ad fu r6 0 1 M4 L5 h1) kc_8 (by decide) tf_1 wd_899 cwX8_newName ⟨Nat.le_of_ble_eq_true rfl, Nat.le_of_ble_eq_true rfl⟩ rfl hl.1 (Nat.le_of_ble_eq_true rfl) dX8_readState_14 rfl rfl ⟨Nat.zero_le _, Nat.zero_le _⟩ rfl (fun H locs hw => ?_)
  refine lv_aload_n C.1.1 C.1.2.1 dX8_readState_17 rfl (lv_at hl 1 rfl) ?_
  refine lv_iload_n C.1.1 C.1.2.1 dX8_readState_18 rfl (lv_at hl 0 rfl) ?_
  obtain ⟨r11, M9, L10, h1, hD⟩ := g_b3 hD
  refine md_cvI (As := [.int r3]) (rest := []) C hw (tX8_parentState l G ad fu r3 M7 L8 h1) kc_8 (by decide) tf_1 wd_993 cwX8_parentState ⟨Nat.le_of_ble_eq_true rfl, Nat.le_of_ble_eq_true rfl⟩ rfl hl.1 (Nat.le_of_ble_eq_true rfl) dX8_readState_19 rfl rfl ⟨Nat.zero_le _, Nat.zero_le _⟩ rfl (fun H locs hw => ?_)
  refine lv_istore_n (lv' := [(2, .int r11), (1, .int r3), (0, .ref (ad 1))]) C.1.1 C.1.2.1 dX8_readState_22 rfl hl (by decide) rfl (fun ls hl => ?_)
  refine lv_aload_n C.1.1 C.1.2.1 dX8_readState_23 rfl (lv_at hl 2 rfl) ?_
  refine mr_ldcS (i := 1) C (by decide) rfl dX8_readState_24 ?_
  obtain ⟨r14, M12, L13, h1, hD⟩ := g_b3 hD
  refine md_cvI (As := [.ref (G.2.1 1000 1)]) (rest := []) C hw (tX8_oneOf l G ad fu 1 M9 L10 h1 (by decide : 1 < 8)) kc_8 (by decide) tf_1 wd_998 cwX8_oneOf ⟨Nat.le_of_ble_eq_true rfl, Nat.le_of_ble_eq_true rfl⟩ rfl hl.1 (Nat.le_of_ble_eq_true rfl) dX8_readState_26 rfl rfl ⟨Nat.zero_le _, Nat.zero_le _⟩ rfl (fun H locs hw => ?_)
  refine lv_istore_n (lv' := [(3, .int r14), (2, .int r11), (1, .int r3), (0, .ref (ad 1))]) C.1.1 C.1.2.1 dX8_readState_29 rfl hl (by decide) rfl (fun ls hl => ?_)
  refine lv_aload_n C.1.1 C.1.2.1 dX8_readState_30 rfl (lv_at hl 3 rfl) ?_
  obtain ⟨M15, L16, h1, hD⟩ := g_b2 hD
  refine md_cvV (As := []) (rest := []) C hw (tX8_endLine l G ad fu M12 L13 h1) kc_8 (by decide) tf_1 wd_930 cwX8_endLine ⟨Nat.le_of_ble_eq_true rfl, Nat.le_of_ble_eq_true rfl⟩ rfl hl.1 (Nat.le_of_ble_eq_true rfl) dX8_readState_31 rfl rfl ⟨Nat.zero_le _, Nat.zero_le _⟩ rfl (fun H locs hw => ?_)
  refine lv_aload_n C.1.1 C.1.2.1 dX8_readState_34 rfl (lv_at hl 3 rfl) ?_
  refine mr_getI C hw kc_8 12 (by decide) tf_1 wd_607 dX8_readState_35 (by decide) rfl ?_
  refine lv_if_ne (tgt := 74) C.1.1 C.1.2.1 dX8_readState_38 (by decide) (fun c17 => ?_) (fun c17 => ?_)
  · replace hD := g_neg c17 hD
    exact hb74 M15 L16 _ _ ls hD hw (lv_sub hl [] rfl)
  · replace hD := g_pos c17 hD
    refine lv_aload_n C.1.1 C.1.2.1 dX8_readState_41 rfl (lv_at hl 3 rfl) ?_
    refine mr_getR C hw kc_8 1 (by decide) tf_1 ff_1_1 wd_595 dX8_readState_42 (by decide) rfl ?_
    refine mr_getNR C hw kc_1 0 (by decide) tf_3 ff_3_0 nd_512 dX8_readState_45 (by decide) rfl ?_
    refine lv_iload_n C.1.1 C.1.2.1 dX8_readState_48 rfl (lv_at hl 2 rfl) ?_
    obtain ⟨q18, hD⟩ := g_ck hD
    refine mr_aald C hw (by decide) tf_4 (by decide) (by decide) rfl rfl q18 (fr_4 _ (g_lt q18)) dX8_readState_49 ?_
    refine lv_iload_n C.1.1 C.1.2.1 dX8_readState_50 rfl (lv_at hl 1 rfl) ?_
    refine lv_iload_n C.1.1 C.1.2.1 dX8_readState_51 rfl (lv_at hl 0 rfl) ?_
    obtain ⟨r21, M19, L20, h1, hD⟩ := g_b3 hD
    refine md_cvI (As := [.int r11, .int r14]) (rest := []) C hw (tX2_addState l G ad fu ((293 + 36 * r3.toNatClampNeg)) r11 r14 M15 L16 h1 (isCh_of (g_lt q18))) kc_2 (Ch_N0 (isCh_of (g_lt q18))) (Ch_T0 (isCh_of (g_lt q18))) wd_1002 cwX2_addState ⟨Nat.le_of_ble_eq_true rfl, Nat.le_of_ble_eq_true rfl⟩ rfl hl.1 (Nat.le_of_ble_eq_true rfl) dX8_readState_52 rfl rfl ⟨Nat.zero_le _, Nat.zero_le _⟩ rfl (fun H locs hw => ?_)
    refine lv_istore (lv' := [(4, .int r21), (3, .int r14), (2, .int r11), (1, .int r3), (0, .ref (ad 1))]) C.1.1 C.1.2.1 dX8_readState_55 hl (by decide) rfl (fun ls hl => ?_)
    refine lv_aload_n C.1.1 C.1.2.1 dX8_readState_57 rfl (lv_at hl 4 rfl) ?_
    refine lv_iload C.1.1 C.1.2.1 dX8_readState_58 (lv_at hl 0 rfl) ?_
    obtain ⟨M22, L23, h1, hD⟩ := g_b2 hD
    refine md_cvV (As := [.int r21]) (rest := []) C hw (tX8_heed l G ad fu r21 M19 L20 h1) kc_8 (by decide) tf_1 wd_1014 cwX8_heed ⟨Nat.le_of_ble_eq_true rfl, Nat.le_of_ble_eq_true rfl⟩ rfl hl.1 (Nat.le_of_ble_eq_true rfl) dX8_readState_60 rfl rfl ⟨Nat.zero_le _, Nat.zero_le _⟩ rfl (fun H locs hw => ?_)
    refine lv_aload_n C.1.1 C.1.2.1 dX8_readState_63 rfl (lv_at hl 4 rfl) ?_
    refine lv_iload_n C.1.1 C.1.2.1 dX8_readState_64 rfl (lv_at hl 3 rfl) ?_
    obtain ⟨r26, M24, L25, h1, hD⟩ := g_b3 hD
    refine md_csI (As := [.int r3]) (rest := [.ref (ad 1)]) C hw (tX8_statesOf l G ad fu r3 M22 L23 h1) wd_990 cwX8_statesOf ⟨Nat.le_of_ble_eq_true rfl, Nat.le_of_ble_eq_true rfl⟩ rfl hl.1 (Nat.le_of_ble_eq_true rfl) dX8_readState_65 rfl rfl ⟨Nat.zero_le _, Nat.zero_le _⟩ rfl (fun H locs hw => ?_)
    refine lv_iconst (v := 4) C.1.1 C.1.2.1 dX8_readState_68 (by decide) ?_
    refine lv_iload C.1.1 C.1.2.1 dX8_readState_69 (lv_at hl 0 rfl) ?_
    obtain ⟨M27, L28, h1, hD⟩ := g_b2 hD
    refine md_cvV (As := [.int r26, .int 4, .int r21]) (rest := []) C hw (tX8_keepName l G ad fu r26 4 r21 M24 L25 h1) kc_8 (by decide) tf_1 wd_934 cwX8_keepName ⟨Nat.le_of_ble_eq_true rfl, Nat.le_of_ble_eq_true rfl⟩ rfl hl.1 (Nat.le_of_ble_eq_true rfl) dX8_readState_71 rfl rfl ⟨Nat.zero_le _, Nat.zero_le _⟩ rfl (fun H locs hw => ?_)
    exact hb74 M27 L28 _ _ ls hD hw (lv_sub hl [] rfl)

theorem dX8_eventOrTime_0 : decode cX8_eventOrTime 0 = .ok (.aload_n 0, 1) := by decide +kernel
theorem dX8_eventOrTime_1 : decode cX8_eventOrTime 1 = .ok (.invokevirtual 282, 3) := by decide +kernel
theorem dX8_eventOrTime_4 : decode cX8_eventOrTime 4 = .ok (.ifCond .ne 5, 3) := by decide +kernel
theorem dX8_eventOrTime_7 : decode cX8_eventOrTime 7 = .ok (.iconst 0, 1) := by decide +kernel
theorem dX8_eventOrTime_8 : decode cX8_eventOrTime 8 = .ok (.ireturn, 1) := by decide +kernel
theorem dX8_eventOrTime_9 : decode cX8_eventOrTime 9 = .ok (.aload_n 0, 1) := by decide +kernel
theorem dX8_eventOrTime_10 : decode cX8_eventOrTime 10 = .ok (.ldc_w 285, 3) := by decide +kernel
theorem dX8_eventOrTime_13 : decode cX8_eventOrTime 13 = .ok (.invokevirtual 276, 3) := by decide +kernel
theorem dX8_eventOrTime_16 : decode cX8_eventOrTime 16 = .ok (.ifCond .eq 11, 3) := by decide +kernel
theorem dX8_eventOrTime_19 : decode cX8_eventOrTime 19 = .ok (.sipush 1000, 3) := by decide +kernel
theorem dX8_eventOrTime_22 : decode cX8_eventOrTime 22 = .ok (.iload_n 1, 1) := by decide +kernel
theorem dX8_eventOrTime_23 : decode cX8_eventOrTime 23 = .ok (.iadd, 1) := by decide +kernel
theorem dX8_eventOrTime_24 : decode cX8_eventOrTime 24 = .ok (.goto 10, 3) := by decide +kernel
theorem dX8_eventOrTime_27 : decode cX8_eventOrTime 27 = .ok (.aload_n 0, 1) := by decide +kernel
theorem dX8_eventOrTime_28 : decode cX8_eventOrTime 28 = .ok (.iconst 0, 1) := by decide +kernel
theorem dX8_eventOrTime_29 : decode cX8_eventOrTime 29 = .ok (.bipush 99, 2) := by decide +kernel
theorem dX8_eventOrTime_31 : decode cX8_eventOrTime 31 = .ok (.invokevirtual 287, 3) := by decide +kernel
theorem dX8_eventOrTime_34 : decode cX8_eventOrTime 34 = .ok (.ireturn, 1) := by decide +kernel
theorem cwX8_eventOrTime : mw_cwV yX8_eventOrTime cX8_eventOrTime 2 ((some .int)) 1 := ⟨⟨wd_2, wd_1025, by decide +kernel⟩, wd_1024, sl_32⟩
set_option maxHeartbeats 4000000 in
set_option maxRecDepth 100000 in
theorem tX8_eventOrTime (l : Launch) (G : mwG) (ad : Nat → Nat) (fu : Nat) (a1 : Int32) (M : mwM) (L : mwL) {r0 : Int32} {M0 : mwM} {L0 : mwL} (hD : DX8_eventOrTime fu a1 M L = some (r0, M0, L0)) : Met l yX8_eventOrTime (Cond.code yX8_eventOrTime cX8_eventOrTime 2 ((some .int)) :: GT) ({ frames := 6, cells := 0, slots := 0, locals := 129 }) (mw_Pre G ad NF TF FF M L [.ref (ad 1), .int a1]) (mw_Qi G ad NF TF FF (mw_eqI r0 M0 L0)) 0 0 (mw_fr G) := by
  refine mw_enter (by decide) (Nat.le_of_ble_eq_true rfl) ?_
  intro p e s m below meth c ls C hr hlocks hnm hw hl
  have hl : lv_has ls 2 [(0, .ref (ad 1)), (1, .int a1)] := hl
  have hb34 : ∀ (s0 : Int32) (M : mwM) (L : mwL) (H : Heap) (locs : List Loc) (ls : Array Slot), fX8_eventOrTime_b34 fu a1 s0 M L = some (r0, M0, L0) → mw_W G ad NF TF FF M L H locs → lv_has ls 2 [] → W p l e ({ frames := 6, cells := 0, slots := 0, locals := 129 }) s m [.ref (ad 1), .int a1].toArray below meth c H locs 0 0 (MQ below (mw_Qi G ad NF TF FF (mw_eqI r0 M0 L0)) [.ref (ad 1), .int a1].toArray s 0 0 (mw_fr G)) (F0 m 34 ls [.int s0]) := by
    intro s0 M L H locs ls hD hw hl
    unfold fX8_eventOrTime_b34 at hD
    exact mr_iret C hr hlocks hw rfl (Option.some.inj hD) dX8_eventOrTime_34
  unfold DX8_eventOrTime at hD
  refine lv_aload_n C.1.1 C.1.2.1 dX8_eventOrTime_0 rfl (lv_at hl 0 rfl) ?_
  obtain ⟨r3, M1, L2, h1, hD⟩ := g_b3 hD
  refine md_cvI (As := []) (rest := []) C hw (tX8_fetchWord l G ad fu M L h1) kc_8 (by decide) tf_1 wd_946 cwX8_fetchWord ⟨Nat.le_of_ble_eq_true rfl, Nat.le_of_ble_eq_true rfl⟩ rfl hl.1 (Nat.le_of_ble_eq_true rfl) dX8_eventOrTime_1 rfl rfl ⟨Nat.zero_le _, Nat.zero_le _⟩ rfl (fun H locs hw => ?_)
  refine lv_if_ne (tgt := 9) C.1.1 C.1.2.1 dX8_eventOrTime_4 (by decide) (fun c4 => ?_) (fun c4 => ?_)
  · replace hD := g_neg c4 hD
    refine lv_aload_n C.1.1 C.1.2.1 dX8_eventOrTime_9 rfl (lv_at hl 0 rfl) ?_
    refine mr_ldcSW (i := 7) C (by decide) rfl dX8_eventOrTime_10 ?_
    obtain ⟨r7, M5, L6, h1, hD⟩ := g_b3 hD
    refine md_cvI (As := [.ref (G.2.1 1000 7)]) (rest := []) C hw (tX8_isWord l G ad fu 7 M1 L2 h1 (by decide : 7 < 8)) kc_8 (by decide) tf_1 wd_914 cwX8_isWord ⟨Nat.le_of_ble_eq_true rfl, Nat.le_of_ble_eq_true rfl⟩ rfl hl.1 (Nat.le_of_ble_eq_true rfl) dX8_eventOrTime_13 rfl rfl ⟨Nat.zero_le _, Nat.zero_le _⟩ rfl (fun H locs hw => ?_)
    refine lv_if_eq (tgt := 27) C.1.1 C.1.2.1 dX8_eventOrTime_16 (by decide) (fun c8 => ?_) (fun c8 => ?_)
    · replace hD := g_pos c8 hD
      refine lv_aload_n C.1.1 C.1.2.1 dX8_eventOrTime_27 rfl (lv_at hl 0 rfl) ?_
      refine lv_iconst (v := 0) C.1.1 C.1.2.1 dX8_eventOrTime_28 (by decide) ?_
      refine lv_bipush (v := 99) C.1.1 C.1.2.1 dX8_eventOrTime_29 (by decide) ?_
      obtain ⟨r11, M9, L10, h1, hD⟩ := g_b3 hD
      refine md_cvI (As := [.int 0, .int 99]) (rest := []) C hw (tX8_boundedNumber l G ad fu 0 99 M5 L6 h1) kc_8 (by decide) tf_1 wd_954 cwX8_boundedNumber ⟨Nat.le_of_ble_eq_true rfl, Nat.le_of_ble_eq_true rfl⟩ rfl hl.1 (Nat.le_of_ble_eq_true rfl) dX8_eventOrTime_31 rfl rfl ⟨Nat.zero_le _, Nat.zero_le _⟩ rfl (fun H locs hw => ?_)
      exact hb34 r11 M9 L10 _ _ ls hD hw (lv_sub hl [] rfl)
    · replace hD := g_neg c8 hD
      refine lv_sipush (v := 1000) C.1.1 C.1.2.1 dX8_eventOrTime_19 (by decide) ?_
      refine lv_iload_n C.1.1 C.1.2.1 dX8_eventOrTime_22 rfl (lv_at hl 1 rfl) ?_
      refine lv_iadd C.1.1 C.1.2.1 dX8_eventOrTime_23 ?_
      refine lv_goto (tgt := 34) C.1.1 C.1.2.1 dX8_eventOrTime_24 (by decide) ?_
      exact hb34 (1000 + a1) M5 L6 _ _ ls hD hw (lv_sub hl [] rfl)
  · replace hD := g_pos c4 hD
    refine lv_iconst (v := 0) C.1.1 C.1.2.1 dX8_eventOrTime_7 (by decide) ?_
    exact mr_iret C hr hlocks hw rfl (Option.some.inj hD) dX8_eventOrTime_8

theorem dX8_optional_0 : decode cX8_optional 0 = .ok (.aload_n 0, 1) := by decide +kernel
theorem dX8_optional_1 : decode cX8_optional 1 = .ok (.getfield 34, 3) := by decide +kernel
theorem dX8_optional_4 : decode cX8_optional 4 = .ok (.ifCond .eq 5, 3) := by decide +kernel
theorem dX8_optional_7 : decode cX8_optional 7 = .ok (.iconst 0, 1) := by decide +kernel
theorem dX8_optional_8 : decode cX8_optional 8 = .ok (.ireturn, 1) := by decide +kernel
theorem dX8_optional_9 : decode cX8_optional 9 = .ok (.aload_n 0, 1) := by decide +kernel
theorem dX8_optional_10 : decode cX8_optional 10 = .ok (.invokevirtual 47, 3) := by decide +kernel
theorem dX8_optional_13 : decode cX8_optional 13 = .ok (.aload_n 0, 1) := by decide +kernel
theorem dX8_optional_14 : decode cX8_optional 14 = .ok (.getfield 56, 3) := by decide +kernel
theorem dX8_optional_17 : decode cX8_optional 17 = .ok (.ifCond .le 20, 3) := by decide +kernel
theorem dX8_optional_20 : decode cX8_optional 20 = .ok (.aload_n 0, 1) := by decide +kernel
theorem dX8_optional_21 : decode cX8_optional 21 = .ok (.aload_n 1, 1) := by decide +kernel
theorem dX8_optional_22 : decode cX8_optional 22 = .ok (.invokevirtual 276, 3) := by decide +kernel
theorem dX8_optional_25 : decode cX8_optional 25 = .ok (.ifCond .ne 12, 3) := by decide +kernel
theorem dX8_optional_28 : decode cX8_optional 28 = .ok (.aload_n 0, 1) := by decide +kernel
theorem dX8_optional_29 : decode cX8_optional 29 = .ok (.iconst 2, 1) := by decide +kernel
theorem dX8_optional_30 : decode cX8_optional 30 = .ok (.aload_n 0, 1) := by decide +kernel
theorem dX8_optional_31 : decode cX8_optional 31 = .ok (.getfield 50, 3) := by decide +kernel
theorem dX8_optional_34 : decode cX8_optional 34 = .ok (.invokevirtual 71, 3) := by decide +kernel
theorem dX8_optional_37 : decode cX8_optional 37 = .ok (.aload_n 0, 1) := by decide +kernel
theorem dX8_optional_38 : decode cX8_optional 38 = .ok (.getfield 56, 3) := by decide +kernel
theorem dX8_optional_41 : decode cX8_optional 41 = .ok (.ifCond .le 14, 3) := by decide +kernel
theorem dX8_optional_44 : decode cX8_optional 44 = .ok (.aload_n 0, 1) := by decide +kernel
theorem dX8_optional_45 : decode cX8_optional 45 = .ok (.getfield 34, 3) := by decide +kernel
theorem dX8_optional_48 : decode cX8_optional 48 = .ok (.ifCond .ne 7, 3) := by decide +kernel
theorem dX8_optional_51 : decode cX8_optional 51 = .ok (.iconst 1, 1) := by decide +kernel
theorem dX8_optional_52 : decode cX8_optional 52 = .ok (.goto 4, 3) := by decide +kernel
theorem dX8_optional_55 : decode cX8_optional 55 = .ok (.iconst 0, 1) := by decide +kernel
theorem dX8_optional_56 : decode cX8_optional 56 = .ok (.ireturn, 1) := by decide +kernel
theorem cwX8_optional : mw_cwV yX8_optional cX8_optional 2 ((some .boolean)) 1 := ⟨⟨wd_2, wd_1031, by decide +kernel⟩, wd_1030, sl_33⟩
set_option maxHeartbeats 4000000 in
set_option maxRecDepth 100000 in
theorem tX8_optional (l : Launch) (G : mwG) (ad : Nat → Nat) (fu : Nat) (a1 : Nat) (M : mwM) (L : mwL) {r0 : Int32} {M0 : mwM} {L0 : mwL} (hD : DX8_optional fu a1 M L = some (r0, M0, L0)) (hs1 : a1 < 8) : Met l yX8_optional (Cond.code yX8_optional cX8_optional 2 ((some .boolean)) :: GT) ({ frames := 6, cells := 0, slots := 0, locals := 129 }) (mw_Pre G ad NF TF FF M L [.ref (ad 1), .ref (G.2.1 1000 a1)]) (mw_Qi G ad NF TF FF (mw_eqI r0 M0 L0)) 0 0 (mw_fr G) := by
  refine mw_enter (by decide) (Nat.le_of_ble_eq_true rfl) ?_
  intro p e s m below meth c ls C hr hlocks hnm hw hl
  have hl : lv_has ls 2 [(0, .ref (ad 1)), (1, .ref (G.2.1 1000 a1))] := hl
  have hb56 : ∀ (s0 : Int32) (M : mwM) (L : mwL) (H : Heap) (locs : List Loc) (ls : Array Slot), fX8_optional_b56 fu a1 s0 M L = some (r0, M0, L0) → mw_W G ad NF TF FF M L H locs → lv_has ls 2 [] → W p l e ({ frames := 6, cells := 0, slots := 0, locals := 129 }) s m [.ref (ad 1), .ref (G.2.1 1000 a1)].toArray below meth c H locs 0 0 (MQ below (mw_Qi G ad NF TF FF (mw_eqI r0 M0 L0)) [.ref (ad 1), .ref (G.2.1 1000 a1)].toArray s 0 0 (mw_fr G)) (F0 m 56 ls [.int s0]) := by
    intro s0 M L H locs ls hD hw hl
    unfold fX8_optional_b56 at hD
    obtain ⟨z3, hD⟩ := g_zz hD
    exact mr_iret C hr hlocks hw (nz_zz z3) (Option.some.inj hD) dX8_optional_56
  have hb55 : ∀ (M : mwM) (L : mwL) (H : Heap) (locs : List Loc) (ls : Array Slot), fX8_optional_b55 fu a1 M L = some (r0, M0, L0) → mw_W G ad NF TF FF M L H locs → lv_has ls 2 [] → W p l e ({ frames := 6, cells := 0, slots := 0, locals := 129 }) s m [.ref (ad 1), .ref (G.2.1 1000 a1)].toArray below meth c H locs 0 0 (MQ below (mw_Qi G ad NF TF FF (mw_eqI r0 M0 L0)) [.ref (ad 1), .ref (G.2.1 1000 a1)].toArray s 0 0 (mw_fr G)) (F0 m 55 ls []) := by
    intro M L H locs ls hD hw hl
    unfold fX8_optional_b55 at hD
    refine lv_iconst (v := 0) C.1.1 C.1.2.1 dX8_optional_55 (by decide) ?_
    exact hb56 0 M L _ _ ls hD hw (lv_sub hl [] rfl)
  have hb37 : ∀ (M : mwM) (L : mwL) (H : Heap) (locs : List Loc) (ls : Array Slot), fX8_optional_b37 fu a1 M L = some (r0, M0, L0) → mw_W G ad NF TF FF M L H locs → lv_has ls 2 [(0, .ref (ad 1))] → W p l e ({ frames := 6, cells := 0, slots := 0, locals := 129 }) s m [.ref (ad 1), .ref (G.2.1 1000 a1)].toArray below meth c H locs 0 0 (MQ below (mw_Qi G ad NF TF FF (mw_eqI r0 M0 L0)) [.ref (ad 1), .ref (G.2.1 1000 a1)].toArray s 0 0 (mw_fr G)) (F0 m 37 ls []) := by
    intro M L H locs ls hD hw hl
    unfold fX8_optional_b37 at hD
    refine lv_aload_n C.1.1 C.1.2.1 dX8_optional_37 rfl (lv_at hl 0 rfl) ?_
    refine mr_getI C hw kc_8 9 (by decide) tf_1 wd_604 dX8_optional_38 (by decide) rfl ?_
    refine lv_if_le (tgt := 55) C.1.1 C.1.2.1 dX8_optional_41 (by decide) (fun c1 => ?_) (fun c1 => ?_)
    · replace hD := g_pos c1 hD
      exact hb55 M L _ _ ls hD hw (lv_sub hl [] rfl)
    · replace hD := g_neg c1 hD
      refine lv_aload_n C.1.1 C.1.2.1 dX8_optional_44 rfl (lv_at hl 0 rfl) ?_
      refine mr_getI C hw kc_8 12 (by decide) tf_1 wd_607 dX8_optional_45 (by decide) rfl ?_
      refine lv_if_ne (tgt := 55) C.1.1 C.1.2.1 dX8_optional_48 (by decide) (fun c2 => ?_) (fun c2 => ?_)
      · replace hD := g_neg c2 hD
        exact hb55 M L _ _ ls hD hw (lv_sub hl [] rfl)
      · replace hD := g_pos c2 hD
        refine lv_iconst (v := 1) C.1.1 C.1.2.1 dX8_optional_51 (by decide) ?_
        refine lv_goto (tgt := 56) C.1.1 C.1.2.1 dX8_optional_52 (by decide) ?_
        exact hb56 1 M L _ _ ls hD hw (lv_sub hl [] rfl)
  unfold DX8_optional at hD
  refine lv_aload_n C.1.1 C.1.2.1 dX8_optional_0 rfl (lv_at hl 0 rfl) ?_
  refine mr_getI C hw kc_8 12 (by decide) tf_1 wd_607 dX8_optional_1 (by decide) rfl ?_
  refine lv_if_eq (tgt := 9) C.1.1 C.1.2.1 dX8_optional_4 (by decide) (fun c4 => ?_) (fun c4 => ?_)
  · replace hD := g_pos c4 hD
    refine lv_aload_n C.1.1 C.1.2.1 dX8_optional_9 rfl (lv_at hl 0 rfl) ?_
    obtain ⟨M5, L6, h1, hD⟩ := g_b2 hD
    refine md_cvV (As := []) (rest := []) C hw (tX8_nextWord l G ad fu M L h1) kc_8 (by decide) tf_1 wd_830 cwX8_nextWord ⟨Nat.le_of_ble_eq_true rfl, Nat.le_of_ble_eq_true rfl⟩ rfl hl.1 (Nat.le_of_ble_eq_true rfl) dX8_optional_10 rfl rfl ⟨Nat.zero_le _, Nat.zero_le _⟩ rfl (fun H locs hw => ?_)
    refine lv_aload_n C.1.1 C.1.2.1 dX8_optional_13 rfl (lv_at hl 0 rfl) ?_
    refine mr_getI C hw kc_8 9 (by decide) tf_1 wd_604 dX8_optional_14 (by decide) rfl ?_
    refine lv_if_le (tgt := 37) C.1.1 C.1.2.1 dX8_optional_17 (by decide) (fun c7 => ?_) (fun c7 => ?_)
    · replace hD := g_pos c7 hD
      exact hb37 M5 L6 _ _ ls hD hw (lv_sub hl [0] rfl)
    · replace hD := g_neg c7 hD
      refine lv_aload_n C.1.1 C.1.2.1 dX8_optional_20 rfl (lv_at hl 0 rfl) ?_
      refine lv_aload_n C.1.1 C.1.2.1 dX8_optional_21 rfl (lv_at hl 1 rfl) ?_
      obtain ⟨r10, M8, L9, h1, hD⟩ := g_b3 hD
      refine md_cvI (As := [.ref (G.2.1 1000 a1)]) (rest := []) C hw (tX8_isWord l G ad fu a1 M5 L6 h1 hs1) kc_8 (by decide) tf_1 wd_914 cwX8_isWord ⟨Nat.le_of_ble_eq_true rfl, Nat.le_of_ble_eq_true rfl⟩ rfl hl.1 (Nat.le_of_ble_eq_true rfl) dX8_optional_22 rfl rfl ⟨Nat.zero_le _, Nat.zero_le _⟩ rfl (fun H locs hw => ?_)
      refine lv_if_ne (tgt := 37) C.1.1 C.1.2.1 dX8_optional_25 (by decide) (fun c11 => ?_) (fun c11 => ?_)
      · replace hD := g_neg c11 hD
        exact hb37 M8 L9 _ _ ls hD hw (lv_sub hl [0] rfl)
      · replace hD := g_pos c11 hD
        refine lv_aload_n C.1.1 C.1.2.1 dX8_optional_28 rfl (lv_at hl 0 rfl) ?_
        refine lv_iconst (v := 2) C.1.1 C.1.2.1 dX8_optional_29 (by decide) ?_
        refine lv_aload_n C.1.1 C.1.2.1 dX8_optional_30 rfl (lv_at hl 0 rfl) ?_
        refine mr_getI C hw kc_8 8 (by decide) tf_1 wd_603 dX8_optional_31 (by decide) rfl ?_
        obtain ⟨M12, L13, h1, hD⟩ := g_b2 hD
        refine md_cvV (As := [.int 2, .int (M8 1 8)]) (rest := []) C hw (tX8_fail l G ad fu 2 (M8 1 8) M8 L9 h1) kc_8 (by decide) tf_1 wd_918 cwX8_fail ⟨Nat.le_of_ble_eq_true rfl, Nat.le_of_ble_eq_true rfl⟩ rfl hl.1 (Nat.le_of_ble_eq_true rfl) dX8_optional_34 rfl rfl ⟨Nat.zero_le _, Nat.zero_le _⟩ rfl (fun H locs hw => ?_)
        exact hb37 M12 L13 _ _ ls hD hw (lv_sub hl [0] rfl)
  · replace hD := g_neg c4 hD
    refine lv_iconst (v := 0) C.1.1 C.1.2.1 dX8_optional_7 (by decide) ?_
    exact mr_iret C hr hlocks hw (by decide +kernel) (Option.some.inj hD) dX8_optional_8

theorem dX8_dataOf_0 : decode cX8_dataOf 0 = .ok (.iconst 2, 1) := by decide +kernel
theorem dX8_dataOf_1 : decode cX8_dataOf 1 = .ok (.iconst 2, 1) := by decide +kernel
theorem dX8_dataOf_2 : decode cX8_dataOf 2 = .ok (.iload_n 0, 1) := by decide +kernel
theorem dX8_dataOf_3 : decode cX8_dataOf 3 = .ok (.imul, 1) := by decide +kernel
theorem dX8_dataOf_4 : decode cX8_dataOf 4 = .ok (.iadd, 1) := by decide +kernel
theorem dX8_dataOf_5 : decode cX8_dataOf 5 = .ok (.ireturn, 1) := by decide +kernel
theorem cwX8_dataOf : mw_cwS yX8_dataOf cX8_dataOf 1 ((some .int)) 1 := ⟨⟨wd_2, wd_1034, by decide +kernel⟩, wd_1033⟩
set_option maxHeartbeats 4000000 in
set_option maxRecDepth 100000 in
theorem tX8_dataOf (l : Launch) (G : mwG) (ad : Nat → Nat) (fu : Nat) (a1 : Int32) (M : mwM) (L : mwL) {r0 : Int32} {M0 : mwM} {L0 : mwL} (hD : DX8_dataOf fu a1 M L = some (r0, M0, L0)) : Met l yX8_dataOf (Cond.code yX8_dataOf cX8_dataOf 1 ((some .int)) :: GT) ({ frames := 0, cells := 0, slots := 0, locals := 0 }) (mw_Pre G ad NF TF FF M L [.int a1]) (mw_Qi G ad NF TF FF (mw_eqI r0 M0 L0)) 0 0 (mw_fr G) := by
  refine mw_enter (by decide) (Nat.le_of_ble_eq_true rfl) ?_
  intro p e s m below meth c ls C hr hlocks hnm hw hl
  have hl : lv_has ls 1 [(0, .int a1)] := hl
  unfold DX8_dataOf at hD
  refine lv_iconst (v := 2) C.1.1 C.1.2.1 dX8_dataOf_0 (by decide) ?_
  refine lv_iconst (v := 2) C.1.1 C.1.2.1 dX8_dataOf_1 (by decide) ?_
  refine lv_iload_n C.1.1 C.1.2.1 dX8_dataOf_2 rfl (lv_at hl 0 rfl) ?_
  refine lv_imul C.1.1 C.1.2.1 dX8_dataOf_3 ?_
  refine lv_iadd C.1.1 C.1.2.1 dX8_dataOf_4 ?_
  exact mr_iret C hr hlocks hw rfl (Option.some.inj hD) dX8_dataOf_5

theorem dX8_otherOperand_0 : decode cX8_otherOperand 0 = .ok (.aload_n 0, 1) := by decide +kernel
theorem dX8_otherOperand_1 : decode cX8_otherOperand 1 = .ok (.invokevirtual 282, 3) := by decide +kernel
theorem dX8_otherOperand_4 : decode cX8_otherOperand 4 = .ok (.ifCond .ne 5, 3) := by decide +kernel
theorem dX8_otherOperand_7 : decode cX8_otherOperand 7 = .ok (.iconst 0, 1) := by decide +kernel
theorem dX8_otherOperand_8 : decode cX8_otherOperand 8 = .ok (.ireturn, 1) := by decide +kernel
theorem dX8_otherOperand_9 : decode cX8_otherOperand 9 = .ok (.aload_n 0, 1) := by decide +kernel
theorem dX8_otherOperand_10 : decode cX8_otherOperand 10 = .ok (.iload_n 1, 1) := by decide +kernel
theorem dX8_otherOperand_11 : decode cX8_otherOperand 11 = .ok (.invokestatic 202, 3) := by decide +kernel
theorem dX8_otherOperand_14 : decode cX8_otherOperand 14 = .ok (.invokevirtual 279, 3) := by decide +kernel
theorem dX8_otherOperand_17 : decode cX8_otherOperand 17 = .ok (.istore_n 2, 1) := by decide +kernel
theorem dX8_otherOperand_18 : decode cX8_otherOperand 18 = .ok (.iload_n 2, 1) := by decide +kernel
theorem dX8_otherOperand_19 : decode cX8_otherOperand 19 = .ok (.ifCond .lt 16, 3) := by decide +kernel
theorem dX8_otherOperand_22 : decode cX8_otherOperand 22 = .ok (.sipush 256, 3) := by decide +kernel
theorem dX8_otherOperand_25 : decode cX8_otherOperand 25 = .ok (.aload_n 0, 1) := by decide +kernel
theorem dX8_otherOperand_26 : decode cX8_otherOperand 26 = .ok (.getfield 24, 3) := by decide +kernel
theorem dX8_otherOperand_29 : decode cX8_otherOperand 29 = .ok (.iconst 4, 1) := by decide +kernel
theorem dX8_otherOperand_30 : decode cX8_otherOperand 30 = .ok (.aaload, 1) := by decide +kernel
theorem dX8_otherOperand_31 : decode cX8_otherOperand 31 = .ok (.iload_n 2, 1) := by decide +kernel
theorem dX8_otherOperand_32 : decode cX8_otherOperand 32 = .ok (.iaload, 1) := by decide +kernel
theorem dX8_otherOperand_33 : decode cX8_otherOperand 33 = .ok (.imul, 1) := by decide +kernel
theorem dX8_otherOperand_34 : decode cX8_otherOperand 34 = .ok (.ireturn, 1) := by decide +kernel
theorem dX8_otherOperand_35 : decode cX8_otherOperand 35 = .ok (.aload_n 0, 1) := by decide +kernel
theorem dX8_otherOperand_36 : decode cX8_otherOperand 36 = .ok (.invokevirtual 290, 3) := by decide +kernel
theorem dX8_otherOperand_39 : decode cX8_otherOperand 39 = .ok (.ifCond .ne 14, 3) := by decide +kernel
theorem dX8_otherOperand_42 : decode cX8_otherOperand 42 = .ok (.aload_n 0, 1) := by decide +kernel
theorem dX8_otherOperand_43 : decode cX8_otherOperand 43 = .ok (.iconst 4, 1) := by decide +kernel
theorem dX8_otherOperand_44 : decode cX8_otherOperand 44 = .ok (.aload_n 0, 1) := by decide +kernel
theorem dX8_otherOperand_45 : decode cX8_otherOperand 45 = .ok (.getfield 50, 3) := by decide +kernel
theorem dX8_otherOperand_48 : decode cX8_otherOperand 48 = .ok (.invokevirtual 71, 3) := by decide +kernel
theorem dX8_otherOperand_51 : decode cX8_otherOperand 51 = .ok (.iconst 0, 1) := by decide +kernel
theorem dX8_otherOperand_52 : decode cX8_otherOperand 52 = .ok (.ireturn, 1) := by decide +kernel
theorem dX8_otherOperand_53 : decode cX8_otherOperand 53 = .ok (.sipush 8192, 3) := by decide +kernel
theorem dX8_otherOperand_56 : decode cX8_otherOperand 56 = .ok (.sipush 256, 3) := by decide +kernel
theorem dX8_otherOperand_59 : decode cX8_otherOperand 59 = .ok (.aload_n 0, 1) := by decide +kernel
theorem dX8_otherOperand_60 : decode cX8_otherOperand 60 = .ok (.iconst 0, 1) := by decide +kernel
theorem dX8_otherOperand_61 : decode cX8_otherOperand 61 = .ok (.bipush 31, 2) := by decide +kernel
theorem dX8_otherOperand_63 : decode cX8_otherOperand 63 = .ok (.invokevirtual 287, 3) := by decide +kernel
theorem dX8_otherOperand_66 : decode cX8_otherOperand 66 = .ok (.imul, 1) := by decide +kernel
theorem dX8_otherOperand_67 : decode cX8_otherOperand 67 = .ok (.iadd, 1) := by decide +kernel
theorem dX8_otherOperand_68 : decode cX8_otherOperand 68 = .ok (.ireturn, 1) := by decide +kernel
theorem cwX8_otherOperand : mw_cwV yX8_otherOperand cX8_otherOperand 3 ((some .int)) 1 := ⟨⟨wd_2, wd_1039, by decide +kernel⟩, wd_1038, sl_34⟩
set_option maxHeartbeats 4000000 in
set_option maxRecDepth 100000 in
theorem tX8_otherOperand (l : Launch) (G : mwG) (ad : Nat → Nat) (fu : Nat) (a1 : Int32) (M : mwM) (L : mwL) {r0 : Int32} {M0 : mwM} {L0 : mwL} (hD : DX8_otherOperand fu a1 M L = some (r0, M0, L0)) : Met l yX8_otherOperand (Cond.code yX8_otherOperand cX8_otherOperand 3 ((some .int)) :: GT) ({ frames := 3, cells := 0, slots := 0, locals := 65 }) (mw_Pre G ad NF TF FF M L [.ref (ad 1), .int a1]) (mw_Qi G ad NF TF FF (mw_eqI r0 M0 L0)) 0 0 (mw_fr G) := by
  refine mw_enter (by decide) (Nat.le_of_ble_eq_true rfl) ?_
  intro p e s m below meth c ls C hr hlocks hnm hw hl
  have hl : lv_has ls 3 [(0, .ref (ad 1)), (1, .int a1)] := hl
  unfold DX8_otherOperand at hD
  refine lv_aload_n C.1.1 C.1.2.1 dX8_otherOperand_0 rfl (lv_at hl 0 rfl) ?_
  obtain ⟨r3, M1, L2, h1, hD⟩ := g_b3 hD
  refine md_cvI (As := []) (rest := []) C hw (tX8_fetchWord l G ad fu M L h1) kc_8 (by decide) tf_1 wd_946 cwX8_fetchWord ⟨Nat.le_of_ble_eq_true rfl, Nat.le_of_ble_eq_true rfl⟩ rfl hl.1 (Nat.le_of_ble_eq_true rfl) dX8_otherOperand_1 rfl rfl ⟨Nat.zero_le _, Nat.zero_le _⟩ rfl (fun H locs hw => ?_)
  refine lv_if_ne (tgt := 9) C.1.1 C.1.2.1 dX8_otherOperand_4 (by decide) (fun c4 => ?_) (fun c4 => ?_)
  · replace hD := g_neg c4 hD
    refine lv_aload_n C.1.1 C.1.2.1 dX8_otherOperand_9 rfl (lv_at hl 0 rfl) ?_
    refine lv_iload_n C.1.1 C.1.2.1 dX8_otherOperand_10 rfl (lv_at hl 1 rfl) ?_
    obtain ⟨r7, M5, L6, h1, hD⟩ := g_b3 hD
    refine md_csI (As := [.int a1]) (rest := [.ref (ad 1)]) C hw (tX8_dataOf l G ad fu a1 M1 L2 h1) wd_1032 cwX8_dataOf ⟨Nat.le_of_ble_eq_true rfl, Nat.le_of_ble_eq_true rfl⟩ rfl hl.1 (Nat.le_of_ble_eq_true rfl) dX8_otherOperand_11 rfl rfl ⟨Nat.zero_le _, Nat.zero_le _⟩ rfl (fun H locs hw => ?_)
    obtain ⟨r10, M8, L9, h1, hD⟩ := g_b3 hD
    refine md_cvI (As := [.int r7]) (rest := []) C hw (tX8_findName l G ad fu r7 M5 L6 h1) kc_8 (by decide) tf_1 wd_922 cwX8_findName ⟨Nat.le_of_ble_eq_true rfl, Nat.le_of_ble_eq_true rfl⟩ rfl hl.1 (Nat.le_of_ble_eq_true rfl) dX8_otherOperand_14 rfl rfl ⟨Nat.zero_le _, Nat.zero_le _⟩ rfl (fun H locs hw => ?_)
    refine lv_istore_n (lv' := [(2, .int r10), (0, .ref (ad 1)), (1, .int a1)]) C.1.1 C.1.2.1 dX8_otherOperand_17 rfl hl (by decide) rfl (fun ls hl => ?_)
    refine lv_iload_n C.1.1 C.1.2.1 dX8_otherOperand_18 rfl (lv_at hl 0 rfl) ?_
    refine lv_if_lt (tgt := 35) C.1.1 C.1.2.1 dX8_otherOperand_19 (by decide) (fun c11 => ?_) (fun c11 => ?_)
    · replace hD := g_pos c11 hD
      refine lv_aload_n C.1.1 C.1.2.1 dX8_otherOperand_35 rfl (lv_at hl 1 rfl) ?_
      obtain ⟨r14, M12, L13, h1, hD⟩ := g_b3 hD
      refine md_cvI (As := []) (rest := []) C hw (tX8_isNumber l G ad fu M8 L9 h1) kc_8 (by decide) tf_1 wd_958 cwX8_isNumber ⟨Nat.le_of_ble_eq_true rfl, Nat.le_of_ble_eq_true rfl⟩ rfl hl.1 (Nat.le_of_ble_eq_true rfl) dX8_otherOperand_36 rfl rfl ⟨Nat.zero_le _, Nat.zero_le _⟩ rfl (fun H locs hw => ?_)
      refine lv_if_ne (tgt := 53) C.1.1 C.1.2.1 dX8_otherOperand_39 (by decide) (fun c15 => ?_) (fun c15 => ?_)
      · replace hD := g_neg c15 hD
        refine lv_sipush (v := 8192) C.1.1 C.1.2.1 dX8_otherOperand_53 (by decide) ?_
        refine lv_sipush (v := 256) C.1.1 C.1.2.1 dX8_otherOperand_56 (by decide) ?_
        refine lv_aload_n C.1.1 C.1.2.1 dX8_otherOperand_59 rfl (lv_at hl 1 rfl) ?_
        refine lv_iconst (v := 0) C.1.1 C.1.2.1 dX8_otherOperand_60 (by decide) ?_
        refine lv_bipush (v := 31) C.1.1 C.1.2.1 dX8_otherOperand_61 (by decide) ?_
        obtain ⟨r18, M16, L17, h1, hD⟩ := g_b3 hD
        refine md_cvI (As := [.int 0, .int 31]) (rest := [.int 256, .int 8192]) C hw (tX8_boundedNumber l G ad fu 0 31 M12 L13 h1) kc_8 (by decide) tf_1 wd_954 cwX8_boundedNumber ⟨Nat.le_of_ble_eq_true rfl, Nat.le_of_ble_eq_true rfl⟩ rfl hl.1 (Nat.le_of_ble_eq_true rfl) dX8_otherOperand_63 rfl rfl ⟨Nat.zero_le _, Nat.zero_le _⟩ rfl (fun H locs hw => ?_)
        refine lv_imul C.1.1 C.1.2.1 dX8_otherOperand_66 ?_
        refine lv_iadd C.1.1 C.1.2.1 dX8_otherOperand_67 ?_
        exact mr_iret C hr hlocks hw rfl (Option.some.inj hD) dX8_otherOperand_68
      · replace hD := g_pos c15 hD
        refine lv_aload_n C.1.1 C.1.2.1 dX8_otherOperand_42 rfl (lv_at hl 1 rfl) ?_
        refine lv_iconst (v := 4) C.1.1 C.1.2.1 dX8_otherOperand_43 (by decide) ?_
        refine lv_aload_n C.1.1 C.1.2.1 dX8_otherOperand_44 rfl (lv_at hl 1 rfl) ?_
        refine mr_getI C hw kc_8 8 (by decide) tf_1 wd_603 dX8_otherOperand_45 (by decide) rfl ?_
        obtain ⟨M19, L20, h1, hD⟩ := g_b2 hD
        refine md_cvV (As := [.int 4, .int (M12 1 8)]) (rest := []) C hw (tX8_fail l G ad fu 4 (M12 1 8) M12 L13 h1) kc_8 (by decide) tf_1 wd_918 cwX8_fail ⟨Nat.le_of_ble_eq_true rfl, Nat.le_of_ble_eq_true rfl⟩ rfl hl.1 (Nat.le_of_ble_eq_true rfl) dX8_otherOperand_48 rfl rfl ⟨Nat.zero_le _, Nat.zero_le _⟩ rfl (fun H locs hw => ?_)
        refine lv_iconst (v := 0) C.1.1 C.1.2.1 dX8_otherOperand_51 (by decide) ?_
        exact mr_iret C hr hlocks hw rfl (Option.some.inj hD) dX8_otherOperand_52
    · replace hD := g_neg c11 hD
      refine lv_sipush (v := 256) C.1.1 C.1.2.1 dX8_otherOperand_22 (by decide) ?_
      refine lv_aload_n C.1.1 C.1.2.1 dX8_otherOperand_25 rfl (lv_at hl 1 rfl) ?_
      refine mr_getR C hw kc_8 2 (by decide) tf_1 ff_1_2 wd_596 dX8_otherOperand_26 (by decide) rfl ?_
      refine lv_iconst (v := 4) C.1.1 C.1.2.1 dX8_otherOperand_29 (by decide) ?_
      refine mr_aald C hw (by decide) tf_725 (by decide) (by decide) rfl rfl (show vp_in 4 5 from by unfold vp_in; decide) ff_725_4 dX8_otherOperand_30 ?_
      refine lv_iload_n C.1.1 C.1.2.1 dX8_otherOperand_31 rfl (lv_at hl 0 rfl) ?_
      obtain ⟨q22, hD⟩ := g_ck hD
      refine mr_iald C hw (by decide) tf_730 q22 dX8_otherOperand_32 ?_
      refine lv_imul C.1.1 C.1.2.1 dX8_otherOperand_33 ?_
      exact mr_iret C hr hlocks hw rfl (Option.some.inj hD) dX8_otherOperand_34
  · replace hD := g_pos c4 hD
    refine lv_iconst (v := 0) C.1.1 C.1.2.1 dX8_otherOperand_7 (by decide) ?_
    exact mr_iret C hr hlocks hw rfl (Option.some.inj hD) dX8_otherOperand_8

theorem dX8_readEdge_0 : decode cX8_readEdge 0 = .ok (.aload_n 0, 1) := by decide +kernel
theorem dX8_readEdge_1 : decode cX8_readEdge 1 = .ok (.iconst 0, 1) := by decide +kernel
theorem dX8_readEdge_2 : decode cX8_readEdge 2 = .ok (.iconst 2, 1) := by decide +kernel
theorem dX8_readEdge_3 : decode cX8_readEdge 3 = .ok (.invokevirtual 151, 3) := by decide +kernel
theorem dX8_readEdge_6 : decode cX8_readEdge 6 = .ok (.istore_n 1, 1) := by decide +kernel
theorem dX8_readEdge_7 : decode cX8_readEdge 7 = .ok (.aload_n 0, 1) := by decide +kernel
theorem dX8_readEdge_8 : decode cX8_readEdge 8 = .ok (.iload_n 1, 1) := by decide +kernel
theorem dX8_readEdge_9 : decode cX8_readEdge 9 = .ok (.invokestatic 172, 3) := by decide +kernel
theorem dX8_readEdge_12 : decode cX8_readEdge 12 = .ok (.iconst 4, 1) := by decide +kernel
theorem dX8_readEdge_13 : decode cX8_readEdge 13 = .ok (.invokevirtual 151, 3) := by decide +kernel
theorem dX8_readEdge_16 : decode cX8_readEdge 16 = .ok (.istore_n 2, 1) := by decide +kernel
theorem dX8_readEdge_17 : decode cX8_readEdge 17 = .ok (.aload_n 0, 1) := by decide +kernel
theorem dX8_readEdge_18 : decode cX8_readEdge 18 = .ok (.iload_n 1, 1) := by decide +kernel
theorem dX8_readEdge_19 : decode cX8_readEdge 19 = .ok (.invokestatic 172, 3) := by decide +kernel
theorem dX8_readEdge_22 : decode cX8_readEdge 22 = .ok (.iconst 4, 1) := by decide +kernel
theorem dX8_readEdge_23 : decode cX8_readEdge 23 = .ok (.invokevirtual 151, 3) := by decide +kernel
theorem dX8_readEdge_26 : decode cX8_readEdge 26 = .ok (.istore_n 3, 1) := by decide +kernel
theorem dX8_readEdge_27 : decode cX8_readEdge 27 = .ok (.aload_n 0, 1) := by decide +kernel
theorem dX8_readEdge_28 : decode cX8_readEdge 28 = .ok (.iload_n 2, 1) := by decide +kernel
theorem dX8_readEdge_29 : decode cX8_readEdge 29 = .ok (.invokevirtual 193, 3) := by decide +kernel
theorem dX8_readEdge_32 : decode cX8_readEdge 32 = .ok (.istore 4, 2) := by decide +kernel
theorem dX8_readEdge_34 : decode cX8_readEdge 34 = .ok (.iconst 0, 1) := by decide +kernel
theorem dX8_readEdge_35 : decode cX8_readEdge 35 = .ok (.istore 5, 2) := by decide +kernel
theorem dX8_readEdge_37 : decode cX8_readEdge 37 = .ok (.aload_n 0, 1) := by decide +kernel
theorem dX8_readEdge_38 : decode cX8_readEdge 38 = .ok (.ldc 196, 2) := by decide +kernel
theorem dX8_readEdge_40 : decode cX8_readEdge 40 = .ok (.invokevirtual 198, 3) := by decide +kernel
theorem dX8_readEdge_43 : decode cX8_readEdge 43 = .ok (.ifCond .eq 40, 3) := by decide +kernel
theorem dX8_readEdge_46 : decode cX8_readEdge 46 = .ok (.aload_n 0, 1) := by decide +kernel
theorem dX8_readEdge_47 : decode cX8_readEdge 47 = .ok (.iload_n 1, 1) := by decide +kernel
theorem dX8_readEdge_48 : decode cX8_readEdge 48 = .ok (.invokestatic 202, 3) := by decide +kernel
theorem dX8_readEdge_51 : decode cX8_readEdge 51 = .ok (.iconst 5, 1) := by decide +kernel
theorem dX8_readEdge_52 : decode cX8_readEdge 52 = .ok (.invokevirtual 151, 3) := by decide +kernel
theorem dX8_readEdge_55 : decode cX8_readEdge 55 = .ok (.istore 6, 2) := by decide +kernel
theorem dX8_readEdge_57 : decode cX8_readEdge 57 = .ok (.aload_n 0, 1) := by decide +kernel
theorem dX8_readEdge_58 : decode cX8_readEdge 58 = .ok (.ldc 205, 2) := by decide +kernel
theorem dX8_readEdge_60 : decode cX8_readEdge 60 = .ok (.invokevirtual 180, 3) := by decide +kernel
theorem dX8_readEdge_63 : decode cX8_readEdge 63 = .ok (.iconst 1, 1) := by decide +kernel
theorem dX8_readEdge_64 : decode cX8_readEdge 64 = .ok (.iadd, 1) := by decide +kernel
theorem dX8_readEdge_65 : decode cX8_readEdge 65 = .ok (.istore 7, 2) := by decide +kernel
theorem dX8_readEdge_67 : decode cX8_readEdge 67 = .ok (.iload 7, 2) := by decide +kernel
theorem dX8_readEdge_69 : decode cX8_readEdge 69 = .ok (.bipush 8, 2) := by decide +kernel
theorem dX8_readEdge_71 : decode cX8_readEdge 71 = .ok (.iload 6, 2) := by decide +kernel
theorem dX8_readEdge_73 : decode cX8_readEdge 73 = .ok (.imul, 1) := by decide +kernel
theorem dX8_readEdge_74 : decode cX8_readEdge 74 = .ok (.iadd, 1) := by decide +kernel
theorem dX8_readEdge_75 : decode cX8_readEdge 75 = .ok (.aload_n 0, 1) := by decide +kernel
theorem dX8_readEdge_76 : decode cX8_readEdge 76 = .ok (.iload_n 1, 1) := by decide +kernel
theorem dX8_readEdge_77 : decode cX8_readEdge 77 = .ok (.invokevirtual 207, 3) := by decide +kernel
theorem dX8_readEdge_80 : decode cX8_readEdge 80 = .ok (.iadd, 1) := by decide +kernel
theorem dX8_readEdge_81 : decode cX8_readEdge 81 = .ok (.istore 5, 2) := by decide +kernel
theorem dX8_readEdge_83 : decode cX8_readEdge 83 = .ok (.aload_n 0, 1) := by decide +kernel
theorem dX8_readEdge_84 : decode cX8_readEdge 84 = .ok (.invokevirtual 136, 3) := by decide +kernel
theorem dX8_readEdge_87 : decode cX8_readEdge 87 = .ok (.aload_n 0, 1) := by decide +kernel
theorem dX8_readEdge_88 : decode cX8_readEdge 88 = .ok (.getfield 34, 3) := by decide +kernel
theorem dX8_readEdge_91 : decode cX8_readEdge 91 = .ok (.ifCond .ne 25, 3) := by decide +kernel
theorem dX8_readEdge_94 : decode cX8_readEdge 94 = .ok (.aload_n 0, 1) := by decide +kernel
theorem dX8_readEdge_95 : decode cX8_readEdge 95 = .ok (.aload_n 0, 1) := by decide +kernel
theorem dX8_readEdge_96 : decode cX8_readEdge 96 = .ok (.getfield 18, 3) := by decide +kernel
theorem dX8_readEdge_99 : decode cX8_readEdge 99 = .ok (.getfield 183, 3) := by decide +kernel
theorem dX8_readEdge_102 : decode cX8_readEdge 102 = .ok (.iload_n 1, 1) := by decide +kernel
theorem dX8_readEdge_103 : decode cX8_readEdge 103 = .ok (.aaload, 1) := by decide +kernel
theorem dX8_readEdge_104 : decode cX8_readEdge 104 = .ok (.iload_n 2, 1) := by decide +kernel
theorem dX8_readEdge_105 : decode cX8_readEdge 105 = .ok (.iload_n 3, 1) := by decide +kernel
theorem dX8_readEdge_106 : decode cX8_readEdge 106 = .ok (.iload 4, 2) := by decide +kernel
theorem dX8_readEdge_108 : decode cX8_readEdge 108 = .ok (.iload 5, 2) := by decide +kernel
theorem dX8_readEdge_110 : decode cX8_readEdge 110 = .ok (.invokevirtual 210, 3) := by decide +kernel
theorem dX8_readEdge_113 : decode cX8_readEdge 113 = .ok (.invokevirtual 190, 3) := by decide +kernel
theorem dX8_readEdge_116 : decode cX8_readEdge 116 = .ok (.return_, 1) := by decide +kernel
theorem cwX8_readEdge : mw_cwV yX8_readEdge cX8_readEdge 8 (none) 0 := ⟨⟨wd_2, wd_1021, by decide +kernel⟩, wd_1020, sl_31⟩
set_option maxHeartbeats 4000000 in
set_option maxRecDepth 100000 in
theorem tX8_readEdge (l : Launch) (G : mwG) (ad : Nat → Nat) (fu : Nat) (M : mwM) (L : mwL) {M0 : mwM} {L0 : mwL} (hD : DX8_readEdge fu M L = some (M0, L0)) : Met l yX8_readEdge (Cond.code yX8_readEdge cX8_readEdge 8 (none) :: GT) ({ frames := 7, cells := 0, slots := 0, locals := 154 }) (mw_Pre G ad NF TF FF M L [.ref (ad 1)]) (mw_Qv G ad NF TF FF (mw_eqV M0 L0)) 0 0 (mw_fr G) := by
  refine mw_enter (by decide) (Nat.le_of_ble_eq_true rfl) ?_
  intro p e s m below meth c ls C hr hlocks hnm hw hl
  have hl : lv_has ls 8 [(0, .ref (ad 1))] := hl
  have hb116 : ∀ (M : mwM) (L : mwL) (H : Heap) (locs : List Loc) (ls : Array Slot), fX8_readEdge_b116 fu M L = some (M0, L0) → mw_W G ad NF TF FF M L H locs → lv_has ls 8 [] → W p l e ({ frames := 7, cells := 0, slots := 0, locals := 154 }) s m [.ref (ad 1)].toArray below meth c H locs 0 0 (MQ below (mw_Qv G ad NF TF FF (mw_eqV M0 L0)) [.ref (ad 1)].toArray s 0 0 (mw_fr G)) (F0 m 116 ls []) := by
    intro M L H locs ls hD hw hl
    unfold fX8_readEdge_b116 at hD
    exact mr_vret C hr hlocks hw (Option.some.inj hD) dX8_readEdge_116
  have hb83 : ∀ (v1 : Int32) (v2 : Int32) (v3 : Int32) (v4 : Int32) (v5 : Int32) (M : mwM) (L : mwL) (H : Heap) (locs : List Loc) (ls : Array Slot), fX8_readEdge_b83 fu v1 v2 v3 v4 v5 M L = some (M0, L0) → mw_W G ad NF TF FF M L H locs → lv_has ls 8 [(0, .ref (ad 1)), (1, .int v1), (2, .int v2), (3, .int v3), (4, .int v4), (5, .int v5)] → W p l e ({ frames := 7, cells := 0, slots := 0, locals := 154 }) s m [.ref (ad 1)].toArray below meth c H locs 0 0 (MQ below (mw_Qv G ad NF TF FF (mw_eqV M0 L0)) [.ref (ad 1)].toArray s 0 0 (mw_fr G)) (F0 m 83 ls []) := by
    intro v1 v2 v3 v4 v5 M L H locs ls hD hw hl
    unfold fX8_readEdge_b83 at hD
    refine lv_aload_n C.1.1 C.1.2.1 dX8_readEdge_83 rfl (lv_at hl 0 rfl) ?_
    obtain ⟨M1, L2, h1, hD⟩ := g_b2 hD
    refine md_cvV (As := []) (rest := []) C hw (tX8_endLine l G ad fu M L h1) kc_8 (by decide) tf_1 wd_930 cwX8_endLine ⟨Nat.le_of_ble_eq_true rfl, Nat.le_of_ble_eq_true rfl⟩ rfl hl.1 (Nat.le_of_ble_eq_true rfl) dX8_readEdge_84 rfl rfl ⟨Nat.zero_le _, Nat.zero_le _⟩ rfl (fun H locs hw => ?_)
    refine lv_aload_n C.1.1 C.1.2.1 dX8_readEdge_87 rfl (lv_at hl 0 rfl) ?_
    refine mr_getI C hw kc_8 12 (by decide) tf_1 wd_607 dX8_readEdge_88 (by decide) rfl ?_
    refine lv_if_ne (tgt := 116) C.1.1 C.1.2.1 dX8_readEdge_91 (by decide) (fun c3 => ?_) (fun c3 => ?_)
    · replace hD := g_neg c3 hD
      exact hb116 M1 L2 _ _ ls hD hw (lv_sub hl [] rfl)
    · replace hD := g_pos c3 hD
      refine lv_aload_n C.1.1 C.1.2.1 dX8_readEdge_94 rfl (lv_at hl 0 rfl) ?_
      refine lv_aload_n C.1.1 C.1.2.1 dX8_readEdge_95 rfl (lv_at hl 0 rfl) ?_
      refine mr_getR C hw kc_8 1 (by decide) tf_1 ff_1_1 wd_595 dX8_readEdge_96 (by decide) rfl ?_
      refine mr_getNR C hw kc_1 0 (by decide) tf_3 ff_3_0 nd_512 dX8_readEdge_99 (by decide) rfl ?_
      refine lv_iload_n C.1.1 C.1.2.1 dX8_readEdge_102 rfl (lv_at hl 1 rfl) ?_
      obtain ⟨q4, hD⟩ := g_ck hD
      refine mr_aald C hw (by decide) tf_4 (by decide) (by decide) rfl rfl q4 (fr_4 _ (g_lt q4)) dX8_readEdge_103 ?_
      refine lv_iload_n C.1.1 C.1.2.1 dX8_readEdge_104 rfl (lv_at hl 2 rfl) ?_
      refine lv_iload_n C.1.1 C.1.2.1 dX8_readEdge_105 rfl (lv_at hl 3 rfl) ?_
      refine lv_iload C.1.1 C.1.2.1 dX8_readEdge_106 (lv_at hl 4 rfl) ?_
      refine lv_iload C.1.1 C.1.2.1 dX8_readEdge_108 (lv_at hl 5 rfl) ?_
      obtain ⟨r7, M5, L6, h1, hD⟩ := g_b3 hD
      refine md_cvI (As := [.int v2, .int v3, .int v4, .int v5]) (rest := [.ref (ad 1)]) C hw (tX2_addEdge l G ad fu ((293 + 36 * v1.toNatClampNeg)) v2 v3 v4 v5 M1 L2 h1 (isCh_of (g_lt q4))) kc_2 (Ch_N0 (isCh_of (g_lt q4))) (Ch_T0 (isCh_of (g_lt q4))) wd_1040 cwX2_addEdge ⟨Nat.le_of_ble_eq_true rfl, Nat.le_of_ble_eq_true rfl⟩ rfl hl.1 (Nat.le_of_ble_eq_true rfl) dX8_readEdge_110 rfl rfl ⟨Nat.zero_le _, Nat.zero_le _⟩ rfl (fun H locs hw => ?_)
      obtain ⟨M8, L9, h1, hD⟩ := g_b2 hD
      refine md_cvV (As := [.int r7]) (rest := []) C hw (tX8_heed l G ad fu r7 M5 L6 h1) kc_8 (by decide) tf_1 wd_1014 cwX8_heed ⟨Nat.le_of_ble_eq_true rfl, Nat.le_of_ble_eq_true rfl⟩ rfl hl.1 (Nat.le_of_ble_eq_true rfl) dX8_readEdge_113 rfl rfl ⟨Nat.zero_le _, Nat.zero_le _⟩ rfl (fun H locs hw => ?_)
      exact hb116 M8 L9 _ _ ls hD hw (lv_sub hl [] rfl)
  unfold DX8_readEdge at hD
  refine lv_aload_n C.1.1 C.1.2.1 dX8_readEdge_0 rfl (lv_at hl 0 rfl) ?_
  refine lv_iconst (v := 0) C.1.1 C.1.2.1 dX8_readEdge_1 (by decide) ?_
  refine lv_iconst (v := 2) C.1.1 C.1.2.1 dX8_readEdge_2 (by decide) ?_
  obtain ⟨r12, M10, L11, h1, hD⟩ := g_b3 hD
  refine md_cvI (As := [.int 0, .int 2]) (rest := []) C hw (tX8_toldName l G ad fu 0 2 M L h1) kc_8 (by decide) tf_1 wd_942 cwX8_toldName ⟨Nat.le_of_ble_eq_true rfl, Nat.le_of_ble_eq_true rfl⟩ rfl hl.1 (Nat.le_of_ble_eq_true rfl) dX8_readEdge_3 rfl rfl ⟨Nat.zero_le _, Nat.zero_le _⟩ rfl (fun H locs hw => ?_)
  refine lv_istore_n (lv' := [(1, .int r12), (0, .ref (ad 1))]) C.1.1 C.1.2.1 dX8_readEdge_6 rfl hl (by decide) rfl (fun ls hl => ?_)
  refine lv_aload_n C.1.1 C.1.2.1 dX8_readEdge_7 rfl (lv_at hl 1 rfl) ?_
  refine lv_iload_n C.1.1 C.1.2.1 dX8_readEdge_8 rfl (lv_at hl 0 rfl) ?_
  obtain ⟨r15, M13, L14, h1, hD⟩ := g_b3 hD
  refine md_csI (As := [.int r12]) (rest := [.ref (ad 1)]) C hw (tX8_statesOf l G ad fu r12 M10 L11 h1) wd_990 cwX8_statesOf ⟨Nat.le_of_ble_eq_true rfl, Nat.le_of_ble_eq_true rfl⟩ rfl hl.1 (Nat.le_of_ble_eq_true rfl) dX8_readEdge_9 rfl rfl ⟨Nat.zero_le _, Nat.zero_le _⟩ rfl (fun H locs hw => ?_)
  refine lv_iconst (v := 4) C.1.1 C.1.2.1 dX8_readEdge_12 (by decide) ?_
  obtain ⟨r18, M16, L17, h1, hD⟩ := g_b3 hD
  refine md_cvI (As := [.int r15, .int 4]) (rest := []) C hw (tX8_toldName l G ad fu r15 4 M13 L14 h1) kc_8 (by decide) tf_1 wd_942 cwX8_toldName ⟨Nat.le_of_ble_eq_true rfl, Nat.le_of_ble_eq_true rfl⟩ rfl hl.1 (Nat.le_of_ble_eq_true rfl) dX8_readEdge_13 rfl rfl ⟨Nat.zero_le _, Nat.zero_le _⟩ rfl (fun H locs hw => ?_)
  refine lv_istore_n (lv' := [(2, .int r18), (1, .int r12), (0, .ref (ad 1))]) C.1.1 C.1.2.1 dX8_readEdge_16 rfl hl (by decide) rfl (fun ls hl => ?_)
  refine lv_aload_n C.1.1 C.1.2.1 dX8_readEdge_17 rfl (lv_at hl 2 rfl) ?_
  refine lv_iload_n C.1.1 C.1.2.1 dX8_readEdge_18 rfl (lv_at hl 1 rfl) ?_
  obtain ⟨r21, M19, L20, h1, hD⟩ := g_b3 hD
  refine md_csI (As := [.int r12]) (rest := [.ref (ad 1)]) C hw (tX8_statesOf l G ad fu r12 M16 L17 h1) wd_990 cwX8_statesOf ⟨Nat.le_of_ble_eq_true rfl, Nat.le_of_ble_eq_true rfl⟩ rfl hl.1 (Nat.le_of_ble_eq_true rfl) dX8_readEdge_19 rfl rfl ⟨Nat.zero_le _, Nat.zero_le _⟩ rfl (fun H locs hw => ?_)
  refine lv_iconst (v := 4) C.1.1 C.1.2.1 dX8_readEdge_22 (by decide) ?_
  obtain ⟨r24, M22, L23, h1, hD⟩ := g_b3 hD
  refine md_cvI (As := [.int r21, .int 4]) (rest := []) C hw (tX8_toldName l G ad fu r21 4 M19 L20 h1) kc_8 (by decide) tf_1 wd_942 cwX8_toldName ⟨Nat.le_of_ble_eq_true rfl, Nat.le_of_ble_eq_true rfl⟩ rfl hl.1 (Nat.le_of_ble_eq_true rfl) dX8_readEdge_23 rfl rfl ⟨Nat.zero_le _, Nat.zero_le _⟩ rfl (fun H locs hw => ?_)
  refine lv_istore_n (lv' := [(3, .int r24), (2, .int r18), (1, .int r12), (0, .ref (ad 1))]) C.1.1 C.1.2.1 dX8_readEdge_26 rfl hl (by decide) rfl (fun ls hl => ?_)
  refine lv_aload_n C.1.1 C.1.2.1 dX8_readEdge_27 rfl (lv_at hl 3 rfl) ?_
  refine lv_iload_n C.1.1 C.1.2.1 dX8_readEdge_28 rfl (lv_at hl 1 rfl) ?_
  obtain ⟨r27, M25, L26, h1, hD⟩ := g_b3 hD
  refine md_cvI (As := [.int r18]) (rest := []) C hw (tX8_eventOrTime l G ad fu r18 M22 L23 h1) kc_8 (by decide) tf_1 wd_1022 cwX8_eventOrTime ⟨Nat.le_of_ble_eq_true rfl, Nat.le_of_ble_eq_true rfl⟩ rfl hl.1 (Nat.le_of_ble_eq_true rfl) dX8_readEdge_29 rfl rfl ⟨Nat.zero_le _, Nat.zero_le _⟩ rfl (fun H locs hw => ?_)
  refine lv_istore (lv' := [(4, .int r27), (3, .int r24), (2, .int r18), (1, .int r12), (0, .ref (ad 1))]) C.1.1 C.1.2.1 dX8_readEdge_32 hl (by decide) rfl (fun ls hl => ?_)
  refine lv_iconst (v := 0) C.1.1 C.1.2.1 dX8_readEdge_34 (by decide) ?_
  refine lv_istore (lv' := [(5, .int 0), (4, .int r27), (3, .int r24), (2, .int r18), (1, .int r12), (0, .ref (ad 1))]) C.1.1 C.1.2.1 dX8_readEdge_35 hl (by decide) rfl (fun ls hl => ?_)
  refine lv_aload_n C.1.1 C.1.2.1 dX8_readEdge_37 rfl (lv_at hl 5 rfl) ?_
  refine mr_ldcS (i := 2) C (by decide) rfl dX8_readEdge_38 ?_
  obtain ⟨r30, M28, L29, h1, hD⟩ := g_b3 hD
  refine md_cvI (As := [.ref (G.2.1 1000 2)]) (rest := []) C hw (tX8_optional l G ad fu 2 M25 L26 h1 (by decide : 2 < 8)) kc_8 (by decide) tf_1 wd_1028 cwX8_optional ⟨Nat.le_of_ble_eq_true rfl, Nat.le_of_ble_eq_true rfl⟩ rfl hl.1 (Nat.le_of_ble_eq_true rfl) dX8_readEdge_40 rfl rfl ⟨Nat.zero_le _, Nat.zero_le _⟩ rfl (fun H locs hw => ?_)
  refine lv_if_eq (tgt := 83) C.1.1 C.1.2.1 dX8_readEdge_43 (by decide) (fun c31 => ?_) (fun c31 => ?_)
  · replace hD := g_pos c31 hD
    exact hb83 r12 r18 r24 r27 0 M28 L29 _ _ ls hD hw (lv_sub hl [5, 4, 3, 2, 1, 0] rfl)
  · replace hD := g_neg c31 hD
    refine lv_aload_n C.1.1 C.1.2.1 dX8_readEdge_46 rfl (lv_at hl 5 rfl) ?_
    refine lv_iload_n C.1.1 C.1.2.1 dX8_readEdge_47 rfl (lv_at hl 4 rfl) ?_
    obtain ⟨r34, M32, L33, h1, hD⟩ := g_b3 hD
    refine md_csI (As := [.int r12]) (rest := [.ref (ad 1)]) C hw (tX8_dataOf l G ad fu r12 M28 L29 h1) wd_1032 cwX8_dataOf ⟨Nat.le_of_ble_eq_true rfl, Nat.le_of_ble_eq_true rfl⟩ rfl hl.1 (Nat.le_of_ble_eq_true rfl) dX8_readEdge_48 rfl rfl ⟨Nat.zero_le _, Nat.zero_le _⟩ rfl (fun H locs hw => ?_)
    refine lv_iconst (v := 5) C.1.1 C.1.2.1 dX8_readEdge_51 (by decide) ?_
    obtain ⟨r37, M35, L36, h1, hD⟩ := g_b3 hD
    refine md_cvI (As := [.int r34, .int 5]) (rest := []) C hw (tX8_toldName l G ad fu r34 5 M32 L33 h1) kc_8 (by decide) tf_1 wd_942 cwX8_toldName ⟨Nat.le_of_ble_eq_true rfl, Nat.le_of_ble_eq_true rfl⟩ rfl hl.1 (Nat.le_of_ble_eq_true rfl) dX8_readEdge_52 rfl rfl ⟨Nat.zero_le _, Nat.zero_le _⟩ rfl (fun H locs hw => ?_)
    refine lv_istore (lv' := [(6, .int r37), (5, .int 0), (4, .int r27), (3, .int r24), (2, .int r18), (1, .int r12), (0, .ref (ad 1))]) C.1.1 C.1.2.1 dX8_readEdge_55 hl (by decide) rfl (fun ls hl => ?_)
    refine lv_aload_n C.1.1 C.1.2.1 dX8_readEdge_57 rfl (lv_at hl 6 rfl) ?_
    refine mr_ldcS (i := 3) C (by decide) rfl dX8_readEdge_58 ?_
    obtain ⟨r40, M38, L39, h1, hD⟩ := g_b3 hD
    refine md_cvI (As := [.ref (G.2.1 1000 3)]) (rest := []) C hw (tX8_oneOf l G ad fu 3 M35 L36 h1 (by decide : 3 < 8)) kc_8 (by decide) tf_1 wd_998 cwX8_oneOf ⟨Nat.le_of_ble_eq_true rfl, Nat.le_of_ble_eq_true rfl⟩ rfl hl.1 (Nat.le_of_ble_eq_true rfl) dX8_readEdge_60 rfl rfl ⟨Nat.zero_le _, Nat.zero_le _⟩ rfl (fun H locs hw => ?_)
    refine lv_iconst (v := 1) C.1.1 C.1.2.1 dX8_readEdge_63 (by decide) ?_
    refine lv_iadd C.1.1 C.1.2.1 dX8_readEdge_64 ?_
    obtain ⟨x41, ex41, hD⟩ := g_let hD
    refine W.eq (g2 := F0 m 65 ls (.int x41 :: [])) (by rw [ex41]) ?_
    refine lv_istore (lv' := [(7, .int x41), (6, .int r37), (5, .int 0), (4, .int r27), (3, .int r24), (2, .int r18), (1, .int r12), (0, .ref (ad 1))]) C.1.1 C.1.2.1 dX8_readEdge_65 hl (by decide) rfl (fun ls hl => ?_)
    refine lv_iload C.1.1 C.1.2.1 dX8_readEdge_67 (lv_at hl 0 rfl) ?_
    refine lv_bipush (v := 8) C.1.1 C.1.2.1 dX8_readEdge_69 (by decide) ?_
    refine lv_iload C.1.1 C.1.2.1 dX8_readEdge_71 (lv_at hl 1 rfl) ?_
    refine lv_imul C.1.1 C.1.2.1 dX8_readEdge_73 ?_
    refine lv_iadd C.1.1 C.1.2.1 dX8_readEdge_74 ?_
    refine lv_aload_n C.1.1 C.1.2.1 dX8_readEdge_75 rfl (lv_at hl 7 rfl) ?_
    refine lv_iload_n C.1.1 C.1.2.1 dX8_readEdge_76 rfl (lv_at hl 6 rfl) ?_
    obtain ⟨r44, M42, L43, h1, hD⟩ := g_b3 hD
    refine md_cvI (As := [.int r12]) (rest := [.int (x41 + (8 * r37))]) C hw (tX8_otherOperand l G ad fu r12 M38 L39 h1) kc_8 (by decide) tf_1 wd_1036 cwX8_otherOperand ⟨Nat.le_of_ble_eq_true rfl, Nat.le_of_ble_eq_true rfl⟩ rfl hl.1 (Nat.le_of_ble_eq_true rfl) dX8_readEdge_77 rfl rfl ⟨Nat.zero_le _, Nat.zero_le _⟩ rfl (fun H locs hw => ?_)
    refine lv_iadd C.1.1 C.1.2.1 dX8_readEdge_80 ?_
    obtain ⟨x45, ex45, hD⟩ := g_let hD
    refine W.eq (g2 := F0 m 81 ls (.int x45 :: [])) (by rw [ex45]) ?_
    refine lv_istore (lv' := [(5, .int x45), (7, .int x41), (6, .int r37), (4, .int r27), (3, .int r24), (2, .int r18), (1, .int r12), (0, .ref (ad 1))]) C.1.1 C.1.2.1 dX8_readEdge_81 hl (by decide) rfl (fun ls hl => ?_)
    exact hb83 r12 r18 r24 r27 x45 M42 L43 _ _ ls hD hw (lv_sub hl [7, 6, 5, 4, 3, 0] rfl)

theorem dX8_readAfter_0 : decode cX8_readAfter 0 = .ok (.aload_n 0, 1) := by decide +kernel
theorem dX8_readAfter_1 : decode cX8_readAfter 1 = .ok (.iconst 0, 1) := by decide +kernel
theorem dX8_readAfter_2 : decode cX8_readAfter 2 = .ok (.iconst 2, 1) := by decide +kernel
theorem dX8_readAfter_3 : decode cX8_readAfter 3 = .ok (.invokevirtual 151, 3) := by decide +kernel
theorem dX8_readAfter_6 : decode cX8_readAfter 6 = .ok (.istore_n 1, 1) := by decide +kernel
theorem dX8_readAfter_7 : decode cX8_readAfter 7 = .ok (.aload_n 0, 1) := by decide +kernel
theorem dX8_readAfter_8 : decode cX8_readAfter 8 = .ok (.iload_n 1, 1) := by decide +kernel
theorem dX8_readAfter_9 : decode cX8_readAfter 9 = .ok (.invokestatic 172, 3) := by decide +kernel
theorem dX8_readAfter_12 : decode cX8_readAfter 12 = .ok (.iconst 4, 1) := by decide +kernel
theorem dX8_readAfter_13 : decode cX8_readAfter 13 = .ok (.invokevirtual 151, 3) := by decide +kernel
theorem dX8_readAfter_16 : decode cX8_readAfter 16 = .ok (.istore_n 2, 1) := by decide +kernel
theorem dX8_readAfter_17 : decode cX8_readAfter 17 = .ok (.aload_n 0, 1) := by decide +kernel
theorem dX8_readAfter_18 : decode cX8_readAfter 18 = .ok (.iconst 1, 1) := by decide +kernel
theorem dX8_readAfter_19 : decode cX8_readAfter 19 = .ok (.sipush 20000, 3) := by decide +kernel
theorem dX8_readAfter_22 : decode cX8_readAfter 22 = .ok (.invokevirtual 155, 3) := by decide +kernel
theorem dX8_readAfter_25 : decode cX8_readAfter 25 = .ok (.istore_n 3, 1) := by decide +kernel
theorem dX8_readAfter_26 : decode cX8_readAfter 26 = .ok (.aload_n 0, 1) := by decide +kernel
theorem dX8_readAfter_27 : decode cX8_readAfter 27 = .ok (.invokevirtual 136, 3) := by decide +kernel
theorem dX8_readAfter_30 : decode cX8_readAfter 30 = .ok (.aload_n 0, 1) := by decide +kernel
theorem dX8_readAfter_31 : decode cX8_readAfter 31 = .ok (.getfield 34, 3) := by decide +kernel
theorem dX8_readAfter_34 : decode cX8_readAfter 34 = .ok (.ifCond .ne 21, 3) := by decide +kernel
theorem dX8_readAfter_37 : decode cX8_readAfter 37 = .ok (.aload_n 0, 1) := by decide +kernel
theorem dX8_readAfter_38 : decode cX8_readAfter 38 = .ok (.aload_n 0, 1) := by decide +kernel
theorem dX8_readAfter_39 : decode cX8_readAfter 39 = .ok (.getfield 18, 3) := by decide +kernel
theorem dX8_readAfter_42 : decode cX8_readAfter 42 = .ok (.getfield 183, 3) := by decide +kernel
theorem dX8_readAfter_45 : decode cX8_readAfter 45 = .ok (.iload_n 1, 1) := by decide +kernel
theorem dX8_readAfter_46 : decode cX8_readAfter 46 = .ok (.aaload, 1) := by decide +kernel
theorem dX8_readAfter_47 : decode cX8_readAfter 47 = .ok (.iload_n 2, 1) := by decide +kernel
theorem dX8_readAfter_48 : decode cX8_readAfter 48 = .ok (.iload_n 3, 1) := by decide +kernel
theorem dX8_readAfter_49 : decode cX8_readAfter 49 = .ok (.invokevirtual 214, 3) := by decide +kernel
theorem dX8_readAfter_52 : decode cX8_readAfter 52 = .ok (.invokevirtual 190, 3) := by decide +kernel
theorem dX8_readAfter_55 : decode cX8_readAfter 55 = .ok (.return_, 1) := by decide +kernel
theorem cwX8_readAfter : mw_cwV yX8_readAfter cX8_readAfter 4 (none) 0 := ⟨⟨wd_2, wd_1047, by decide +kernel⟩, wd_1046, sl_35⟩
set_option maxHeartbeats 4000000 in
set_option maxRecDepth 100000 in
theorem tX8_readAfter (l : Launch) (G : mwG) (ad : Nat → Nat) (fu : Nat) (M : mwM) (L : mwL) {M0 : mwM} {L0 : mwL} (hD : DX8_readAfter fu M L = some (M0, L0)) : Met l yX8_readAfter (Cond.code yX8_readAfter cX8_readAfter 4 (none) :: GT) ({ frames := 4, cells := 0, slots := 0, locals := 87 }) (mw_Pre G ad NF TF FF M L [.ref (ad 1)]) (mw_Qv G ad NF TF FF (mw_eqV M0 L0)) 0 0 (mw_fr G) := by
  refine mw_enter (by decide) (Nat.le_of_ble_eq_true rfl) ?_
  intro p e s m below meth c ls C hr hlocks hnm hw hl
  have hl : lv_has ls 4 [(0, .ref (ad 1))] := hl
  have hb55 : ∀ (M : mwM) (L : mwL) (H : Heap) (locs : List Loc) (ls : Array Slot), fX8_readAfter_b55 fu M L = some (M0, L0) → mw_W G ad NF TF FF M L H locs → lv_has ls 4 [] → W p l e ({ frames := 4, cells := 0, slots := 0, locals := 87 }) s m [.ref (ad 1)].toArray below meth c H locs 0 0 (MQ below (mw_Qv G ad NF TF FF (mw_eqV M0 L0)) [.ref (ad 1)].toArray s 0 0 (mw_fr G)) (F0 m 55 ls []) := by
    intro M L H locs ls hD hw hl
    unfold fX8_readAfter_b55 at hD
    exact mr_vret C hr hlocks hw (Option.some.inj hD) dX8_readAfter_55
  unfold DX8_readAfter at hD
  refine lv_aload_n C.1.1 C.1.2.1 dX8_readAfter_0 rfl (lv_at hl 0 rfl) ?_
  refine lv_iconst (v := 0) C.1.1 C.1.2.1 dX8_readAfter_1 (by decide) ?_
  refine lv_iconst (v := 2) C.1.1 C.1.2.1 dX8_readAfter_2 (by decide) ?_
  obtain ⟨r3, M1, L2, h1, hD⟩ := g_b3 hD
  refine md_cvI (As := [.int 0, .int 2]) (rest := []) C hw (tX8_toldName l G ad fu 0 2 M L h1) kc_8 (by decide) tf_1 wd_942 cwX8_toldName ⟨Nat.le_of_ble_eq_true rfl, Nat.le_of_ble_eq_true rfl⟩ rfl hl.1 (Nat.le_of_ble_eq_true rfl) dX8_readAfter_3 rfl rfl ⟨Nat.zero_le _, Nat.zero_le _⟩ rfl (fun H locs hw => ?_)
  refine lv_istore_n (lv' := [(1, .int r3), (0, .ref (ad 1))]) C.1.1 C.1.2.1 dX8_readAfter_6 rfl hl (by decide) rfl (fun ls hl => ?_)
  refine lv_aload_n C.1.1 C.1.2.1 dX8_readAfter_7 rfl (lv_at hl 1 rfl) ?_
  refine lv_iload_n C.1.1 C.1.2.1 dX8_readAfter_8 rfl (lv_at hl 0 rfl) ?_
  obtain ⟨r6, M4, L5, h1, hD⟩ := g_b3 hD
  refine md_csI (As := [.int r3]) (rest := [.ref (ad 1)]) C hw (tX8_statesOf l G ad fu r3 M1 L2 h1) wd_990 cwX8_statesOf ⟨Nat.le_of_ble_eq_true rfl, Nat.le_of_ble_eq_true rfl⟩ rfl hl.1 (Nat.le_of_ble_eq_true rfl) dX8_readAfter_9 rfl rfl ⟨Nat.zero_le _, Nat.zero_le _⟩ rfl (fun H locs hw => ?_)
  refine lv_iconst (v := 4) C.1.1 C.1.2.1 dX8_readAfter_12 (by decide) ?_
  obtain ⟨r9, M7, L8, h1, hD⟩ := g_b3 hD
  refine md_cvI (As := [.int r6, .int 4]) (rest := []) C hw (tX8_toldName l G ad fu r6 4 M4 L5 h1) kc_8 (by decide) tf_1 wd_942 cwX8_toldName ⟨Nat.le_of_ble_eq_true rfl, Nat.le_of_ble_eq_true rfl⟩ rfl hl.1 (Nat.le_of_ble_eq_true rfl) dX8_readAfter_13 rfl rfl ⟨Nat.zero_le _, Nat.zero_le _⟩ rfl (fun H locs hw => ?_)
  refine lv_istore_n (lv' := [(2, .int r9), (1, .int r3), (0, .ref (ad 1))]) C.1.1 C.1.2.1 dX8_readAfter_16 rfl hl (by decide) rfl (fun ls hl => ?_)
  refine lv_aload_n C.1.1 C.1.2.1 dX8_readAfter_17 rfl (lv_at hl 2 rfl) ?_
  refine lv_iconst (v := 1) C.1.1 C.1.2.1 dX8_readAfter_18 (by decide) ?_
  refine lv_sipush (v := 20000) C.1.1 C.1.2.1 dX8_readAfter_19 (by decide) ?_
  obtain ⟨r12, M10, L11, h1, hD⟩ := g_b3 hD
  refine md_cvI (As := [.int 1, .int 20000]) (rest := []) C hw (tX8_number l G ad fu 1 20000 M7 L8 h1) kc_8 (by decide) tf_1 wd_950 cwX8_number ⟨Nat.le_of_ble_eq_true rfl, Nat.le_of_ble_eq_true rfl⟩ rfl hl.1 (Nat.le_of_ble_eq_true rfl) dX8_readAfter_22 rfl rfl ⟨Nat.zero_le _, Nat.zero_le _⟩ rfl (fun H locs hw => ?_)
  refine lv_istore_n (lv' := [(3, .int r12), (2, .int r9), (1, .int r3), (0, .ref (ad 1))]) C.1.1 C.1.2.1 dX8_readAfter_25 rfl hl (by decide) rfl (fun ls hl => ?_)
  refine lv_aload_n C.1.1 C.1.2.1 dX8_readAfter_26 rfl (lv_at hl 3 rfl) ?_
  obtain ⟨M13, L14, h1, hD⟩ := g_b2 hD
  refine md_cvV (As := []) (rest := []) C hw (tX8_endLine l G ad fu M10 L11 h1) kc_8 (by decide) tf_1 wd_930 cwX8_endLine ⟨Nat.le_of_ble_eq_true rfl, Nat.le_of_ble_eq_true rfl⟩ rfl hl.1 (Nat.le_of_ble_eq_true rfl) dX8_readAfter_27 rfl rfl ⟨Nat.zero_le _, Nat.zero_le _⟩ rfl (fun H locs hw => ?_)
  refine lv_aload_n C.1.1 C.1.2.1 dX8_readAfter_30 rfl (lv_at hl 3 rfl) ?_
  refine mr_getI C hw kc_8 12 (by decide) tf_1 wd_607 dX8_readAfter_31 (by decide) rfl ?_
  refine lv_if_ne (tgt := 55) C.1.1 C.1.2.1 dX8_readAfter_34 (by decide) (fun c15 => ?_) (fun c15 => ?_)
  · replace hD := g_neg c15 hD
    exact hb55 M13 L14 _ _ ls hD hw (lv_sub hl [] rfl)
  · replace hD := g_pos c15 hD
    refine lv_aload_n C.1.1 C.1.2.1 dX8_readAfter_37 rfl (lv_at hl 3 rfl) ?_
    refine lv_aload_n C.1.1 C.1.2.1 dX8_readAfter_38 rfl (lv_at hl 3 rfl) ?_
    refine mr_getR C hw kc_8 1 (by decide) tf_1 ff_1_1 wd_595 dX8_readAfter_39 (by decide) rfl ?_
    refine mr_getNR C hw kc_1 0 (by decide) tf_3 ff_3_0 nd_512 dX8_readAfter_42 (by decide) rfl ?_
    refine lv_iload_n C.1.1 C.1.2.1 dX8_readAfter_45 rfl (lv_at hl 2 rfl) ?_
    obtain ⟨q16, hD⟩ := g_ck hD
    refine mr_aald C hw (by decide) tf_4 (by decide) (by decide) rfl rfl q16 (fr_4 _ (g_lt q16)) dX8_readAfter_46 ?_
    refine lv_iload_n C.1.1 C.1.2.1 dX8_readAfter_47 rfl (lv_at hl 1 rfl) ?_
    refine lv_iload_n C.1.1 C.1.2.1 dX8_readAfter_48 rfl (lv_at hl 0 rfl) ?_
    obtain ⟨r19, M17, L18, h1, hD⟩ := g_b3 hD
    refine md_cvI (As := [.int r9, .int r12]) (rest := [.ref (ad 1)]) C hw (tX2_setTicks l G ad fu ((293 + 36 * r3.toNatClampNeg)) r9 r12 M13 L14 h1 (isCh_of (g_lt q16))) kc_2 (Ch_N0 (isCh_of (g_lt q16))) (Ch_T0 (isCh_of (g_lt q16))) wd_1048 cwX2_setTicks ⟨Nat.le_of_ble_eq_true rfl, Nat.le_of_ble_eq_true rfl⟩ rfl hl.1 (Nat.le_of_ble_eq_true rfl) dX8_readAfter_49 rfl rfl ⟨Nat.zero_le _, Nat.zero_le _⟩ rfl (fun H locs hw => ?_)
    obtain ⟨M20, L21, h1, hD⟩ := g_b2 hD
    refine md_cvV (As := [.int r19]) (rest := []) C hw (tX8_heed l G ad fu r19 M17 L18 h1) kc_8 (by decide) tf_1 wd_1014 cwX8_heed ⟨Nat.le_of_ble_eq_true rfl, Nat.le_of_ble_eq_true rfl⟩ rfl hl.1 (Nat.le_of_ble_eq_true rfl) dX8_readAfter_52 rfl rfl ⟨Nat.zero_le _, Nat.zero_le _⟩ rfl (fun H locs hw => ?_)
    exact hb55 M20 L21 _ _ ls hD hw (lv_sub hl [] rfl)

theorem dX8_readDatum_0 : decode cX8_readDatum 0 = .ok (.aload_n 0, 1) := by decide +kernel
theorem dX8_readDatum_1 : decode cX8_readDatum 1 = .ok (.iconst 0, 1) := by decide +kernel
theorem dX8_readDatum_2 : decode cX8_readDatum 2 = .ok (.iconst 2, 1) := by decide +kernel
theorem dX8_readDatum_3 : decode cX8_readDatum 3 = .ok (.invokevirtual 151, 3) := by decide +kernel
theorem dX8_readDatum_6 : decode cX8_readDatum 6 = .ok (.istore_n 1, 1) := by decide +kernel
theorem dX8_readDatum_7 : decode cX8_readDatum 7 = .ok (.aload_n 0, 1) := by decide +kernel
theorem dX8_readDatum_8 : decode cX8_readDatum 8 = .ok (.iload_n 1, 1) := by decide +kernel
theorem dX8_readDatum_9 : decode cX8_readDatum 9 = .ok (.invokestatic 202, 3) := by decide +kernel
theorem dX8_readDatum_12 : decode cX8_readDatum 12 = .ok (.iconst 0, 1) := by decide +kernel
theorem dX8_readDatum_13 : decode cX8_readDatum 13 = .ok (.iconst 1, 1) := by decide +kernel
theorem dX8_readDatum_14 : decode cX8_readDatum 14 = .ok (.invokevirtual 132, 3) := by decide +kernel
theorem dX8_readDatum_17 : decode cX8_readDatum 17 = .ok (.aload_n 0, 1) := by decide +kernel
theorem dX8_readDatum_18 : decode cX8_readDatum 18 = .ok (.ldc 217, 2) := by decide +kernel
theorem dX8_readDatum_20 : decode cX8_readDatum 20 = .ok (.ldc 218, 2) := by decide +kernel
theorem dX8_readDatum_22 : decode cX8_readDatum 22 = .ok (.invokevirtual 155, 3) := by decide +kernel
theorem dX8_readDatum_25 : decode cX8_readDatum 25 = .ok (.istore_n 2, 1) := by decide +kernel
theorem dX8_readDatum_26 : decode cX8_readDatum 26 = .ok (.aload_n 0, 1) := by decide +kernel
theorem dX8_readDatum_27 : decode cX8_readDatum 27 = .ok (.invokevirtual 136, 3) := by decide +kernel
theorem dX8_readDatum_30 : decode cX8_readDatum 30 = .ok (.aload_n 0, 1) := by decide +kernel
theorem dX8_readDatum_31 : decode cX8_readDatum 31 = .ok (.getfield 34, 3) := by decide +kernel
theorem dX8_readDatum_34 : decode cX8_readDatum 34 = .ok (.ifCond .ne 32, 3) := by decide +kernel
theorem dX8_readDatum_37 : decode cX8_readDatum 37 = .ok (.aload_n 0, 1) := by decide +kernel
theorem dX8_readDatum_38 : decode cX8_readDatum 38 = .ok (.getfield 18, 3) := by decide +kernel
theorem dX8_readDatum_41 : decode cX8_readDatum 41 = .ok (.getfield 183, 3) := by decide +kernel
theorem dX8_readDatum_44 : decode cX8_readDatum 44 = .ok (.iload_n 1, 1) := by decide +kernel
theorem dX8_readDatum_45 : decode cX8_readDatum 45 = .ok (.aaload, 1) := by decide +kernel
theorem dX8_readDatum_46 : decode cX8_readDatum 46 = .ok (.iload_n 2, 1) := by decide +kernel
theorem dX8_readDatum_47 : decode cX8_readDatum 47 = .ok (.invokevirtual 219, 3) := by decide +kernel
theorem dX8_readDatum_50 : decode cX8_readDatum 50 = .ok (.istore_n 3, 1) := by decide +kernel
theorem dX8_readDatum_51 : decode cX8_readDatum 51 = .ok (.aload_n 0, 1) := by decide +kernel
theorem dX8_readDatum_52 : decode cX8_readDatum 52 = .ok (.iload_n 3, 1) := by decide +kernel
theorem dX8_readDatum_53 : decode cX8_readDatum 53 = .ok (.invokevirtual 190, 3) := by decide +kernel
theorem dX8_readDatum_56 : decode cX8_readDatum 56 = .ok (.aload_n 0, 1) := by decide +kernel
theorem dX8_readDatum_57 : decode cX8_readDatum 57 = .ok (.iload_n 1, 1) := by decide +kernel
theorem dX8_readDatum_58 : decode cX8_readDatum 58 = .ok (.invokestatic 202, 3) := by decide +kernel
theorem dX8_readDatum_61 : decode cX8_readDatum 61 = .ok (.iconst 5, 1) := by decide +kernel
theorem dX8_readDatum_62 : decode cX8_readDatum 62 = .ok (.iload_n 3, 1) := by decide +kernel
theorem dX8_readDatum_63 : decode cX8_readDatum 63 = .ok (.invokevirtual 139, 3) := by decide +kernel
theorem dX8_readDatum_66 : decode cX8_readDatum 66 = .ok (.return_, 1) := by decide +kernel
theorem cwX8_readDatum : mw_cwV yX8_readDatum cX8_readDatum 4 (none) 0 := ⟨⟨wd_2, wd_1055, by decide +kernel⟩, wd_1054, sl_36⟩
set_option maxHeartbeats 4000000 in
set_option maxRecDepth 100000 in
theorem tX8_readDatum (l : Launch) (G : mwG) (ad : Nat → Nat) (fu : Nat) (M : mwM) (L : mwL) {M0 : mwM} {L0 : mwL} (hD : DX8_readDatum fu M L = some (M0, L0)) : Met l yX8_readDatum (Cond.code yX8_readDatum cX8_readDatum 4 (none) :: GT) ({ frames := 7, cells := 0, slots := 0, locals := 152 }) (mw_Pre G ad NF TF FF M L [.ref (ad 1)]) (mw_Qv G ad NF TF FF (mw_eqV M0 L0)) 0 0 (mw_fr G) := by
  refine mw_enter (by decide) (Nat.le_of_ble_eq_true rfl) ?_
  intro p e s m below meth c ls C hr hlocks hnm hw hl
  have hl : lv_has ls 4 [(0, .ref (ad 1))] := hl
  have hb66 : ∀ (M : mwM) (L : mwL) (H : Heap) (locs : List Loc) (ls : Array Slot), fX8_readDatum_b66 fu M L = some (M0, L0) → mw_W G ad NF TF FF M L H locs → lv_has ls 4 [] → W p l e ({ frames := 7, cells := 0, slots := 0, locals := 152 }) s m [.ref (ad 1)].toArray below meth c H locs 0 0 (MQ below (mw_Qv G ad NF TF FF (mw_eqV M0 L0)) [.ref (ad 1)].toArray s 0 0 (mw_fr G)) (F0 m 66 ls []) := by
    intro M L H locs ls hD hw hl
    unfold fX8_readDatum_b66 at hD
    exact mr_vret C hr hlocks hw (Option.some.inj hD) dX8_readDatum_66
  unfold DX8_readDatum at hD
  refine lv_aload_n C.1.1 C.1.2.1 dX8_readDatum_0 rfl (lv_at hl 0 rfl) ?_
  refine lv_iconst (v := 0) C.1.1 C.1.2.1 dX8_readDatum_1 (by decide) ?_
  refine lv_iconst (v := 2) C.1.1 C.1.2.1 dX8_readDatum_2 (by decide) ?_
  obtain ⟨r3, M1, L2, h1, hD⟩ := g_b3 hD
  refine md_cvI (As := [.int 0, .int 2]) (rest := []) C hw (tX8_toldName l G ad fu 0 2 M L h1) kc_8 (by decide) tf_1 wd_942 cwX8_toldName ⟨Nat.le_of_ble_eq_true rfl, Nat.le_of_ble_eq_true rfl⟩ rfl hl.1 (Nat.le_of_ble_eq_true rfl) dX8_readDatum_3 rfl rfl ⟨Nat.zero_le _, Nat.zero_le _⟩ rfl (fun H locs hw => ?_)
  refine lv_istore_n (lv' := [(1, .int r3), (0, .ref (ad 1))]) C.1.1 C.1.2.1 dX8_readDatum_6 rfl hl (by decide) rfl (fun ls hl => ?_)
  refine lv_aload_n C.1.1 C.1.2.1 dX8_readDatum_7 rfl (lv_at hl 1 rfl) ?_
  refine lv_iload_n C.1.1 C.1.2.1 dX8_readDatum_8 rfl (lv_at hl 0 rfl) ?_
  obtain ⟨r6, M4, L5, h1, hD⟩ := g_b3 hD
  refine md_csI (As := [.int r3]) (rest := [.ref (ad 1)]) C hw (tX8_dataOf l G ad fu r3 M1 L2 h1) wd_1032 cwX8_dataOf ⟨Nat.le_of_ble_eq_true rfl, Nat.le_of_ble_eq_true rfl⟩ rfl hl.1 (Nat.le_of_ble_eq_true rfl) dX8_readDatum_9 rfl rfl ⟨Nat.zero_le _, Nat.zero_le _⟩ rfl (fun H locs hw => ?_)
  refine lv_iconst (v := 0) C.1.1 C.1.2.1 dX8_readDatum_12 (by decide) ?_
  refine lv_iconst (v := 1) C.1.1 C.1.2.1 dX8_readDatum_13 (by decide) ?_
  obtain ⟨M7, L8, h1, hD⟩ := g_b2 hD
  refine md_cvV (As := [.int r6, .int 0, .int 1]) (rest := []) C hw (tX8_newName l G ad fu r6 0 1 M4 L5 h1) kc_8 (by decide) tf_1 wd_899 cwX8_newName ⟨Nat.le_of_ble_eq_true rfl, Nat.le_of_ble_eq_true rfl⟩ rfl hl.1 (Nat.le_of_ble_eq_true rfl) dX8_readDatum_14 rfl rfl ⟨Nat.zero_le _, Nat.zero_le _⟩ rfl (fun H locs hw => ?_)
  refine lv_aload_n C.1.1 C.1.2.1 dX8_readDatum_17 rfl (lv_at hl 1 rfl) ?_
  refine lv_ldc (v := (-999999999)) C.1.1 C.1.2.1 C.1.2.2.2.1 (C.1.2.2.2.2 _ wd_1056) dX8_readDatum_18 ?_
  refine lv_ldc (v := 999999999) C.1.1 C.1.2.1 C.1.2.2.2.1 (C.1.2.2.2.2 _ wd_1057) dX8_readDatum_20 ?_
  obtain ⟨r11, M9, L10, h1, hD⟩ := g_b3 hD
  refine md_cvI (As := [.int ((-999999999)), .int 999999999]) (rest := []) C hw (tX8_number l G ad fu ((-999999999)) 999999999 M7 L8 h1) kc_8 (by decide) tf_1 wd_950 cwX8_number ⟨Nat.le_of_ble_eq_true rfl, Nat.le_of_ble_eq_true rfl⟩ rfl hl.1 (Nat.le_of_ble_eq_true rfl) dX8_readDatum_22 rfl rfl ⟨Nat.zero_le _, Nat.zero_le _⟩ rfl (fun H locs hw => ?_)
  refine lv_istore_n (lv' := [(2, .int r11), (1, .int r3), (0, .ref (ad 1))]) C.1.1 C.1.2.1 dX8_readDatum_25 rfl hl (by decide) rfl (fun ls hl => ?_)
  refine lv_aload_n C.1.1 C.1.2.1 dX8_readDatum_26 rfl (lv_at hl 2 rfl) ?_
  obtain ⟨M12, L13, h1, hD⟩ := g_b2 hD
  refine md_cvV (As := []) (rest := []) C hw (tX8_endLine l G ad fu M9 L10 h1) kc_8 (by decide) tf_1 wd_930 cwX8_endLine ⟨Nat.le_of_ble_eq_true rfl, Nat.le_of_ble_eq_true rfl⟩ rfl hl.1 (Nat.le_of_ble_eq_true rfl) dX8_readDatum_27 rfl rfl ⟨Nat.zero_le _, Nat.zero_le _⟩ rfl (fun H locs hw => ?_)
  refine lv_aload_n C.1.1 C.1.2.1 dX8_readDatum_30 rfl (lv_at hl 2 rfl) ?_
  refine mr_getI C hw kc_8 12 (by decide) tf_1 wd_607 dX8_readDatum_31 (by decide) rfl ?_
  refine lv_if_ne (tgt := 66) C.1.1 C.1.2.1 dX8_readDatum_34 (by decide) (fun c14 => ?_) (fun c14 => ?_)
  · replace hD := g_neg c14 hD
    exact hb66 M12 L13 _ _ ls hD hw (lv_sub hl [] rfl)
  · replace hD := g_pos c14 hD
    refine lv_aload_n C.1.1 C.1.2.1 dX8_readDatum_37 rfl (lv_at hl 2 rfl) ?_
    refine mr_getR C hw kc_8 1 (by decide) tf_1 ff_1_1 wd_595 dX8_readDatum_38 (by decide) rfl ?_
    refine mr_getNR C hw kc_1 0 (by decide) tf_3 ff_3_0 nd_512 dX8_readDatum_41 (by decide) rfl ?_
    refine lv_iload_n C.1.1 C.1.2.1 dX8_readDatum_44 rfl (lv_at hl 1 rfl) ?_
    obtain ⟨q15, hD⟩ := g_ck hD
    refine mr_aald C hw (by decide) tf_4 (by decide) (by decide) rfl rfl q15 (fr_4 _ (g_lt q15)) dX8_readDatum_45 ?_
    refine lv_iload_n C.1.1 C.1.2.1 dX8_readDatum_46 rfl (lv_at hl 0 rfl) ?_
    obtain ⟨r18, M16, L17, h1, hD⟩ := g_b3 hD
    refine md_cvI (As := [.int r11]) (rest := []) C hw (tX2_addDatum l G ad fu ((293 + 36 * r3.toNatClampNeg)) r11 M12 L13 h1 (isCh_of (g_lt q15))) kc_2 (Ch_N0 (isCh_of (g_lt q15))) (Ch_T0 (isCh_of (g_lt q15))) wd_1058 cwX2_addDatum ⟨Nat.le_of_ble_eq_true rfl, Nat.le_of_ble_eq_true rfl⟩ rfl hl.1 (Nat.le_of_ble_eq_true rfl) dX8_readDatum_47 rfl rfl ⟨Nat.zero_le _, Nat.zero_le _⟩ rfl (fun H locs hw => ?_)
    refine lv_istore_n (lv' := [(3, .int r18), (2, .int r11), (1, .int r3), (0, .ref (ad 1))]) C.1.1 C.1.2.1 dX8_readDatum_50 rfl hl (by decide) rfl (fun ls hl => ?_)
    refine lv_aload_n C.1.1 C.1.2.1 dX8_readDatum_51 rfl (lv_at hl 3 rfl) ?_
    refine lv_iload_n C.1.1 C.1.2.1 dX8_readDatum_52 rfl (lv_at hl 0 rfl) ?_
    obtain ⟨M19, L20, h1, hD⟩ := g_b2 hD
    refine md_cvV (As := [.int r18]) (rest := []) C hw (tX8_heed l G ad fu r18 M16 L17 h1) kc_8 (by decide) tf_1 wd_1014 cwX8_heed ⟨Nat.le_of_ble_eq_true rfl, Nat.le_of_ble_eq_true rfl⟩ rfl hl.1 (Nat.le_of_ble_eq_true rfl) dX8_readDatum_53 rfl rfl ⟨Nat.zero_le _, Nat.zero_le _⟩ rfl (fun H locs hw => ?_)
    refine lv_aload_n C.1.1 C.1.2.1 dX8_readDatum_56 rfl (lv_at hl 3 rfl) ?_
    refine lv_iload_n C.1.1 C.1.2.1 dX8_readDatum_57 rfl (lv_at hl 2 rfl) ?_
    obtain ⟨r23, M21, L22, h1, hD⟩ := g_b3 hD
    refine md_csI (As := [.int r3]) (rest := [.ref (ad 1)]) C hw (tX8_dataOf l G ad fu r3 M19 L20 h1) wd_1032 cwX8_dataOf ⟨Nat.le_of_ble_eq_true rfl, Nat.le_of_ble_eq_true rfl⟩ rfl hl.1 (Nat.le_of_ble_eq_true rfl) dX8_readDatum_58 rfl rfl ⟨Nat.zero_le _, Nat.zero_le _⟩ rfl (fun H locs hw => ?_)
    refine lv_iconst (v := 5) C.1.1 C.1.2.1 dX8_readDatum_61 (by decide) ?_
    refine lv_iload_n C.1.1 C.1.2.1 dX8_readDatum_62 rfl (lv_at hl 0 rfl) ?_
    obtain ⟨M24, L25, h1, hD⟩ := g_b2 hD
    refine md_cvV (As := [.int r23, .int 5, .int r18]) (rest := []) C hw (tX8_keepName l G ad fu r23 5 r18 M21 L22 h1) kc_8 (by decide) tf_1 wd_934 cwX8_keepName ⟨Nat.le_of_ble_eq_true rfl, Nat.le_of_ble_eq_true rfl⟩ rfl hl.1 (Nat.le_of_ble_eq_true rfl) dX8_readDatum_63 rfl rfl ⟨Nat.zero_le _, Nat.zero_le _⟩ rfl (fun H locs hw => ?_)
    exact hb66 M24 L25 _ _ ls hD hw (lv_sub hl [] rfl)

theorem dX8_readAct_0 : decode cX8_readAct 0 = .ok (.aload_n 0, 1) := by decide +kernel
theorem dX8_readAct_1 : decode cX8_readAct 1 = .ok (.iconst 0, 1) := by decide +kernel
theorem dX8_readAct_2 : decode cX8_readAct 2 = .ok (.iconst 2, 1) := by decide +kernel
theorem dX8_readAct_3 : decode cX8_readAct 3 = .ok (.invokevirtual 151, 3) := by decide +kernel
theorem dX8_readAct_6 : decode cX8_readAct 6 = .ok (.istore_n 2, 1) := by decide +kernel
theorem dX8_readAct_7 : decode cX8_readAct 7 = .ok (.iload_n 1, 1) := by decide +kernel
theorem dX8_readAct_8 : decode cX8_readAct 8 = .ok (.iconst 2, 1) := by decide +kernel
theorem dX8_readAct_9 : decode cX8_readAct 9 = .ok (.if_icmp .ne 18, 3) := by decide +kernel
theorem dX8_readAct_12 : decode cX8_readAct 12 = .ok (.aload_n 0, 1) := by decide +kernel
theorem dX8_readAct_13 : decode cX8_readAct 13 = .ok (.getfield 18, 3) := by decide +kernel
theorem dX8_readAct_16 : decode cX8_readAct 16 = .ok (.getfield 183, 3) := by decide +kernel
theorem dX8_readAct_19 : decode cX8_readAct 19 = .ok (.iload_n 2, 1) := by decide +kernel
theorem dX8_readAct_20 : decode cX8_readAct 20 = .ok (.aaload, 1) := by decide +kernel
theorem dX8_readAct_21 : decode cX8_readAct 21 = .ok (.getfield 222, 3) := by decide +kernel
theorem dX8_readAct_24 : decode cX8_readAct 24 = .ok (.goto 12, 3) := by decide +kernel
theorem dX8_readAct_27 : decode cX8_readAct 27 = .ok (.aload_n 0, 1) := by decide +kernel
theorem dX8_readAct_28 : decode cX8_readAct 28 = .ok (.iload_n 2, 1) := by decide +kernel
theorem dX8_readAct_29 : decode cX8_readAct 29 = .ok (.invokestatic 172, 3) := by decide +kernel
theorem dX8_readAct_32 : decode cX8_readAct 32 = .ok (.iconst 4, 1) := by decide +kernel
theorem dX8_readAct_33 : decode cX8_readAct 33 = .ok (.invokevirtual 151, 3) := by decide +kernel
theorem dX8_readAct_36 : decode cX8_readAct 36 = .ok (.istore_n 3, 1) := by decide +kernel
theorem dX8_readAct_37 : decode cX8_readAct 37 = .ok (.aload_n 0, 1) := by decide +kernel
theorem dX8_readAct_38 : decode cX8_readAct 38 = .ok (.iload_n 2, 1) := by decide +kernel
theorem dX8_readAct_39 : decode cX8_readAct 39 = .ok (.invokestatic 202, 3) := by decide +kernel
theorem dX8_readAct_42 : decode cX8_readAct 42 = .ok (.iconst 5, 1) := by decide +kernel
theorem dX8_readAct_43 : decode cX8_readAct 43 = .ok (.invokevirtual 151, 3) := by decide +kernel
theorem dX8_readAct_46 : decode cX8_readAct 46 = .ok (.istore 4, 2) := by decide +kernel
theorem dX8_readAct_48 : decode cX8_readAct 48 = .ok (.aload_n 0, 1) := by decide +kernel
theorem dX8_readAct_49 : decode cX8_readAct 49 = .ok (.ldc 217, 2) := by decide +kernel
theorem dX8_readAct_51 : decode cX8_readAct 51 = .ok (.ldc 218, 2) := by decide +kernel
theorem dX8_readAct_53 : decode cX8_readAct 53 = .ok (.invokevirtual 155, 3) := by decide +kernel
theorem dX8_readAct_56 : decode cX8_readAct 56 = .ok (.istore 5, 2) := by decide +kernel
theorem dX8_readAct_58 : decode cX8_readAct 58 = .ok (.aload_n 0, 1) := by decide +kernel
theorem dX8_readAct_59 : decode cX8_readAct 59 = .ok (.ldc 225, 2) := by decide +kernel
theorem dX8_readAct_61 : decode cX8_readAct 61 = .ok (.invokevirtual 198, 3) := by decide +kernel
theorem dX8_readAct_64 : decode cX8_readAct 64 = .ok (.istore 6, 2) := by decide +kernel
theorem dX8_readAct_66 : decode cX8_readAct 66 = .ok (.aload_n 0, 1) := by decide +kernel
theorem dX8_readAct_67 : decode cX8_readAct 67 = .ok (.invokevirtual 136, 3) := by decide +kernel
theorem dX8_readAct_70 : decode cX8_readAct 70 = .ok (.aload_n 0, 1) := by decide +kernel
theorem dX8_readAct_71 : decode cX8_readAct 71 = .ok (.getfield 34, 3) := by decide +kernel
theorem dX8_readAct_74 : decode cX8_readAct 74 = .ok (.ifCond .ne 27, 3) := by decide +kernel
theorem dX8_readAct_77 : decode cX8_readAct 77 = .ok (.aload_n 0, 1) := by decide +kernel
theorem dX8_readAct_78 : decode cX8_readAct 78 = .ok (.aload_n 0, 1) := by decide +kernel
theorem dX8_readAct_79 : decode cX8_readAct 79 = .ok (.getfield 18, 3) := by decide +kernel
theorem dX8_readAct_82 : decode cX8_readAct 82 = .ok (.getfield 183, 3) := by decide +kernel
theorem dX8_readAct_85 : decode cX8_readAct 85 = .ok (.iload_n 2, 1) := by decide +kernel
theorem dX8_readAct_86 : decode cX8_readAct 86 = .ok (.aaload, 1) := by decide +kernel
theorem dX8_readAct_87 : decode cX8_readAct 87 = .ok (.iload_n 3, 1) := by decide +kernel
theorem dX8_readAct_88 : decode cX8_readAct 88 = .ok (.iload_n 1, 1) := by decide +kernel
theorem dX8_readAct_89 : decode cX8_readAct 89 = .ok (.iload 4, 2) := by decide +kernel
theorem dX8_readAct_91 : decode cX8_readAct 91 = .ok (.iload 5, 2) := by decide +kernel
theorem dX8_readAct_93 : decode cX8_readAct 93 = .ok (.iload 6, 2) := by decide +kernel
theorem dX8_readAct_95 : decode cX8_readAct 95 = .ok (.invokevirtual 227, 3) := by decide +kernel
theorem dX8_readAct_98 : decode cX8_readAct 98 = .ok (.invokevirtual 190, 3) := by decide +kernel
theorem dX8_readAct_101 : decode cX8_readAct 101 = .ok (.return_, 1) := by decide +kernel
theorem cwX8_readAct : mw_cwV yX8_readAct cX8_readAct 7 (none) 1 := ⟨⟨wd_2, wd_1065, by decide +kernel⟩, wd_1064, sl_37⟩
set_option maxHeartbeats 4000000 in
set_option maxRecDepth 100000 in
theorem tX8_readAct (l : Launch) (G : mwG) (ad : Nat → Nat) (fu : Nat) (a1 : Int32) (M : mwM) (L : mwL) {M0 : mwM} {L0 : mwL} (hD : DX8_readAct fu a1 M L = some (M0, L0)) : Met l yX8_readAct (Cond.code yX8_readAct cX8_readAct 7 (none) :: GT) ({ frames := 7, cells := 0, slots := 0, locals := 150 }) (mw_Pre G ad NF TF FF M L [.ref (ad 1), .int a1]) (mw_Qv G ad NF TF FF (mw_eqV M0 L0)) 0 0 (mw_fr G) := by
  refine mw_enter (by decide) (Nat.le_of_ble_eq_true rfl) ?_
  intro p e s m below meth c ls C hr hlocks hnm hw hl
  have hl : lv_has ls 7 [(0, .ref (ad 1)), (1, .int a1)] := hl
  have hb101 : ∀ (M : mwM) (L : mwL) (H : Heap) (locs : List Loc) (ls : Array Slot), fX8_readAct_b101 fu a1 M L = some (M0, L0) → mw_W G ad NF TF FF M L H locs → lv_has ls 7 [] → W p l e ({ frames := 7, cells := 0, slots := 0, locals := 150 }) s m [.ref (ad 1), .int a1].toArray below meth c H locs 0 0 (MQ below (mw_Qv G ad NF TF FF (mw_eqV M0 L0)) [.ref (ad 1), .int a1].toArray s 0 0 (mw_fr G)) (F0 m 101 ls []) := by
    intro M L H locs ls hD hw hl
    unfold fX8_readAct_b101 at hD
    exact mr_vret C hr hlocks hw (Option.some.inj hD) dX8_readAct_101
  have hb36 : ∀ (v2 : Int32) (s0 : Int32) (M : mwM) (L : mwL) (H : Heap) (locs : List Loc) (ls : Array Slot), fX8_readAct_b36 fu a1 v2 s0 M L = some (M0, L0) → mw_W G ad NF TF FF M L H locs → lv_has ls 7 [(0, .ref (ad 1)), (1, .int a1), (2, .int v2)] → W p l e ({ frames := 7, cells := 0, slots := 0, locals := 150 }) s m [.ref (ad 1), .int a1].toArray below meth c H locs 0 0 (MQ below (mw_Qv G ad NF TF FF (mw_eqV M0 L0)) [.ref (ad 1), .int a1].toArray s 0 0 (mw_fr G)) (F0 m 36 ls [.int s0]) := by
    intro v2 s0 M L H locs ls hD hw hl
    unfold fX8_readAct_b36 at hD
    refine lv_istore_n (lv' := [(3, .int s0), (0, .ref (ad 1)), (1, .int a1), (2, .int v2)]) C.1.1 C.1.2.1 dX8_readAct_36 rfl hl (by decide) rfl (fun ls hl => ?_)
    refine lv_aload_n C.1.1 C.1.2.1 dX8_readAct_37 rfl (lv_at hl 1 rfl) ?_
    refine lv_iload_n C.1.1 C.1.2.1 dX8_readAct_38 rfl (lv_at hl 3 rfl) ?_
    obtain ⟨r3, M1, L2, h1, hD⟩ := g_b3 hD
    refine md_csI (As := [.int v2]) (rest := [.ref (ad 1)]) C hw (tX8_dataOf l G ad fu v2 M L h1) wd_1032 cwX8_dataOf ⟨Nat.le_of_ble_eq_true rfl, Nat.le_of_ble_eq_true rfl⟩ rfl hl.1 (Nat.le_of_ble_eq_true rfl) dX8_readAct_39 rfl rfl ⟨Nat.zero_le _, Nat.zero_le _⟩ rfl (fun H locs hw => ?_)
    refine lv_iconst (v := 5) C.1.1 C.1.2.1 dX8_readAct_42 (by decide) ?_
    obtain ⟨r6, M4, L5, h1, hD⟩ := g_b3 hD
    refine md_cvI (As := [.int r3, .int 5]) (rest := []) C hw (tX8_toldName l G ad fu r3 5 M1 L2 h1) kc_8 (by decide) tf_1 wd_942 cwX8_toldName ⟨Nat.le_of_ble_eq_true rfl, Nat.le_of_ble_eq_true rfl⟩ rfl hl.1 (Nat.le_of_ble_eq_true rfl) dX8_readAct_43 rfl rfl ⟨Nat.zero_le _, Nat.zero_le _⟩ rfl (fun H locs hw => ?_)
    refine lv_istore (lv' := [(4, .int r6), (3, .int s0), (0, .ref (ad 1)), (1, .int a1), (2, .int v2)]) C.1.1 C.1.2.1 dX8_readAct_46 hl (by decide) rfl (fun ls hl => ?_)
    refine lv_aload_n C.1.1 C.1.2.1 dX8_readAct_48 rfl (lv_at hl 2 rfl) ?_
    refine lv_ldc (v := (-999999999)) C.1.1 C.1.2.1 C.1.2.2.2.1 (C.1.2.2.2.2 _ wd_1056) dX8_readAct_49 ?_
    refine lv_ldc (v := 999999999) C.1.1 C.1.2.1 C.1.2.2.2.1 (C.1.2.2.2.2 _ wd_1057) dX8_readAct_51 ?_
    obtain ⟨r9, M7, L8, h1, hD⟩ := g_b3 hD
    refine md_cvI (As := [.int ((-999999999)), .int 999999999]) (rest := []) C hw (tX8_number l G ad fu ((-999999999)) 999999999 M4 L5 h1) kc_8 (by decide) tf_1 wd_950 cwX8_number ⟨Nat.le_of_ble_eq_true rfl, Nat.le_of_ble_eq_true rfl⟩ rfl hl.1 (Nat.le_of_ble_eq_true rfl) dX8_readAct_53 rfl rfl ⟨Nat.zero_le _, Nat.zero_le _⟩ rfl (fun H locs hw => ?_)
    refine lv_istore (lv' := [(5, .int r9), (4, .int r6), (3, .int s0), (0, .ref (ad 1)), (1, .int a1), (2, .int v2)]) C.1.1 C.1.2.1 dX8_readAct_56 hl (by decide) rfl (fun ls hl => ?_)
    refine lv_aload_n C.1.1 C.1.2.1 dX8_readAct_58 rfl (lv_at hl 3 rfl) ?_
    refine mr_ldcS (i := 4) C (by decide) rfl dX8_readAct_59 ?_
    obtain ⟨r12, M10, L11, h1, hD⟩ := g_b3 hD
    refine md_cvI (As := [.ref (G.2.1 1000 4)]) (rest := []) C hw (tX8_optional l G ad fu 4 M7 L8 h1 (by decide : 4 < 8)) kc_8 (by decide) tf_1 wd_1028 cwX8_optional ⟨Nat.le_of_ble_eq_true rfl, Nat.le_of_ble_eq_true rfl⟩ rfl hl.1 (Nat.le_of_ble_eq_true rfl) dX8_readAct_61 rfl rfl ⟨Nat.zero_le _, Nat.zero_le _⟩ rfl (fun H locs hw => ?_)
    refine lv_istore (lv' := [(6, .int r12), (5, .int r9), (4, .int r6), (3, .int s0), (0, .ref (ad 1)), (1, .int a1), (2, .int v2)]) C.1.1 C.1.2.1 dX8_readAct_64 hl (by decide) rfl (fun ls hl => ?_)
    refine lv_aload_n C.1.1 C.1.2.1 dX8_readAct_66 rfl (lv_at hl 4 rfl) ?_
    obtain ⟨M13, L14, h1, hD⟩ := g_b2 hD
    refine md_cvV (As := []) (rest := []) C hw (tX8_endLine l G ad fu M10 L11 h1) kc_8 (by decide) tf_1 wd_930 cwX8_endLine ⟨Nat.le_of_ble_eq_true rfl, Nat.le_of_ble_eq_true rfl⟩ rfl hl.1 (Nat.le_of_ble_eq_true rfl) dX8_readAct_67 rfl rfl ⟨Nat.zero_le _, Nat.zero_le _⟩ rfl (fun H locs hw => ?_)
    refine lv_aload_n C.1.1 C.1.2.1 dX8_readAct_70 rfl (lv_at hl 4 rfl) ?_
    refine mr_getI C hw kc_8 12 (by decide) tf_1 wd_607 dX8_readAct_71 (by decide) rfl ?_
    refine lv_if_ne (tgt := 101) C.1.1 C.1.2.1 dX8_readAct_74 (by decide) (fun c15 => ?_) (fun c15 => ?_)
    · replace hD := g_neg c15 hD
      exact hb101 M13 L14 _ _ ls hD hw (lv_sub hl [] rfl)
    · replace hD := g_pos c15 hD
      refine lv_aload_n C.1.1 C.1.2.1 dX8_readAct_77 rfl (lv_at hl 4 rfl) ?_
      refine lv_aload_n C.1.1 C.1.2.1 dX8_readAct_78 rfl (lv_at hl 4 rfl) ?_
      refine mr_getR C hw kc_8 1 (by decide) tf_1 ff_1_1 wd_595 dX8_readAct_79 (by decide) rfl ?_
      refine mr_getNR C hw kc_1 0 (by decide) tf_3 ff_3_0 nd_512 dX8_readAct_82 (by decide) rfl ?_
      refine lv_iload_n C.1.1 C.1.2.1 dX8_readAct_85 rfl (lv_at hl 6 rfl) ?_
      obtain ⟨q16, hD⟩ := g_ck hD
      refine mr_aald C hw (by decide) tf_4 (by decide) (by decide) rfl rfl q16 (fr_4 _ (g_lt q16)) dX8_readAct_86 ?_
      refine lv_iload_n C.1.1 C.1.2.1 dX8_readAct_87 rfl (lv_at hl 3 rfl) ?_
      refine lv_iload_n C.1.1 C.1.2.1 dX8_readAct_88 rfl (lv_at hl 5 rfl) ?_
      refine lv_iload C.1.1 C.1.2.1 dX8_readAct_89 (lv_at hl 2 rfl) ?_
      refine lv_iload C.1.1 C.1.2.1 dX8_readAct_91 (lv_at hl 1 rfl) ?_
      refine lv_iload C.1.1 C.1.2.1 dX8_readAct_93 (lv_at hl 0 rfl) ?_
      obtain ⟨r19, M17, L18, h1, hD⟩ := g_b3 hD
      refine md_cvI (As := [.int s0, .int a1, .int r6, .int r9, .int r12]) (rest := [.ref (ad 1)]) C hw (tX2_addAct l G ad fu ((293 + 36 * v2.toNatClampNeg)) s0 a1 r6 r9 r12 M13 L14 h1 (isCh_of (g_lt q16))) kc_2 (Ch_N0 (isCh_of (g_lt q16))) (Ch_T0 (isCh_of (g_lt q16))) wd_1067 cwX2_addAct ⟨Nat.le_of_ble_eq_true rfl, Nat.le_of_ble_eq_true rfl⟩ rfl hl.1 (Nat.le_of_ble_eq_true rfl) dX8_readAct_95 rfl rfl ⟨Nat.zero_le _, Nat.zero_le _⟩ rfl (fun H locs hw => ?_)
      obtain ⟨M20, L21, h1, hD⟩ := g_b2 hD
      refine md_cvV (As := [.int r19]) (rest := []) C hw (tX8_heed l G ad fu r19 M17 L18 h1) kc_8 (by decide) tf_1 wd_1014 cwX8_heed ⟨Nat.le_of_ble_eq_true rfl, Nat.le_of_ble_eq_true rfl⟩ rfl hl.1 (Nat.le_of_ble_eq_true rfl) dX8_readAct_98 rfl rfl ⟨Nat.zero_le _, Nat.zero_le _⟩ rfl (fun H locs hw => ?_)
      exact hb101 M20 L21 _ _ ls hD hw (lv_sub hl [] rfl)
  unfold DX8_readAct at hD
  refine lv_aload_n C.1.1 C.1.2.1 dX8_readAct_0 rfl (lv_at hl 0 rfl) ?_
  refine lv_iconst (v := 0) C.1.1 C.1.2.1 dX8_readAct_1 (by decide) ?_
  refine lv_iconst (v := 2) C.1.1 C.1.2.1 dX8_readAct_2 (by decide) ?_
  obtain ⟨r24, M22, L23, h1, hD⟩ := g_b3 hD
  refine md_cvI (As := [.int 0, .int 2]) (rest := []) C hw (tX8_toldName l G ad fu 0 2 M L h1) kc_8 (by decide) tf_1 wd_942 cwX8_toldName ⟨Nat.le_of_ble_eq_true rfl, Nat.le_of_ble_eq_true rfl⟩ rfl hl.1 (Nat.le_of_ble_eq_true rfl) dX8_readAct_3 rfl rfl ⟨Nat.zero_le _, Nat.zero_le _⟩ rfl (fun H locs hw => ?_)
  refine lv_istore_n (lv' := [(2, .int r24), (0, .ref (ad 1)), (1, .int a1)]) C.1.1 C.1.2.1 dX8_readAct_6 rfl hl (by decide) rfl (fun ls hl => ?_)
  refine lv_iload_n C.1.1 C.1.2.1 dX8_readAct_7 rfl (lv_at hl 2 rfl) ?_
  refine lv_iconst (v := 2) C.1.1 C.1.2.1 dX8_readAct_8 (by decide) ?_
  refine lv_icmp_ne (tgt := 27) C.1.1 C.1.2.1 dX8_readAct_9 (by decide) (fun c25 => ?_) (fun c25 => ?_)
  · replace hD := g_neg c25 hD
    refine lv_aload_n C.1.1 C.1.2.1 dX8_readAct_27 rfl (lv_at hl 1 rfl) ?_
    refine lv_iload_n C.1.1 C.1.2.1 dX8_readAct_28 rfl (lv_at hl 0 rfl) ?_
    obtain ⟨r28, M26, L27, h1, hD⟩ := g_b3 hD
    refine md_csI (As := [.int r24]) (rest := [.ref (ad 1)]) C hw (tX8_statesOf l G ad fu r24 M22 L23 h1) wd_990 cwX8_statesOf ⟨Nat.le_of_ble_eq_true rfl, Nat.le_of_ble_eq_true rfl⟩ rfl hl.1 (Nat.le_of_ble_eq_true rfl) dX8_readAct_29 rfl rfl ⟨Nat.zero_le _, Nat.zero_le _⟩ rfl (fun H locs hw => ?_)
    refine lv_iconst (v := 4) C.1.1 C.1.2.1 dX8_readAct_32 (by decide) ?_
    obtain ⟨r31, M29, L30, h1, hD⟩ := g_b3 hD
    refine md_cvI (As := [.int r28, .int 4]) (rest := []) C hw (tX8_toldName l G ad fu r28 4 M26 L27 h1) kc_8 (by decide) tf_1 wd_942 cwX8_toldName ⟨Nat.le_of_ble_eq_true rfl, Nat.le_of_ble_eq_true rfl⟩ rfl hl.1 (Nat.le_of_ble_eq_true rfl) dX8_readAct_33 rfl rfl ⟨Nat.zero_le _, Nat.zero_le _⟩ rfl (fun H locs hw => ?_)
    exact hb36 r24 r31 M29 L30 _ _ ls hD hw (lv_sub hl [1, 2, 0] rfl)
  · replace hD := g_pos c25 hD
    refine lv_aload_n C.1.1 C.1.2.1 dX8_readAct_12 rfl (lv_at hl 1 rfl) ?_
    refine mr_getR C hw kc_8 1 (by decide) tf_1 ff_1_1 wd_595 dX8_readAct_13 (by decide) rfl ?_
    refine mr_getNR C hw kc_1 0 (by decide) tf_3 ff_3_0 nd_512 dX8_readAct_16 (by decide) rfl ?_
    refine lv_iload_n C.1.1 C.1.2.1 dX8_readAct_19 rfl (lv_at hl 0 rfl) ?_
    obtain ⟨q32, hD⟩ := g_ck hD
    refine mr_aald C hw (by decide) tf_4 (by decide) (by decide) rfl rfl q32 (fr_4 _ (g_lt q32)) dX8_readAct_20 ?_
    refine mr_getNI C hw kc_2 8 (Ch_N0 (isCh_of (g_lt q32))) (Ch_T0 (isCh_of (g_lt q32))) nd_461 dX8_readAct_21 (by decide) rfl ?_
    refine lv_goto (tgt := 36) C.1.1 C.1.2.1 dX8_readAct_24 (by decide) ?_
    exact hb36 r24 (M22 ((293 + 36 * r24.toNatClampNeg) + 0) 8) M22 L23 _ _ ls hD hw (lv_sub hl [1, 2, 0] rfl)

theorem dX8_readSignal_0 : decode cX8_readSignal 0 = .ok (.aload_n 0, 1) := by decide +kernel
theorem dX8_readSignal_1 : decode cX8_readSignal 1 = .ok (.iconst 0, 1) := by decide +kernel
theorem dX8_readSignal_2 : decode cX8_readSignal 2 = .ok (.aload_n 0, 1) := by decide +kernel
theorem dX8_readSignal_3 : decode cX8_readSignal 3 = .ok (.getfield 18, 3) := by decide +kernel
theorem dX8_readSignal_6 : decode cX8_readSignal 6 = .ok (.getfield 75, 3) := by decide +kernel
theorem dX8_readSignal_9 : decode cX8_readSignal 9 = .ok (.getfield 231, 3) := by decide +kernel
theorem dX8_readSignal_12 : decode cX8_readSignal 12 = .ok (.bipush 40, 2) := by decide +kernel
theorem dX8_readSignal_14 : decode cX8_readSignal 14 = .ok (.invokevirtual 132, 3) := by decide +kernel
theorem dX8_readSignal_17 : decode cX8_readSignal 17 = .ok (.aload_n 0, 1) := by decide +kernel
theorem dX8_readSignal_18 : decode cX8_readSignal 18 = .ok (.iconst 1, 1) := by decide +kernel
theorem dX8_readSignal_19 : decode cX8_readSignal 19 = .ok (.bipush 64, 2) := by decide +kernel
theorem dX8_readSignal_21 : decode cX8_readSignal 21 = .ok (.invokevirtual 155, 3) := by decide +kernel
theorem dX8_readSignal_24 : decode cX8_readSignal 24 = .ok (.istore_n 1, 1) := by decide +kernel
theorem dX8_readSignal_25 : decode cX8_readSignal 25 = .ok (.aload_n 0, 1) := by decide +kernel
theorem dX8_readSignal_26 : decode cX8_readSignal 26 = .ok (.iconst 0, 1) := by decide +kernel
theorem dX8_readSignal_27 : decode cX8_readSignal 27 = .ok (.iconst 2, 1) := by decide +kernel
theorem dX8_readSignal_28 : decode cX8_readSignal 28 = .ok (.invokevirtual 151, 3) := by decide +kernel
theorem dX8_readSignal_31 : decode cX8_readSignal 31 = .ok (.istore_n 2, 1) := by decide +kernel
theorem dX8_readSignal_32 : decode cX8_readSignal 32 = .ok (.aload_n 0, 1) := by decide +kernel
theorem dX8_readSignal_33 : decode cX8_readSignal 33 = .ok (.iload_n 2, 1) := by decide +kernel
theorem dX8_readSignal_34 : decode cX8_readSignal 34 = .ok (.invokestatic 202, 3) := by decide +kernel
theorem dX8_readSignal_37 : decode cX8_readSignal 37 = .ok (.iconst 5, 1) := by decide +kernel
theorem dX8_readSignal_38 : decode cX8_readSignal 38 = .ok (.invokevirtual 151, 3) := by decide +kernel
theorem dX8_readSignal_41 : decode cX8_readSignal 41 = .ok (.istore_n 3, 1) := by decide +kernel
theorem dX8_readSignal_42 : decode cX8_readSignal 42 = .ok (.aload_n 0, 1) := by decide +kernel
theorem dX8_readSignal_43 : decode cX8_readSignal 43 = .ok (.sipush 500, 3) := by decide +kernel
theorem dX8_readSignal_46 : decode cX8_readSignal 46 = .ok (.sipush 20000, 3) := by decide +kernel
theorem dX8_readSignal_49 : decode cX8_readSignal 49 = .ok (.invokevirtual 155, 3) := by decide +kernel
theorem dX8_readSignal_52 : decode cX8_readSignal 52 = .ok (.istore 4, 2) := by decide +kernel
theorem dX8_readSignal_54 : decode cX8_readSignal 54 = .ok (.aload_n 0, 1) := by decide +kernel
theorem dX8_readSignal_55 : decode cX8_readSignal 55 = .ok (.ldc 234, 2) := by decide +kernel
theorem dX8_readSignal_57 : decode cX8_readSignal 57 = .ok (.invokevirtual 198, 3) := by decide +kernel
theorem dX8_readSignal_60 : decode cX8_readSignal 60 = .ok (.istore 5, 2) := by decide +kernel
theorem dX8_readSignal_62 : decode cX8_readSignal 62 = .ok (.aload_n 0, 1) := by decide +kernel
theorem dX8_readSignal_63 : decode cX8_readSignal 63 = .ok (.invokevirtual 136, 3) := by decide +kernel
theorem dX8_readSignal_66 : decode cX8_readSignal 66 = .ok (.aload_n 0, 1) := by decide +kernel
theorem dX8_readSignal_67 : decode cX8_readSignal 67 = .ok (.getfield 34, 3) := by decide +kernel
theorem dX8_readSignal_70 : decode cX8_readSignal 70 = .ok (.ifCond .ne 52, 3) := by decide +kernel
theorem dX8_readSignal_73 : decode cX8_readSignal 73 = .ok (.aload_n 0, 1) := by decide +kernel
theorem dX8_readSignal_74 : decode cX8_readSignal 74 = .ok (.iconst 0, 1) := by decide +kernel
theorem dX8_readSignal_75 : decode cX8_readSignal 75 = .ok (.iconst 3, 1) := by decide +kernel
theorem dX8_readSignal_76 : decode cX8_readSignal 76 = .ok (.aload_n 0, 1) := by decide +kernel
theorem dX8_readSignal_77 : decode cX8_readSignal 77 = .ok (.getfield 18, 3) := by decide +kernel
theorem dX8_readSignal_80 : decode cX8_readSignal 80 = .ok (.getfield 75, 3) := by decide +kernel
theorem dX8_readSignal_83 : decode cX8_readSignal 83 = .ok (.getfield 231, 3) := by decide +kernel
theorem dX8_readSignal_86 : decode cX8_readSignal 86 = .ok (.invokevirtual 139, 3) := by decide +kernel
theorem dX8_readSignal_89 : decode cX8_readSignal 89 = .ok (.aload_n 0, 1) := by decide +kernel
theorem dX8_readSignal_90 : decode cX8_readSignal 90 = .ok (.getfield 18, 3) := by decide +kernel
theorem dX8_readSignal_93 : decode cX8_readSignal 93 = .ok (.getfield 75, 3) := by decide +kernel
theorem dX8_readSignal_96 : decode cX8_readSignal 96 = .ok (.aload_n 0, 1) := by decide +kernel
theorem dX8_readSignal_97 : decode cX8_readSignal 97 = .ok (.getfield 236, 3) := by decide +kernel
theorem dX8_readSignal_100 : decode cX8_readSignal 100 = .ok (.iload_n 1, 1) := by decide +kernel
theorem dX8_readSignal_101 : decode cX8_readSignal 101 = .ok (.iload_n 2, 1) := by decide +kernel
theorem dX8_readSignal_102 : decode cX8_readSignal 102 = .ok (.iload_n 3, 1) := by decide +kernel
theorem dX8_readSignal_103 : decode cX8_readSignal 103 = .ok (.iload 4, 2) := by decide +kernel
theorem dX8_readSignal_105 : decode cX8_readSignal 105 = .ok (.iload 5, 2) := by decide +kernel
theorem dX8_readSignal_107 : decode cX8_readSignal 107 = .ok (.aload_n 0, 1) := by decide +kernel
theorem dX8_readSignal_108 : decode cX8_readSignal 108 = .ok (.getfield 18, 3) := by decide +kernel
theorem dX8_readSignal_111 : decode cX8_readSignal 111 = .ok (.getfield 183, 3) := by decide +kernel
theorem dX8_readSignal_114 : decode cX8_readSignal 114 = .ok (.iload_n 2, 1) := by decide +kernel
theorem dX8_readSignal_115 : decode cX8_readSignal 115 = .ok (.aaload, 1) := by decide +kernel
theorem dX8_readSignal_116 : decode cX8_readSignal 116 = .ok (.getfield 239, 3) := by decide +kernel
theorem dX8_readSignal_119 : decode cX8_readSignal 119 = .ok (.invokevirtual 242, 3) := by decide +kernel
theorem dX8_readSignal_122 : decode cX8_readSignal 122 = .ok (.return_, 1) := by decide +kernel
theorem cwX8_readSignal : mw_cwV yX8_readSignal cX8_readSignal 6 (none) 0 := ⟨⟨wd_2, wd_1074, by decide +kernel⟩, wd_1073, sl_38⟩
set_option maxHeartbeats 4000000 in
set_option maxRecDepth 100000 in
theorem tX8_readSignal (l : Launch) (G : mwG) (ad : Nat → Nat) (fu : Nat) (M : mwM) (L : mwL) {M0 : mwM} {L0 : mwL} (hD : DX8_readSignal fu M L = some (M0, L0)) : Met l yX8_readSignal (Cond.code yX8_readSignal cX8_readSignal 6 (none) :: GT) ({ frames := 7, cells := 0, slots := 0, locals := 152 }) (mw_Pre G ad NF TF FF M L [.ref (ad 1)]) (mw_Qv G ad NF TF FF (mw_eqV M0 L0)) 0 0 (mw_fr G) := by
  refine mw_enter (by decide) (Nat.le_of_ble_eq_true rfl) ?_
  intro p e s m below meth c ls C hr hlocks hnm hw hl
  have hl : lv_has ls 6 [(0, .ref (ad 1))] := hl
  have hb122 : ∀ (M : mwM) (L : mwL) (H : Heap) (locs : List Loc) (ls : Array Slot), fX8_readSignal_b122 fu M L = some (M0, L0) → mw_W G ad NF TF FF M L H locs → lv_has ls 6 [] → W p l e ({ frames := 7, cells := 0, slots := 0, locals := 152 }) s m [.ref (ad 1)].toArray below meth c H locs 0 0 (MQ below (mw_Qv G ad NF TF FF (mw_eqV M0 L0)) [.ref (ad 1)].toArray s 0 0 (mw_fr G)) (F0 m 122 ls []) := by
    intro M L H locs ls hD hw hl
    unfold fX8_readSignal_b122 at hD
    exact mr_vret C hr hlocks hw (Option.some.inj hD) dX8_readSignal_122
  unfold DX8_readSignal at hD
  refine lv_aload_n C.1.1 C.1.2.1 dX8_readSignal_0 rfl (lv_at hl 0 rfl) ?_
  refine lv_iconst (v := 0) C.1.1 C.1.2.1 dX8_readSignal_1 (by decide) ?_
  refine lv_aload_n C.1.1 C.1.2.1 dX8_readSignal_2 rfl (lv_at hl 0 rfl) ?_
  refine mr_getR C hw kc_8 1 (by decide) tf_1 ff_1_1 wd_595 dX8_readSignal_3 (by decide) rfl ?_
  refine mr_getNR C hw kc_1 3 (by decide) tf_3 ff_3_3 nd_520 dX8_readSignal_6 (by decide) rfl ?_
  refine mr_getNI C hw kc_6 10 (by decide) tf_61 nd_245 dX8_readSignal_9 (by decide) rfl ?_
  refine lv_bipush (v := 40) C.1.1 C.1.2.1 dX8_readSignal_12 (by decide) ?_
  obtain ⟨M1, L2, h1, hD⟩ := g_b2 hD
  refine md_cvV (As := [.int 0, .int (M 61 10), .int 40]) (rest := []) C hw (tX8_newName l G ad fu 0 (M 61 10) 40 M L h1) kc_8 (by decide) tf_1 wd_899 cwX8_newName ⟨Nat.le_of_ble_eq_true rfl, Nat.le_of_ble_eq_true rfl⟩ rfl hl.1 (Nat.le_of_ble_eq_true rfl) dX8_readSignal_14 rfl rfl ⟨Nat.zero_le _, Nat.zero_le _⟩ rfl (fun H locs hw => ?_)
  refine lv_aload_n C.1.1 C.1.2.1 dX8_readSignal_17 rfl (lv_at hl 0 rfl) ?_
  refine lv_iconst (v := 1) C.1.1 C.1.2.1 dX8_readSignal_18 (by decide) ?_
  refine lv_bipush (v := 64) C.1.1 C.1.2.1 dX8_readSignal_19 (by decide) ?_
  obtain ⟨r5, M3, L4, h1, hD⟩ := g_b3 hD
  refine md_cvI (As := [.int 1, .int 64]) (rest := []) C hw (tX8_number l G ad fu 1 64 M1 L2 h1) kc_8 (by decide) tf_1 wd_950 cwX8_number ⟨Nat.le_of_ble_eq_true rfl, Nat.le_of_ble_eq_true rfl⟩ rfl hl.1 (Nat.le_of_ble_eq_true rfl) dX8_readSignal_21 rfl rfl ⟨Nat.zero_le _, Nat.zero_le _⟩ rfl (fun H locs hw => ?_)
  refine lv_istore_n (lv' := [(1, .int r5), (0, .ref (ad 1))]) C.1.1 C.1.2.1 dX8_readSignal_24 rfl hl (by decide) rfl (fun ls hl => ?_)
  refine lv_aload_n C.1.1 C.1.2.1 dX8_readSignal_25 rfl (lv_at hl 1 rfl) ?_
  refine lv_iconst (v := 0) C.1.1 C.1.2.1 dX8_readSignal_26 (by decide) ?_
  refine lv_iconst (v := 2) C.1.1 C.1.2.1 dX8_readSignal_27 (by decide) ?_
  obtain ⟨r8, M6, L7, h1, hD⟩ := g_b3 hD
  refine md_cvI (As := [.int 0, .int 2]) (rest := []) C hw (tX8_toldName l G ad fu 0 2 M3 L4 h1) kc_8 (by decide) tf_1 wd_942 cwX8_toldName ⟨Nat.le_of_ble_eq_true rfl, Nat.le_of_ble_eq_true rfl⟩ rfl hl.1 (Nat.le_of_ble_eq_true rfl) dX8_readSignal_28 rfl rfl ⟨Nat.zero_le _, Nat.zero_le _⟩ rfl (fun H locs hw => ?_)
  refine lv_istore_n (lv' := [(2, .int r8), (1, .int r5), (0, .ref (ad 1))]) C.1.1 C.1.2.1 dX8_readSignal_31 rfl hl (by decide) rfl (fun ls hl => ?_)
  refine lv_aload_n C.1.1 C.1.2.1 dX8_readSignal_32 rfl (lv_at hl 2 rfl) ?_
  refine lv_iload_n C.1.1 C.1.2.1 dX8_readSignal_33 rfl (lv_at hl 0 rfl) ?_
  obtain ⟨r11, M9, L10, h1, hD⟩ := g_b3 hD
  refine md_csI (As := [.int r8]) (rest := [.ref (ad 1)]) C hw (tX8_dataOf l G ad fu r8 M6 L7 h1) wd_1032 cwX8_dataOf ⟨Nat.le_of_ble_eq_true rfl, Nat.le_of_ble_eq_true rfl⟩ rfl hl.1 (Nat.le_of_ble_eq_true rfl) dX8_readSignal_34 rfl rfl ⟨Nat.zero_le _, Nat.zero_le _⟩ rfl (fun H locs hw => ?_)
  refine lv_iconst (v := 5) C.1.1 C.1.2.1 dX8_readSignal_37 (by decide) ?_
  obtain ⟨r14, M12, L13, h1, hD⟩ := g_b3 hD
  refine md_cvI (As := [.int r11, .int 5]) (rest := []) C hw (tX8_toldName l G ad fu r11 5 M9 L10 h1) kc_8 (by decide) tf_1 wd_942 cwX8_toldName ⟨Nat.le_of_ble_eq_true rfl, Nat.le_of_ble_eq_true rfl⟩ rfl hl.1 (Nat.le_of_ble_eq_true rfl) dX8_readSignal_38 rfl rfl ⟨Nat.zero_le _, Nat.zero_le _⟩ rfl (fun H locs hw => ?_)
  refine lv_istore_n (lv' := [(3, .int r14), (2, .int r8), (1, .int r5), (0, .ref (ad 1))]) C.1.1 C.1.2.1 dX8_readSignal_41 rfl hl (by decide) rfl (fun ls hl => ?_)
  refine lv_aload_n C.1.1 C.1.2.1 dX8_readSignal_42 rfl (lv_at hl 3 rfl) ?_
  refine lv_sipush (v := 500) C.1.1 C.1.2.1 dX8_readSignal_43 (by decide) ?_
  refine lv_sipush (v := 20000) C.1.1 C.1.2.1 dX8_readSignal_46 (by decide) ?_
  obtain ⟨r17, M15, L16, h1, hD⟩ := g_b3 hD
  refine md_cvI (As := [.int 500, .int 20000]) (rest := []) C hw (tX8_number l G ad fu 500 20000 M12 L13 h1) kc_8 (by decide) tf_1 wd_950 cwX8_number ⟨Nat.le_of_ble_eq_true rfl, Nat.le_of_ble_eq_true rfl⟩ rfl hl.1 (Nat.le_of_ble_eq_true rfl) dX8_readSignal_49 rfl rfl ⟨Nat.zero_le _, Nat.zero_le _⟩ rfl (fun H locs hw => ?_)
  refine lv_istore (lv' := [(4, .int r17), (3, .int r14), (2, .int r8), (1, .int r5), (0, .ref (ad 1))]) C.1.1 C.1.2.1 dX8_readSignal_52 hl (by decide) rfl (fun ls hl => ?_)
  refine lv_aload_n C.1.1 C.1.2.1 dX8_readSignal_54 rfl (lv_at hl 4 rfl) ?_
  refine mr_ldcS (i := 5) C (by decide) rfl dX8_readSignal_55 ?_
  obtain ⟨r20, M18, L19, h1, hD⟩ := g_b3 hD
  refine md_cvI (As := [.ref (G.2.1 1000 5)]) (rest := []) C hw (tX8_optional l G ad fu 5 M15 L16 h1 (by decide : 5 < 8)) kc_8 (by decide) tf_1 wd_1028 cwX8_optional ⟨Nat.le_of_ble_eq_true rfl, Nat.le_of_ble_eq_true rfl⟩ rfl hl.1 (Nat.le_of_ble_eq_true rfl) dX8_readSignal_57 rfl rfl ⟨Nat.zero_le _, Nat.zero_le _⟩ rfl (fun H locs hw => ?_)
  refine lv_istore (lv' := [(5, .int r20), (4, .int r17), (3, .int r14), (2, .int r8), (1, .int r5), (0, .ref (ad 1))]) C.1.1 C.1.2.1 dX8_readSignal_60 hl (by decide) rfl (fun ls hl => ?_)
  refine lv_aload_n C.1.1 C.1.2.1 dX8_readSignal_62 rfl (lv_at hl 5 rfl) ?_
  obtain ⟨M21, L22, h1, hD⟩ := g_b2 hD
  refine md_cvV (As := []) (rest := []) C hw (tX8_endLine l G ad fu M18 L19 h1) kc_8 (by decide) tf_1 wd_930 cwX8_endLine ⟨Nat.le_of_ble_eq_true rfl, Nat.le_of_ble_eq_true rfl⟩ rfl hl.1 (Nat.le_of_ble_eq_true rfl) dX8_readSignal_63 rfl rfl ⟨Nat.zero_le _, Nat.zero_le _⟩ rfl (fun H locs hw => ?_)
  refine lv_aload_n C.1.1 C.1.2.1 dX8_readSignal_66 rfl (lv_at hl 5 rfl) ?_
  refine mr_getI C hw kc_8 12 (by decide) tf_1 wd_607 dX8_readSignal_67 (by decide) rfl ?_
  refine lv_if_ne (tgt := 122) C.1.1 C.1.2.1 dX8_readSignal_70 (by decide) (fun c23 => ?_) (fun c23 => ?_)
  · replace hD := g_neg c23 hD
    exact hb122 M21 L22 _ _ ls hD hw (lv_sub hl [] rfl)
  · replace hD := g_pos c23 hD
    refine lv_aload_n C.1.1 C.1.2.1 dX8_readSignal_73 rfl (lv_at hl 5 rfl) ?_
    refine lv_iconst (v := 0) C.1.1 C.1.2.1 dX8_readSignal_74 (by decide) ?_
    refine lv_iconst (v := 3) C.1.1 C.1.2.1 dX8_readSignal_75 (by decide) ?_
    refine lv_aload_n C.1.1 C.1.2.1 dX8_readSignal_76 rfl (lv_at hl 5 rfl) ?_
    refine mr_getR C hw kc_8 1 (by decide) tf_1 ff_1_1 wd_595 dX8_readSignal_77 (by decide) rfl ?_
    refine mr_getNR C hw kc_1 3 (by decide) tf_3 ff_3_3 nd_520 dX8_readSignal_80 (by decide) rfl ?_
    refine mr_getNI C hw kc_6 10 (by decide) tf_61 nd_245 dX8_readSignal_83 (by decide) rfl ?_
    obtain ⟨M24, L25, h1, hD⟩ := g_b2 hD
    refine md_cvV (As := [.int 0, .int 3, .int (M21 61 10)]) (rest := []) C hw (tX8_keepName l G ad fu 0 3 (M21 61 10) M21 L22 h1) kc_8 (by decide) tf_1 wd_934 cwX8_keepName ⟨Nat.le_of_ble_eq_true rfl, Nat.le_of_ble_eq_true rfl⟩ rfl hl.1 (Nat.le_of_ble_eq_true rfl) dX8_readSignal_86 rfl rfl ⟨Nat.zero_le _, Nat.zero_le _⟩ rfl (fun H locs hw => ?_)
    refine lv_aload_n C.1.1 C.1.2.1 dX8_readSignal_89 rfl (lv_at hl 5 rfl) ?_
    refine mr_getR C hw kc_8 1 (by decide) tf_1 ff_1_1 wd_595 dX8_readSignal_90 (by decide) rfl ?_
    refine mr_getNR C hw kc_1 3 (by decide) tf_3 ff_3_3 nd_520 dX8_readSignal_93 (by decide) rfl ?_
    refine lv_aload_n C.1.1 C.1.2.1 dX8_readSignal_96 rfl (lv_at hl 5 rfl) ?_
    refine mr_getI C hw kc_8 10 (by decide) tf_1 wd_605 dX8_readSignal_97 (by decide) rfl ?_
    refine lv_iload_n C.1.1 C.1.2.1 dX8_readSignal_100 rfl (lv_at hl 4 rfl) ?_
    refine lv_iload_n C.1.1 C.1.2.1 dX8_readSignal_101 rfl (lv_at hl 3 rfl) ?_
    refine lv_iload_n C.1.1 C.1.2.1 dX8_readSignal_102 rfl (lv_at hl 2 rfl) ?_
    refine lv_iload C.1.1 C.1.2.1 dX8_readSignal_103 (lv_at hl 1 rfl) ?_
    refine lv_iload C.1.1 C.1.2.1 dX8_readSignal_105 (lv_at hl 0 rfl) ?_
    refine lv_aload_n C.1.1 C.1.2.1 dX8_readSignal_107 rfl (lv_at hl 5 rfl) ?_
    refine mr_getR C hw kc_8 1 (by decide) tf_1 ff_1_1 wd_595 dX8_readSignal_108 (by decide) rfl ?_
    refine mr_getNR C hw kc_1 0 (by decide) tf_3 ff_3_0 nd_512 dX8_readSignal_111 (by decide) rfl ?_
    refine lv_iload_n C.1.1 C.1.2.1 dX8_readSignal_114 rfl (lv_at hl 3 rfl) ?_
    obtain ⟨q26, hD⟩ := g_ck hD
    refine mr_aald C hw (by decide) tf_4 (by decide) (by decide) rfl rfl q26 (fr_4 _ (g_lt q26)) dX8_readSignal_115 ?_
    refine mr_getNI C hw kc_2 5 (Ch_N0 (isCh_of (g_lt q26))) (Ch_T0 (isCh_of (g_lt q26))) nd_456 dX8_readSignal_116 (by decide) rfl ?_
    obtain ⟨M27, L28, h1, hD⟩ := g_b2 hD
    refine md_cvV (As := [.int (M24 1 10), .int r5, .int r8, .int r14, .int r17, .int r20, .int (M24 ((293 + 36 * r8.toNatClampNeg) + 0) 5)]) (rest := []) C hw (tX6_addSignal l G ad fu (M24 1 10) r5 r8 r14 r17 r20 (M24 ((293 + 36 * r8.toNatClampNeg) + 0) 5) M24 L25 h1) kc_6 (by decide) tf_61 wd_1076 cwX6_addSignal ⟨Nat.le_of_ble_eq_true rfl, Nat.le_of_ble_eq_true rfl⟩ rfl hl.1 (Nat.le_of_ble_eq_true rfl) dX8_readSignal_119 rfl rfl ⟨Nat.zero_le _, Nat.zero_le _⟩ rfl (fun H locs hw => ?_)
    exact hb122 M27 L28 _ _ ls hD hw (lv_sub hl [] rfl)

theorem dX8_readProtect_0 : decode cX8_readProtect 0 = .ok (.aload_n 0, 1) := by decide +kernel
theorem dX8_readProtect_1 : decode cX8_readProtect 1 = .ok (.iconst 0, 1) := by decide +kernel
theorem dX8_readProtect_2 : decode cX8_readProtect 2 = .ok (.iconst 0, 1) := by decide +kernel
theorem dX8_readProtect_3 : decode cX8_readProtect 3 = .ok (.invokevirtual 151, 3) := by decide +kernel
theorem dX8_readProtect_6 : decode cX8_readProtect 6 = .ok (.istore_n 1, 1) := by decide +kernel
theorem dX8_readProtect_7 : decode cX8_readProtect 7 = .ok (.aload_n 0, 1) := by decide +kernel
theorem dX8_readProtect_8 : decode cX8_readProtect 8 = .ok (.sipush 500, 3) := by decide +kernel
theorem dX8_readProtect_11 : decode cX8_readProtect 11 = .ok (.sipush 20000, 3) := by decide +kernel
theorem dX8_readProtect_14 : decode cX8_readProtect 14 = .ok (.invokevirtual 155, 3) := by decide +kernel
theorem dX8_readProtect_17 : decode cX8_readProtect 17 = .ok (.istore_n 2, 1) := by decide +kernel
theorem dX8_readProtect_18 : decode cX8_readProtect 18 = .ok (.aload_n 0, 1) := by decide +kernel
theorem dX8_readProtect_19 : decode cX8_readProtect 19 = .ok (.getfield 50, 3) := by decide +kernel
theorem dX8_readProtect_22 : decode cX8_readProtect 22 = .ok (.istore_n 3, 1) := by decide +kernel
theorem dX8_readProtect_23 : decode cX8_readProtect 23 = .ok (.aload_n 0, 1) := by decide +kernel
theorem dX8_readProtect_24 : decode cX8_readProtect 24 = .ok (.iconst 1, 1) := by decide +kernel
theorem dX8_readProtect_25 : decode cX8_readProtect 25 = .ok (.bipush 16, 2) := by decide +kernel
theorem dX8_readProtect_27 : decode cX8_readProtect 27 = .ok (.invokevirtual 155, 3) := by decide +kernel
theorem dX8_readProtect_30 : decode cX8_readProtect 30 = .ok (.istore 4, 2) := by decide +kernel
theorem dX8_readProtect_32 : decode cX8_readProtect 32 = .ok (.aload_n 0, 1) := by decide +kernel
theorem dX8_readProtect_33 : decode cX8_readProtect 33 = .ok (.invokevirtual 136, 3) := by decide +kernel
theorem dX8_readProtect_36 : decode cX8_readProtect 36 = .ok (.aload_n 0, 1) := by decide +kernel
theorem dX8_readProtect_37 : decode cX8_readProtect 37 = .ok (.getfield 34, 3) := by decide +kernel
theorem dX8_readProtect_40 : decode cX8_readProtect 40 = .ok (.ifCond .ne 24, 3) := by decide +kernel
theorem dX8_readProtect_43 : decode cX8_readProtect 43 = .ok (.aload_n 0, 1) := by decide +kernel
theorem dX8_readProtect_44 : decode cX8_readProtect 44 = .ok (.getfield 18, 3) := by decide +kernel
theorem dX8_readProtect_47 : decode cX8_readProtect 47 = .ok (.getfield 75, 3) := by decide +kernel
theorem dX8_readProtect_50 : decode cX8_readProtect 50 = .ok (.iload_n 1, 1) := by decide +kernel
theorem dX8_readProtect_51 : decode cX8_readProtect 51 = .ok (.iload_n 2, 1) := by decide +kernel
theorem dX8_readProtect_52 : decode cX8_readProtect 52 = .ok (.invokevirtual 246, 3) := by decide +kernel
theorem dX8_readProtect_55 : decode cX8_readProtect 55 = .ok (.ifCond .eq 9, 3) := by decide +kernel
theorem dX8_readProtect_58 : decode cX8_readProtect 58 = .ok (.aload_n 0, 1) := by decide +kernel
theorem dX8_readProtect_59 : decode cX8_readProtect 59 = .ok (.iconst 3, 1) := by decide +kernel
theorem dX8_readProtect_60 : decode cX8_readProtect 60 = .ok (.iload_n 3, 1) := by decide +kernel
theorem dX8_readProtect_61 : decode cX8_readProtect 61 = .ok (.invokevirtual 71, 3) := by decide +kernel
theorem dX8_readProtect_64 : decode cX8_readProtect 64 = .ok (.aload_n 0, 1) := by decide +kernel
theorem dX8_readProtect_65 : decode cX8_readProtect 65 = .ok (.getfield 34, 3) := by decide +kernel
theorem dX8_readProtect_68 : decode cX8_readProtect 68 = .ok (.ifCond .ne 17, 3) := by decide +kernel
theorem dX8_readProtect_71 : decode cX8_readProtect 71 = .ok (.aload_n 0, 1) := by decide +kernel
theorem dX8_readProtect_72 : decode cX8_readProtect 72 = .ok (.getfield 18, 3) := by decide +kernel
theorem dX8_readProtect_75 : decode cX8_readProtect 75 = .ok (.getfield 75, 3) := by decide +kernel
theorem dX8_readProtect_78 : decode cX8_readProtect 78 = .ok (.iload_n 1, 1) := by decide +kernel
theorem dX8_readProtect_79 : decode cX8_readProtect 79 = .ok (.iload_n 2, 1) := by decide +kernel
theorem dX8_readProtect_80 : decode cX8_readProtect 80 = .ok (.iload 4, 2) := by decide +kernel
theorem dX8_readProtect_82 : decode cX8_readProtect 82 = .ok (.invokevirtual 249, 3) := by decide +kernel
theorem dX8_readProtect_85 : decode cX8_readProtect 85 = .ok (.return_, 1) := by decide +kernel
theorem cwX8_readProtect : mw_cwV yX8_readProtect cX8_readProtect 5 (none) 0 := ⟨⟨wd_2, wd_1083, by decide +kernel⟩, wd_1082, sl_39⟩
set_option maxHeartbeats 4000000 in
set_option maxRecDepth 100000 in
theorem tX8_readProtect (l : Launch) (G : mwG) (ad : Nat → Nat) (fu : Nat) (M : mwM) (L : mwL) {M0 : mwM} {L0 : mwL} (hD : DX8_readProtect fu M L = some (M0, L0)) : Met l yX8_readProtect (Cond.code yX8_readProtect cX8_readProtect 5 (none) :: GT) ({ frames := 4, cells := 0, slots := 0, locals := 87 }) (mw_Pre G ad NF TF FF M L [.ref (ad 1)]) (mw_Qv G ad NF TF FF (mw_eqV M0 L0)) 0 0 (mw_fr G) := by
  refine mw_enter (by decide) (Nat.le_of_ble_eq_true rfl) ?_
  intro p e s m below meth c ls C hr hlocks hnm hw hl
  have hl : lv_has ls 5 [(0, .ref (ad 1))] := hl
  have hb85 : ∀ (M : mwM) (L : mwL) (H : Heap) (locs : List Loc) (ls : Array Slot), fX8_readProtect_b85 fu M L = some (M0, L0) → mw_W G ad NF TF FF M L H locs → lv_has ls 5 [] → W p l e ({ frames := 4, cells := 0, slots := 0, locals := 87 }) s m [.ref (ad 1)].toArray below meth c H locs 0 0 (MQ below (mw_Qv G ad NF TF FF (mw_eqV M0 L0)) [.ref (ad 1)].toArray s 0 0 (mw_fr G)) (F0 m 85 ls []) := by
    intro M L H locs ls hD hw hl
    unfold fX8_readProtect_b85 at hD
    exact mr_vret C hr hlocks hw (Option.some.inj hD) dX8_readProtect_85
  have hb64 : ∀ (v1 : Int32) (v2 : Int32) (v4 : Int32) (M : mwM) (L : mwL) (H : Heap) (locs : List Loc) (ls : Array Slot), fX8_readProtect_b64 fu v1 v2 v4 M L = some (M0, L0) → mw_W G ad NF TF FF M L H locs → lv_has ls 5 [(0, .ref (ad 1)), (1, .int v1), (2, .int v2), (4, .int v4)] → W p l e ({ frames := 4, cells := 0, slots := 0, locals := 87 }) s m [.ref (ad 1)].toArray below meth c H locs 0 0 (MQ below (mw_Qv G ad NF TF FF (mw_eqV M0 L0)) [.ref (ad 1)].toArray s 0 0 (mw_fr G)) (F0 m 64 ls []) := by
    intro v1 v2 v4 M L H locs ls hD hw hl
    unfold fX8_readProtect_b64 at hD
    refine lv_aload_n C.1.1 C.1.2.1 dX8_readProtect_64 rfl (lv_at hl 0 rfl) ?_
    refine mr_getI C hw kc_8 12 (by decide) tf_1 wd_607 dX8_readProtect_65 (by decide) rfl ?_
    refine lv_if_ne (tgt := 85) C.1.1 C.1.2.1 dX8_readProtect_68 (by decide) (fun c1 => ?_) (fun c1 => ?_)
    · replace hD := g_neg c1 hD
      exact hb85 M L _ _ ls hD hw (lv_sub hl [] rfl)
    · replace hD := g_pos c1 hD
      refine lv_aload_n C.1.1 C.1.2.1 dX8_readProtect_71 rfl (lv_at hl 0 rfl) ?_
      refine mr_getR C hw kc_8 1 (by decide) tf_1 ff_1_1 wd_595 dX8_readProtect_72 (by decide) rfl ?_
      refine mr_getNR C hw kc_1 3 (by decide) tf_3 ff_3_3 nd_520 dX8_readProtect_75 (by decide) rfl ?_
      refine lv_iload_n C.1.1 C.1.2.1 dX8_readProtect_78 rfl (lv_at hl 1 rfl) ?_
      refine lv_iload_n C.1.1 C.1.2.1 dX8_readProtect_79 rfl (lv_at hl 2 rfl) ?_
      refine lv_iload C.1.1 C.1.2.1 dX8_readProtect_80 (lv_at hl 3 rfl) ?_
      obtain ⟨M2, L3, h1, hD⟩ := g_b2 hD
      refine md_cvV (As := [.int v1, .int v2, .int v4]) (rest := []) C hw (tX6_addKey l G ad fu v1 v2 v4 M L h1) kc_6 (by decide) tf_61 wd_1088 cwX6_addKey ⟨Nat.le_of_ble_eq_true rfl, Nat.le_of_ble_eq_true rfl⟩ rfl hl.1 (Nat.le_of_ble_eq_true rfl) dX8_readProtect_82 rfl rfl ⟨Nat.zero_le _, Nat.zero_le _⟩ rfl (fun H locs hw => ?_)
      exact hb85 M2 L3 _ _ ls hD hw (lv_sub hl [] rfl)
  unfold DX8_readProtect at hD
  refine lv_aload_n C.1.1 C.1.2.1 dX8_readProtect_0 rfl (lv_at hl 0 rfl) ?_
  refine lv_iconst (v := 0) C.1.1 C.1.2.1 dX8_readProtect_1 (by decide) ?_
  refine lv_iconst (v := 0) C.1.1 C.1.2.1 dX8_readProtect_2 (by decide) ?_
  obtain ⟨r6, M4, L5, h1, hD⟩ := g_b3 hD
  refine md_cvI (As := [.int 0, .int 0]) (rest := []) C hw (tX8_toldName l G ad fu 0 0 M L h1) kc_8 (by decide) tf_1 wd_942 cwX8_toldName ⟨Nat.le_of_ble_eq_true rfl, Nat.le_of_ble_eq_true rfl⟩ rfl hl.1 (Nat.le_of_ble_eq_true rfl) dX8_readProtect_3 rfl rfl ⟨Nat.zero_le _, Nat.zero_le _⟩ rfl (fun H locs hw => ?_)
  refine lv_istore_n (lv' := [(1, .int r6), (0, .ref (ad 1))]) C.1.1 C.1.2.1 dX8_readProtect_6 rfl hl (by decide) rfl (fun ls hl => ?_)
  refine lv_aload_n C.1.1 C.1.2.1 dX8_readProtect_7 rfl (lv_at hl 1 rfl) ?_
  refine lv_sipush (v := 500) C.1.1 C.1.2.1 dX8_readProtect_8 (by decide) ?_
  refine lv_sipush (v := 20000) C.1.1 C.1.2.1 dX8_readProtect_11 (by decide) ?_
  obtain ⟨r9, M7, L8, h1, hD⟩ := g_b3 hD
  refine md_cvI (As := [.int 500, .int 20000]) (rest := []) C hw (tX8_number l G ad fu 500 20000 M4 L5 h1) kc_8 (by decide) tf_1 wd_950 cwX8_number ⟨Nat.le_of_ble_eq_true rfl, Nat.le_of_ble_eq_true rfl⟩ rfl hl.1 (Nat.le_of_ble_eq_true rfl) dX8_readProtect_14 rfl rfl ⟨Nat.zero_le _, Nat.zero_le _⟩ rfl (fun H locs hw => ?_)
  refine lv_istore_n (lv' := [(2, .int r9), (1, .int r6), (0, .ref (ad 1))]) C.1.1 C.1.2.1 dX8_readProtect_17 rfl hl (by decide) rfl (fun ls hl => ?_)
  refine lv_aload_n C.1.1 C.1.2.1 dX8_readProtect_18 rfl (lv_at hl 2 rfl) ?_
  refine mr_getI C hw kc_8 8 (by decide) tf_1 wd_603 dX8_readProtect_19 (by decide) rfl ?_
  obtain ⟨x10, ex10, hD⟩ := g_let hD
  refine W.eq (g2 := F0 m 22 ls (.int x10 :: [])) (by rw [ex10]) ?_
  refine lv_istore_n (lv' := [(3, .int x10), (2, .int r9), (1, .int r6), (0, .ref (ad 1))]) C.1.1 C.1.2.1 dX8_readProtect_22 rfl hl (by decide) rfl (fun ls hl => ?_)
  refine lv_aload_n C.1.1 C.1.2.1 dX8_readProtect_23 rfl (lv_at hl 3 rfl) ?_
  refine lv_iconst (v := 1) C.1.1 C.1.2.1 dX8_readProtect_24 (by decide) ?_
  refine lv_bipush (v := 16) C.1.1 C.1.2.1 dX8_readProtect_25 (by decide) ?_
  obtain ⟨r13, M11, L12, h1, hD⟩ := g_b3 hD
  refine md_cvI (As := [.int 1, .int 16]) (rest := []) C hw (tX8_number l G ad fu 1 16 M7 L8 h1) kc_8 (by decide) tf_1 wd_950 cwX8_number ⟨Nat.le_of_ble_eq_true rfl, Nat.le_of_ble_eq_true rfl⟩ rfl hl.1 (Nat.le_of_ble_eq_true rfl) dX8_readProtect_27 rfl rfl ⟨Nat.zero_le _, Nat.zero_le _⟩ rfl (fun H locs hw => ?_)
  refine lv_istore (lv' := [(4, .int r13), (3, .int x10), (2, .int r9), (1, .int r6), (0, .ref (ad 1))]) C.1.1 C.1.2.1 dX8_readProtect_30 hl (by decide) rfl (fun ls hl => ?_)
  refine lv_aload_n C.1.1 C.1.2.1 dX8_readProtect_32 rfl (lv_at hl 4 rfl) ?_
  obtain ⟨M14, L15, h1, hD⟩ := g_b2 hD
  refine md_cvV (As := []) (rest := []) C hw (tX8_endLine l G ad fu M11 L12 h1) kc_8 (by decide) tf_1 wd_930 cwX8_endLine ⟨Nat.le_of_ble_eq_true rfl, Nat.le_of_ble_eq_true rfl⟩ rfl hl.1 (Nat.le_of_ble_eq_true rfl) dX8_readProtect_33 rfl rfl ⟨Nat.zero_le _, Nat.zero_le _⟩ rfl (fun H locs hw => ?_)
  refine lv_aload_n C.1.1 C.1.2.1 dX8_readProtect_36 rfl (lv_at hl 4 rfl) ?_
  refine mr_getI C hw kc_8 12 (by decide) tf_1 wd_607 dX8_readProtect_37 (by decide) rfl ?_
  refine lv_if_ne (tgt := 64) C.1.1 C.1.2.1 dX8_readProtect_40 (by decide) (fun c16 => ?_) (fun c16 => ?_)
  · replace hD := g_neg c16 hD
    exact hb64 r6 r9 r13 M14 L15 _ _ ls hD hw (lv_sub hl [4, 3, 2, 0] rfl)
  · replace hD := g_pos c16 hD
    refine lv_aload_n C.1.1 C.1.2.1 dX8_readProtect_43 rfl (lv_at hl 4 rfl) ?_
    refine mr_getR C hw kc_8 1 (by decide) tf_1 ff_1_1 wd_595 dX8_readProtect_44 (by decide) rfl ?_
    refine mr_getNR C hw kc_1 3 (by decide) tf_3 ff_3_3 nd_520 dX8_readProtect_47 (by decide) rfl ?_
    refine lv_iload_n C.1.1 C.1.2.1 dX8_readProtect_50 rfl (lv_at hl 3 rfl) ?_
    refine lv_iload_n C.1.1 C.1.2.1 dX8_readProtect_51 rfl (lv_at hl 2 rfl) ?_
    obtain ⟨r19, M17, L18, h1, hD⟩ := g_b3 hD
    refine md_cvI (As := [.int r6, .int r9]) (rest := []) C hw (tX6_keyOf l G ad fu r6 r9 M14 L15 h1) kc_6 (by decide) tf_61 wd_1084 cwX6_keyOf ⟨Nat.le_of_ble_eq_true rfl, Nat.le_of_ble_eq_true rfl⟩ rfl hl.1 (Nat.le_of_ble_eq_true rfl) dX8_readProtect_52 rfl rfl ⟨Nat.zero_le _, Nat.zero_le _⟩ rfl (fun H locs hw => ?_)
    refine lv_if_eq (tgt := 64) C.1.1 C.1.2.1 dX8_readProtect_55 (by decide) (fun c20 => ?_) (fun c20 => ?_)
    · replace hD := g_pos c20 hD
      exact hb64 r6 r9 r13 M17 L18 _ _ ls hD hw (lv_sub hl [4, 3, 2, 0] rfl)
    · replace hD := g_neg c20 hD
      refine lv_aload_n C.1.1 C.1.2.1 dX8_readProtect_58 rfl (lv_at hl 4 rfl) ?_
      refine lv_iconst (v := 3) C.1.1 C.1.2.1 dX8_readProtect_59 (by decide) ?_
      refine lv_iload_n C.1.1 C.1.2.1 dX8_readProtect_60 rfl (lv_at hl 1 rfl) ?_
      obtain ⟨M21, L22, h1, hD⟩ := g_b2 hD
      refine md_cvV (As := [.int 3, .int x10]) (rest := []) C hw (tX8_fail l G ad fu 3 x10 M17 L18 h1) kc_8 (by decide) tf_1 wd_918 cwX8_fail ⟨Nat.le_of_ble_eq_true rfl, Nat.le_of_ble_eq_true rfl⟩ rfl hl.1 (Nat.le_of_ble_eq_true rfl) dX8_readProtect_61 rfl rfl ⟨Nat.zero_le _, Nat.zero_le _⟩ rfl (fun H locs hw => ?_)
      exact hb64 r6 r9 r13 M21 L22 _ _ ls hD hw (lv_sub hl [4, 3, 2, 0] rfl)

theorem dX8_refuseOwn_0 : decode cX8_refuseOwn 0 = .ok (.aload_n 0, 1) := by decide +kernel
theorem dX8_refuseOwn_1 : decode cX8_refuseOwn 1 = .ok (.getfield 34, 3) := by decide +kernel
theorem dX8_refuseOwn_4 : decode cX8_refuseOwn 4 = .ok (.ifCond .ne 31, 3) := by decide +kernel
theorem dX8_refuseOwn_7 : decode cX8_refuseOwn 7 = .ok (.aload_n 0, 1) := by decide +kernel
theorem dX8_refuseOwn_8 : decode cX8_refuseOwn 8 = .ok (.getfield 18, 3) := by decide +kernel
theorem dX8_refuseOwn_11 : decode cX8_refuseOwn 11 = .ok (.getfield 75, 3) := by decide +kernel
theorem dX8_refuseOwn_14 : decode cX8_refuseOwn 14 = .ok (.getfield 85, 3) := by decide +kernel
theorem dX8_refuseOwn_17 : decode cX8_refuseOwn 17 = .ok (.iconst 5, 1) := by decide +kernel
theorem dX8_refuseOwn_18 : decode cX8_refuseOwn 18 = .ok (.aaload, 1) := by decide +kernel
theorem dX8_refuseOwn_19 : decode cX8_refuseOwn 19 = .ok (.iload_n 1, 1) := by decide +kernel
theorem dX8_refuseOwn_20 : decode cX8_refuseOwn 20 = .ok (.iaload, 1) := by decide +kernel
theorem dX8_refuseOwn_21 : decode cX8_refuseOwn 21 = .ok (.iload_n 2, 1) := by decide +kernel
theorem dX8_refuseOwn_22 : decode cX8_refuseOwn 22 = .ok (.if_icmp .ne 13, 3) := by decide +kernel
theorem dX8_refuseOwn_25 : decode cX8_refuseOwn 25 = .ok (.aload_n 0, 1) := by decide +kernel
theorem dX8_refuseOwn_26 : decode cX8_refuseOwn 26 = .ok (.bipush 7, 2) := by decide +kernel
theorem dX8_refuseOwn_28 : decode cX8_refuseOwn 28 = .ok (.aload_n 0, 1) := by decide +kernel
theorem dX8_refuseOwn_29 : decode cX8_refuseOwn 29 = .ok (.getfield 53, 3) := by decide +kernel
theorem dX8_refuseOwn_32 : decode cX8_refuseOwn 32 = .ok (.invokevirtual 71, 3) := by decide +kernel
theorem dX8_refuseOwn_35 : decode cX8_refuseOwn 35 = .ok (.return_, 1) := by decide +kernel
theorem cwX8_refuseOwn : mw_cwV yX8_refuseOwn cX8_refuseOwn 3 (none) 2 := ⟨⟨wd_2, wd_1099, by decide +kernel⟩, wd_1098, sl_41⟩
set_option maxHeartbeats 4000000 in
set_option maxRecDepth 100000 in
theorem tX8_refuseOwn (l : Launch) (G : mwG) (ad : Nat → Nat) (fu : Nat) (a1 : Int32) (a2 : Int32) (M : mwM) (L : mwL) {M0 : mwM} {L0 : mwL} (hD : DX8_refuseOwn fu a1 a2 M L = some (M0, L0)) : Met l yX8_refuseOwn (Cond.code yX8_refuseOwn cX8_refuseOwn 3 (none) :: GT) ({ frames := 1, cells := 0, slots := 0, locals := 22 }) (mw_Pre G ad NF TF FF M L [.ref (ad 1), .int a1, .int a2]) (mw_Qv G ad NF TF FF (mw_eqV M0 L0)) 0 0 (mw_fr G) := by
  refine mw_enter (by decide) (Nat.le_of_ble_eq_true rfl) ?_
  intro p e s m below meth c ls C hr hlocks hnm hw hl
  have hl : lv_has ls 3 [(0, .ref (ad 1)), (1, .int a1), (2, .int a2)] := hl
  have hb35 : ∀ (M : mwM) (L : mwL) (H : Heap) (locs : List Loc) (ls : Array Slot), fX8_refuseOwn_b35 fu a1 a2 M L = some (M0, L0) → mw_W G ad NF TF FF M L H locs → lv_has ls 3 [] → W p l e ({ frames := 1, cells := 0, slots := 0, locals := 22 }) s m [.ref (ad 1), .int a1, .int a2].toArray below meth c H locs 0 0 (MQ below (mw_Qv G ad NF TF FF (mw_eqV M0 L0)) [.ref (ad 1), .int a1, .int a2].toArray s 0 0 (mw_fr G)) (F0 m 35 ls []) := by
    intro M L H locs ls hD hw hl
    unfold fX8_refuseOwn_b35 at hD
    exact mr_vret C hr hlocks hw (Option.some.inj hD) dX8_refuseOwn_35
  unfold DX8_refuseOwn at hD
  refine lv_aload_n C.1.1 C.1.2.1 dX8_refuseOwn_0 rfl (lv_at hl 0 rfl) ?_
  refine mr_getI C hw kc_8 12 (by decide) tf_1 wd_607 dX8_refuseOwn_1 (by decide) rfl ?_
  refine lv_if_ne (tgt := 35) C.1.1 C.1.2.1 dX8_refuseOwn_4 (by decide) (fun c1 => ?_) (fun c1 => ?_)
  · replace hD := g_neg c1 hD
    exact hb35 M L _ _ ls hD hw (lv_sub hl [] rfl)
  · replace hD := g_pos c1 hD
    refine lv_aload_n C.1.1 C.1.2.1 dX8_refuseOwn_7 rfl (lv_at hl 0 rfl) ?_
    refine mr_getR C hw kc_8 1 (by decide) tf_1 ff_1_1 wd_595 dX8_refuseOwn_8 (by decide) rfl ?_
    refine mr_getNR C hw kc_1 3 (by decide) tf_3 ff_3_3 nd_520 dX8_refuseOwn_11 (by decide) rfl ?_
    refine mr_getNR C hw kc_6 0 (by decide) tf_61 ff_61_0 nd_229 dX8_refuseOwn_14 (by decide) rfl ?_
    refine lv_iconst (v := 5) C.1.1 C.1.2.1 dX8_refuseOwn_17 (by decide) ?_
    refine mr_aald C hw (by decide) tf_62 (by decide) (by decide) rfl rfl (show vp_in 5 10 from by unfold vp_in; decide) ff_62_5 dX8_refuseOwn_18 ?_
    refine lv_iload_n C.1.1 C.1.2.1 dX8_refuseOwn_19 rfl (lv_at hl 1 rfl) ?_
    obtain ⟨q3, hD⟩ := g_ck hD
    refine mr_iald C hw (by decide) tf_68 q3 dX8_refuseOwn_20 ?_
    refine lv_iload_n C.1.1 C.1.2.1 dX8_refuseOwn_21 rfl (lv_at hl 2 rfl) ?_
    refine lv_icmp_ne (tgt := 35) C.1.1 C.1.2.1 dX8_refuseOwn_22 (by decide) (fun c4 => ?_) (fun c4 => ?_)
    · replace hD := g_neg c4 hD
      exact hb35 M L _ _ ls hD hw (lv_sub hl [] rfl)
    · replace hD := g_pos c4 hD
      refine lv_aload_n C.1.1 C.1.2.1 dX8_refuseOwn_25 rfl (lv_at hl 0 rfl) ?_
      refine lv_bipush (v := 7) C.1.1 C.1.2.1 dX8_refuseOwn_26 (by decide) ?_
      refine lv_aload_n C.1.1 C.1.2.1 dX8_refuseOwn_28 rfl (lv_at hl 0 rfl) ?_
      refine mr_getI C hw kc_8 7 (by decide) tf_1 wd_602 dX8_refuseOwn_29 (by decide) rfl ?_
      obtain ⟨M5, L6, h1, hD⟩ := g_b2 hD
      refine md_cvV (As := [.int 7, .int (M 1 7)]) (rest := []) C hw (tX8_fail l G ad fu 7 (M 1 7) M L h1) kc_8 (by decide) tf_1 wd_918 cwX8_fail ⟨Nat.le_of_ble_eq_true rfl, Nat.le_of_ble_eq_true rfl⟩ rfl hl.1 (Nat.le_of_ble_eq_true rfl) dX8_refuseOwn_32 rfl rfl ⟨Nat.zero_le _, Nat.zero_le _⟩ rfl (fun H locs hw => ?_)
      exact hb35 M5 L6 _ _ ls hD hw (lv_sub hl [] rfl)

theorem dX8_readRead_0 : decode cX8_readRead 0 = .ok (.aload_n 0, 1) := by decide +kernel
theorem dX8_readRead_1 : decode cX8_readRead 1 = .ok (.iconst 0, 1) := by decide +kernel
theorem dX8_readRead_2 : decode cX8_readRead 2 = .ok (.iconst 3, 1) := by decide +kernel
theorem dX8_readRead_3 : decode cX8_readRead 3 = .ok (.invokevirtual 151, 3) := by decide +kernel
theorem dX8_readRead_6 : decode cX8_readRead 6 = .ok (.istore_n 1, 1) := by decide +kernel
theorem dX8_readRead_7 : decode cX8_readRead 7 = .ok (.aload_n 0, 1) := by decide +kernel
theorem dX8_readRead_8 : decode cX8_readRead 8 = .ok (.iconst 0, 1) := by decide +kernel
theorem dX8_readRead_9 : decode cX8_readRead 9 = .ok (.iconst 2, 1) := by decide +kernel
theorem dX8_readRead_10 : decode cX8_readRead 10 = .ok (.invokevirtual 151, 3) := by decide +kernel
theorem dX8_readRead_13 : decode cX8_readRead 13 = .ok (.istore_n 2, 1) := by decide +kernel
theorem dX8_readRead_14 : decode cX8_readRead 14 = .ok (.aload_n 0, 1) := by decide +kernel
theorem dX8_readRead_15 : decode cX8_readRead 15 = .ok (.iload_n 2, 1) := by decide +kernel
theorem dX8_readRead_16 : decode cX8_readRead 16 = .ok (.invokestatic 202, 3) := by decide +kernel
theorem dX8_readRead_19 : decode cX8_readRead 19 = .ok (.iconst 5, 1) := by decide +kernel
theorem dX8_readRead_20 : decode cX8_readRead 20 = .ok (.invokevirtual 151, 3) := by decide +kernel
theorem dX8_readRead_23 : decode cX8_readRead 23 = .ok (.istore_n 3, 1) := by decide +kernel
theorem dX8_readRead_24 : decode cX8_readRead 24 = .ok (.aload_n 0, 1) := by decide +kernel
theorem dX8_readRead_25 : decode cX8_readRead 25 = .ok (.iconst 0, 1) := by decide +kernel
theorem dX8_readRead_26 : decode cX8_readRead 26 = .ok (.bipush 99, 2) := by decide +kernel
theorem dX8_readRead_28 : decode cX8_readRead 28 = .ok (.invokevirtual 155, 3) := by decide +kernel
theorem dX8_readRead_31 : decode cX8_readRead 31 = .ok (.istore 4, 2) := by decide +kernel
theorem dX8_readRead_33 : decode cX8_readRead 33 = .ok (.aload_n 0, 1) := by decide +kernel
theorem dX8_readRead_34 : decode cX8_readRead 34 = .ok (.invokevirtual 136, 3) := by decide +kernel
theorem dX8_readRead_37 : decode cX8_readRead 37 = .ok (.aload_n 0, 1) := by decide +kernel
theorem dX8_readRead_38 : decode cX8_readRead 38 = .ok (.iload_n 1, 1) := by decide +kernel
theorem dX8_readRead_39 : decode cX8_readRead 39 = .ok (.aload_n 0, 1) := by decide +kernel
theorem dX8_readRead_40 : decode cX8_readRead 40 = .ok (.getfield 18, 3) := by decide +kernel
theorem dX8_readRead_43 : decode cX8_readRead 43 = .ok (.getfield 183, 3) := by decide +kernel
theorem dX8_readRead_46 : decode cX8_readRead 46 = .ok (.iload_n 2, 1) := by decide +kernel
theorem dX8_readRead_47 : decode cX8_readRead 47 = .ok (.aaload, 1) := by decide +kernel
theorem dX8_readRead_48 : decode cX8_readRead 48 = .ok (.getfield 239, 3) := by decide +kernel
theorem dX8_readRead_51 : decode cX8_readRead 51 = .ok (.invokevirtual 252, 3) := by decide +kernel
theorem dX8_readRead_54 : decode cX8_readRead 54 = .ok (.aload_n 0, 1) := by decide +kernel
theorem dX8_readRead_55 : decode cX8_readRead 55 = .ok (.getfield 34, 3) := by decide +kernel
theorem dX8_readRead_58 : decode cX8_readRead 58 = .ok (.ifCond .ne 19, 3) := by decide +kernel
theorem dX8_readRead_61 : decode cX8_readRead 61 = .ok (.aload_n 0, 1) := by decide +kernel
theorem dX8_readRead_62 : decode cX8_readRead 62 = .ok (.aload_n 0, 1) := by decide +kernel
theorem dX8_readRead_63 : decode cX8_readRead 63 = .ok (.getfield 18, 3) := by decide +kernel
theorem dX8_readRead_66 : decode cX8_readRead 66 = .ok (.iload_n 1, 1) := by decide +kernel
theorem dX8_readRead_67 : decode cX8_readRead 67 = .ok (.iload_n 2, 1) := by decide +kernel
theorem dX8_readRead_68 : decode cX8_readRead 68 = .ok (.iload_n 3, 1) := by decide +kernel
theorem dX8_readRead_69 : decode cX8_readRead 69 = .ok (.iload 4, 2) := by decide +kernel
theorem dX8_readRead_71 : decode cX8_readRead 71 = .ok (.invokevirtual 255, 3) := by decide +kernel
theorem dX8_readRead_74 : decode cX8_readRead 74 = .ok (.invokevirtual 190, 3) := by decide +kernel
theorem dX8_readRead_77 : decode cX8_readRead 77 = .ok (.return_, 1) := by decide +kernel
theorem cwX8_readRead : mw_cwV yX8_readRead cX8_readRead 5 (none) 0 := ⟨⟨wd_2, wd_1095, by decide +kernel⟩, wd_1094, sl_40⟩
set_option maxHeartbeats 4000000 in
set_option maxRecDepth 100000 in
theorem tX8_readRead (l : Launch) (G : mwG) (ad : Nat → Nat) (fu : Nat) (M : mwM) (L : mwL) {M0 : mwM} {L0 : mwL} (hD : DX8_readRead fu M L = some (M0, L0)) : Met l yX8_readRead (Cond.code yX8_readRead cX8_readRead 5 (none) :: GT) ({ frames := 4, cells := 0, slots := 0, locals := 87 }) (mw_Pre G ad NF TF FF M L [.ref (ad 1)]) (mw_Qv G ad NF TF FF (mw_eqV M0 L0)) 0 0 (mw_fr G) := by
  refine mw_enter (by decide) (Nat.le_of_ble_eq_true rfl) ?_
  intro p e s m below meth c ls C hr hlocks hnm hw hl
  have hl : lv_has ls 5 [(0, .ref (ad 1))] := hl
  have hb77 : ∀ (M : mwM) (L : mwL) (H : Heap) (locs : List Loc) (ls : Array Slot), fX8_readRead_b77 fu M L = some (M0, L0) → mw_W G ad NF TF FF M L H locs → lv_has ls 5 [] → W p l e ({ frames := 4, cells := 0, slots := 0, locals := 87 }) s m [.ref (ad 1)].toArray below meth c H locs 0 0 (MQ below (mw_Qv G ad NF TF FF (mw_eqV M0 L0)) [.ref (ad 1)].toArray s 0 0 (mw_fr G)) (F0 m 77 ls []) := by
    intro M L H locs ls hD hw hl
    unfold fX8_readRead_b77 at hD
    exact mr_vret C hr hlocks hw (Option.some.inj hD) dX8_readRead_77
  unfold DX8_readRead at hD
  refine lv_aload_n C.1.1 C.1.2.1 dX8_readRead_0 rfl (lv_at hl 0 rfl) ?_
  refine lv_iconst (v := 0) C.1.1 C.1.2.1 dX8_readRead_1 (by decide) ?_
  refine lv_iconst (v := 3) C.1.1 C.1.2.1 dX8_readRead_2 (by decide) ?_
  obtain ⟨r3, M1, L2, h1, hD⟩ := g_b3 hD
  refine md_cvI (As := [.int 0, .int 3]) (rest := []) C hw (tX8_toldName l G ad fu 0 3 M L h1) kc_8 (by decide) tf_1 wd_942 cwX8_toldName ⟨Nat.le_of_ble_eq_true rfl, Nat.le_of_ble_eq_true rfl⟩ rfl hl.1 (Nat.le_of_ble_eq_true rfl) dX8_readRead_3 rfl rfl ⟨Nat.zero_le _, Nat.zero_le _⟩ rfl (fun H locs hw => ?_)
  refine lv_istore_n (lv' := [(1, .int r3), (0, .ref (ad 1))]) C.1.1 C.1.2.1 dX8_readRead_6 rfl hl (by decide) rfl (fun ls hl => ?_)
  refine lv_aload_n C.1.1 C.1.2.1 dX8_readRead_7 rfl (lv_at hl 1 rfl) ?_
  refine lv_iconst (v := 0) C.1.1 C.1.2.1 dX8_readRead_8 (by decide) ?_
  refine lv_iconst (v := 2) C.1.1 C.1.2.1 dX8_readRead_9 (by decide) ?_
  obtain ⟨r6, M4, L5, h1, hD⟩ := g_b3 hD
  refine md_cvI (As := [.int 0, .int 2]) (rest := []) C hw (tX8_toldName l G ad fu 0 2 M1 L2 h1) kc_8 (by decide) tf_1 wd_942 cwX8_toldName ⟨Nat.le_of_ble_eq_true rfl, Nat.le_of_ble_eq_true rfl⟩ rfl hl.1 (Nat.le_of_ble_eq_true rfl) dX8_readRead_10 rfl rfl ⟨Nat.zero_le _, Nat.zero_le _⟩ rfl (fun H locs hw => ?_)
  refine lv_istore_n (lv' := [(2, .int r6), (1, .int r3), (0, .ref (ad 1))]) C.1.1 C.1.2.1 dX8_readRead_13 rfl hl (by decide) rfl (fun ls hl => ?_)
  refine lv_aload_n C.1.1 C.1.2.1 dX8_readRead_14 rfl (lv_at hl 2 rfl) ?_
  refine lv_iload_n C.1.1 C.1.2.1 dX8_readRead_15 rfl (lv_at hl 0 rfl) ?_
  obtain ⟨r9, M7, L8, h1, hD⟩ := g_b3 hD
  refine md_csI (As := [.int r6]) (rest := [.ref (ad 1)]) C hw (tX8_dataOf l G ad fu r6 M4 L5 h1) wd_1032 cwX8_dataOf ⟨Nat.le_of_ble_eq_true rfl, Nat.le_of_ble_eq_true rfl⟩ rfl hl.1 (Nat.le_of_ble_eq_true rfl) dX8_readRead_16 rfl rfl ⟨Nat.zero_le _, Nat.zero_le _⟩ rfl (fun H locs hw => ?_)
  refine lv_iconst (v := 5) C.1.1 C.1.2.1 dX8_readRead_19 (by decide) ?_
  obtain ⟨r12, M10, L11, h1, hD⟩ := g_b3 hD
  refine md_cvI (As := [.int r9, .int 5]) (rest := []) C hw (tX8_toldName l G ad fu r9 5 M7 L8 h1) kc_8 (by decide) tf_1 wd_942 cwX8_toldName ⟨Nat.le_of_ble_eq_true rfl, Nat.le_of_ble_eq_true rfl⟩ rfl hl.1 (Nat.le_of_ble_eq_true rfl) dX8_readRead_20 rfl rfl ⟨Nat.zero_le _, Nat.zero_le _⟩ rfl (fun H locs hw => ?_)
  refine lv_istore_n (lv' := [(3, .int r12), (2, .int r6), (1, .int r3), (0, .ref (ad 1))]) C.1.1 C.1.2.1 dX8_readRead_23 rfl hl (by decide) rfl (fun ls hl => ?_)
  refine lv_aload_n C.1.1 C.1.2.1 dX8_readRead_24 rfl (lv_at hl 3 rfl) ?_
  refine lv_iconst (v := 0) C.1.1 C.1.2.1 dX8_readRead_25 (by decide) ?_
  refine lv_bipush (v := 99) C.1.1 C.1.2.1 dX8_readRead_26 (by decide) ?_
  obtain ⟨r15, M13, L14, h1, hD⟩ := g_b3 hD
  refine md_cvI (As := [.int 0, .int 99]) (rest := []) C hw (tX8_number l G ad fu 0 99 M10 L11 h1) kc_8 (by decide) tf_1 wd_950 cwX8_number ⟨Nat.le_of_ble_eq_true rfl, Nat.le_of_ble_eq_true rfl⟩ rfl hl.1 (Nat.le_of_ble_eq_true rfl) dX8_readRead_28 rfl rfl ⟨Nat.zero_le _, Nat.zero_le _⟩ rfl (fun H locs hw => ?_)
  refine lv_istore (lv' := [(4, .int r15), (3, .int r12), (2, .int r6), (1, .int r3), (0, .ref (ad 1))]) C.1.1 C.1.2.1 dX8_readRead_31 hl (by decide) rfl (fun ls hl => ?_)
  refine lv_aload_n C.1.1 C.1.2.1 dX8_readRead_33 rfl (lv_at hl 4 rfl) ?_
  obtain ⟨M16, L17, h1, hD⟩ := g_b2 hD
  refine md_cvV (As := []) (rest := []) C hw (tX8_endLine l G ad fu M13 L14 h1) kc_8 (by decide) tf_1 wd_930 cwX8_endLine ⟨Nat.le_of_ble_eq_true rfl, Nat.le_of_ble_eq_true rfl⟩ rfl hl.1 (Nat.le_of_ble_eq_true rfl) dX8_readRead_34 rfl rfl ⟨Nat.zero_le _, Nat.zero_le _⟩ rfl (fun H locs hw => ?_)
  refine lv_aload_n C.1.1 C.1.2.1 dX8_readRead_37 rfl (lv_at hl 4 rfl) ?_
  refine lv_iload_n C.1.1 C.1.2.1 dX8_readRead_38 rfl (lv_at hl 3 rfl) ?_
  refine lv_aload_n C.1.1 C.1.2.1 dX8_readRead_39 rfl (lv_at hl 4 rfl) ?_
  refine mr_getR C hw kc_8 1 (by decide) tf_1 ff_1_1 wd_595 dX8_readRead_40 (by decide) rfl ?_
  refine mr_getNR C hw kc_1 0 (by decide) tf_3 ff_3_0 nd_512 dX8_readRead_43 (by decide) rfl ?_
  refine lv_iload_n C.1.1 C.1.2.1 dX8_readRead_46 rfl (lv_at hl 2 rfl) ?_
  obtain ⟨q18, hD⟩ := g_ck hD
  refine mr_aald C hw (by decide) tf_4 (by decide) (by decide) rfl rfl q18 (fr_4 _ (g_lt q18)) dX8_readRead_47 ?_
  refine mr_getNI C hw kc_2 5 (Ch_N0 (isCh_of (g_lt q18))) (Ch_T0 (isCh_of (g_lt q18))) nd_456 dX8_readRead_48 (by decide) rfl ?_
  obtain ⟨M19, L20, h1, hD⟩ := g_b2 hD
  refine md_cvV (As := [.int r3, .int (M16 ((293 + 36 * r6.toNatClampNeg) + 0) 5)]) (rest := []) C hw (tX8_refuseOwn l G ad fu r3 (M16 ((293 + 36 * r6.toNatClampNeg) + 0) 5) M16 L17 h1) kc_8 (by decide) tf_1 wd_1096 cwX8_refuseOwn ⟨Nat.le_of_ble_eq_true rfl, Nat.le_of_ble_eq_true rfl⟩ rfl hl.1 (Nat.le_of_ble_eq_true rfl) dX8_readRead_51 rfl rfl ⟨Nat.zero_le _, Nat.zero_le _⟩ rfl (fun H locs hw => ?_)
  refine lv_aload_n C.1.1 C.1.2.1 dX8_readRead_54 rfl (lv_at hl 4 rfl) ?_
  refine mr_getI C hw kc_8 12 (by decide) tf_1 wd_607 dX8_readRead_55 (by decide) rfl ?_
  refine lv_if_ne (tgt := 77) C.1.1 C.1.2.1 dX8_readRead_58 (by decide) (fun c21 => ?_) (fun c21 => ?_)
  · replace hD := g_neg c21 hD
    exact hb77 M19 L20 _ _ ls hD hw (lv_sub hl [] rfl)
  · replace hD := g_pos c21 hD
    refine lv_aload_n C.1.1 C.1.2.1 dX8_readRead_61 rfl (lv_at hl 4 rfl) ?_
    refine lv_aload_n C.1.1 C.1.2.1 dX8_readRead_62 rfl (lv_at hl 4 rfl) ?_
    refine mr_getR C hw kc_8 1 (by decide) tf_1 ff_1_1 wd_595 dX8_readRead_63 (by decide) rfl ?_
    refine lv_iload_n C.1.1 C.1.2.1 dX8_readRead_66 rfl (lv_at hl 3 rfl) ?_
    refine lv_iload_n C.1.1 C.1.2.1 dX8_readRead_67 rfl (lv_at hl 2 rfl) ?_
    refine lv_iload_n C.1.1 C.1.2.1 dX8_readRead_68 rfl (lv_at hl 1 rfl) ?_
    refine lv_iload C.1.1 C.1.2.1 dX8_readRead_69 (lv_at hl 0 rfl) ?_
    obtain ⟨r24, M22, L23, h1, hD⟩ := g_b3 hD
    refine md_cvI (As := [.int r3, .int r6, .int r12, .int r15]) (rest := [.ref (ad 1)]) C hw (tX1_addRead l G ad fu r3 r6 r12 r15 M19 L20 h1) kc_1 (by decide) tf_3 wd_1100 cwX1_addRead ⟨Nat.le_of_ble_eq_true rfl, Nat.le_of_ble_eq_true rfl⟩ rfl hl.1 (Nat.le_of_ble_eq_true rfl) dX8_readRead_71 rfl rfl ⟨Nat.zero_le _, Nat.zero_le _⟩ rfl (fun H locs hw => ?_)
    obtain ⟨M25, L26, h1, hD⟩ := g_b2 hD
    refine md_cvV (As := [.int r24]) (rest := []) C hw (tX8_heed l G ad fu r24 M22 L23 h1) kc_8 (by decide) tf_1 wd_1014 cwX8_heed ⟨Nat.le_of_ble_eq_true rfl, Nat.le_of_ble_eq_true rfl⟩ rfl hl.1 (Nat.le_of_ble_eq_true rfl) dX8_readRead_74 rfl rfl ⟨Nat.zero_le _, Nat.zero_le _⟩ rfl (fun H locs hw => ?_)
    exact hb77 M25 L26 _ _ ls hD hw (lv_sub hl [] rfl)
