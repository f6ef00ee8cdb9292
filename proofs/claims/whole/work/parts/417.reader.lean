theorem dX8_readWatch_0 : decode cX8_readWatch 0 = .ok (.aload_n 0, 1) := by decide +kernel
theorem dX8_readWatch_1 : decode cX8_readWatch 1 = .ok (.iconst 0, 1) := by decide +kernel
theorem dX8_readWatch_2 : decode cX8_readWatch 2 = .ok (.iconst 3, 1) := by decide +kernel
theorem dX8_readWatch_3 : decode cX8_readWatch 3 = .ok (.invokevirtual 151, 3) := by decide +kernel
theorem dX8_readWatch_6 : decode cX8_readWatch 6 = .ok (.istore_n 1, 1) := by decide +kernel
theorem dX8_readWatch_7 : decode cX8_readWatch 7 = .ok (.aload_n 0, 1) := by decide +kernel
theorem dX8_readWatch_8 : decode cX8_readWatch 8 = .ok (.iconst 0, 1) := by decide +kernel
theorem dX8_readWatch_9 : decode cX8_readWatch 9 = .ok (.iconst 0, 1) := by decide +kernel
theorem dX8_readWatch_10 : decode cX8_readWatch 10 = .ok (.invokevirtual 151, 3) := by decide +kernel
theorem dX8_readWatch_13 : decode cX8_readWatch 13 = .ok (.istore_n 2, 1) := by decide +kernel
theorem dX8_readWatch_14 : decode cX8_readWatch 14 = .ok (.aload_n 0, 1) := by decide +kernel
theorem dX8_readWatch_15 : decode cX8_readWatch 15 = .ok (.iconst 1, 1) := by decide +kernel
theorem dX8_readWatch_16 : decode cX8_readWatch 16 = .ok (.sipush 255, 3) := by decide +kernel
theorem dX8_readWatch_19 : decode cX8_readWatch 19 = .ok (.invokevirtual 155, 3) := by decide +kernel
theorem dX8_readWatch_22 : decode cX8_readWatch 22 = .ok (.istore_n 3, 1) := by decide +kernel
theorem dX8_readWatch_23 : decode cX8_readWatch 23 = .ok (.aload_n 0, 1) := by decide +kernel
theorem dX8_readWatch_24 : decode cX8_readWatch 24 = .ok (.invokevirtual 136, 3) := by decide +kernel
theorem dX8_readWatch_27 : decode cX8_readWatch 27 = .ok (.aload_n 0, 1) := by decide +kernel
theorem dX8_readWatch_28 : decode cX8_readWatch 28 = .ok (.iload_n 1, 1) := by decide +kernel
theorem dX8_readWatch_29 : decode cX8_readWatch 29 = .ok (.iload_n 2, 1) := by decide +kernel
theorem dX8_readWatch_30 : decode cX8_readWatch 30 = .ok (.invokevirtual 252, 3) := by decide +kernel
theorem dX8_readWatch_33 : decode cX8_readWatch 33 = .ok (.aload_n 0, 1) := by decide +kernel
theorem dX8_readWatch_34 : decode cX8_readWatch 34 = .ok (.getfield 34, 3) := by decide +kernel
theorem dX8_readWatch_37 : decode cX8_readWatch 37 = .ok (.ifCond .ne 40, 3) := by decide +kernel
theorem dX8_readWatch_40 : decode cX8_readWatch 40 = .ok (.aload_n 0, 1) := by decide +kernel
theorem dX8_readWatch_41 : decode cX8_readWatch 41 = .ok (.getfield 18, 3) := by decide +kernel
theorem dX8_readWatch_44 : decode cX8_readWatch 44 = .ok (.getfield 75, 3) := by decide +kernel
theorem dX8_readWatch_47 : decode cX8_readWatch 47 = .ok (.getfield 85, 3) := by decide +kernel
theorem dX8_readWatch_50 : decode cX8_readWatch 50 = .ok (.iconst 3, 1) := by decide +kernel
theorem dX8_readWatch_51 : decode cX8_readWatch 51 = .ok (.aaload, 1) := by decide +kernel
theorem dX8_readWatch_52 : decode cX8_readWatch 52 = .ok (.iload_n 1, 1) := by decide +kernel
theorem dX8_readWatch_53 : decode cX8_readWatch 53 = .ok (.iaload, 1) := by decide +kernel
theorem dX8_readWatch_54 : decode cX8_readWatch 54 = .ok (.istore 4, 2) := by decide +kernel
theorem dX8_readWatch_56 : decode cX8_readWatch 56 = .ok (.aload_n 0, 1) := by decide +kernel
theorem dX8_readWatch_57 : decode cX8_readWatch 57 = .ok (.aload_n 0, 1) := by decide +kernel
theorem dX8_readWatch_58 : decode cX8_readWatch 58 = .ok (.getfield 18, 3) := by decide +kernel
theorem dX8_readWatch_61 : decode cX8_readWatch 61 = .ok (.getfield 258, 3) := by decide +kernel
theorem dX8_readWatch_64 : decode cX8_readWatch 64 = .ok (.iload_n 1, 1) := by decide +kernel
theorem dX8_readWatch_65 : decode cX8_readWatch 65 = .ok (.iload_n 2, 1) := by decide +kernel
theorem dX8_readWatch_66 : decode cX8_readWatch 66 = .ok (.iload_n 3, 1) := by decide +kernel
theorem dX8_readWatch_67 : decode cX8_readWatch 67 = .ok (.iconst 3, 1) := by decide +kernel
theorem dX8_readWatch_68 : decode cX8_readWatch 68 = .ok (.iload 4, 2) := by decide +kernel
theorem dX8_readWatch_70 : decode cX8_readWatch 70 = .ok (.imul, 1) := by decide +kernel
theorem dX8_readWatch_71 : decode cX8_readWatch 71 = .ok (.invokevirtual 262, 3) := by decide +kernel
theorem dX8_readWatch_74 : decode cX8_readWatch 74 = .ok (.invokevirtual 190, 3) := by decide +kernel
theorem dX8_readWatch_77 : decode cX8_readWatch 77 = .ok (.return_, 1) := by decide +kernel
theorem cwX8_readWatch : mw_cwV yX8_readWatch cX8_readWatch 5 (none) 0 := ⟨⟨wd_2, wd_1107, by decide +kernel⟩, wd_1106, sl_42⟩
set_option maxHeartbeats 4000000 in
set_option maxRecDepth 100000 in
theorem tX8_readWatch (l : Launch) (G : mwG) (ad : Nat → Nat) (fu : Nat) (M : mwM) (L : mwL) {M0 : mwM} {L0 : mwL} (hD : DX8_readWatch fu M L = some (M0, L0)) : Met l yX8_readWatch (Cond.code yX8_readWatch cX8_readWatch 5 (none) :: GT) ({ frames := 4, cells := 0, slots := 0, locals := 87 }) (mw_Pre G ad NF TF FF M L [.ref (ad 1)]) (mw_Qv G ad NF TF FF (mw_eqV M0 L0)) 0 0 (mw_fr G) := by
  refine mw_enter (by decide) (Nat.le_of_ble_eq_true rfl) ?_
  intro p e s m below meth c ls C hr hlocks hnm hw hl
  have hl : lv_has ls 5 [(0, .ref (ad 1))] := hl
  have hb77 : ∀ (M : mwM) (L : mwL) (H : Heap) (locs : List Loc) (ls : Array Slot), fX8_readWatch_b77 fu M L = some (M0, L0) → mw_W G ad NF TF FF M L H locs → lv_has ls 5 [] → W p l e ({ frames := 4, cells := 0, slots := 0, locals := 87 }) s m [.ref (ad 1)].toArray below meth c H locs 0 0 (MQ below (mw_Qv G ad NF TF FF (mw_eqV M0 L0)) [.ref (ad 1)].toArray s 0 0 (mw_fr G)) (F0 m 77 ls []) := by
    intro M L H locs ls hD hw hl
    unfold fX8_readWatch_b77 at hD
    exact mr_vret C hr hlocks hw (Option.some.inj hD) dX8_readWatch_77
  unfold DX8_readWatch at hD
  refine lv_aload_n C.1.1 C.1.2.1 dX8_readWatch_0 rfl (lv_at hl 0 rfl) ?_
  refine lv_iconst (v := 0) C.1.1 C.1.2.1 dX8_readWatch_1 (by decide) ?_
  refine lv_iconst (v := 3) C.1.1 C.1.2.1 dX8_readWatch_2 (by decide) ?_
  obtain ⟨r3, M1, L2, h1, hD⟩ := g_b3 hD
  refine md_cvI (As := [.int 0, .int 3]) (rest := []) C hw (tX8_toldName l G ad fu 0 3 M L h1) kc_8 (by decide) tf_1 wd_942 cwX8_toldName ⟨Nat.le_of_ble_eq_true rfl, Nat.le_of_ble_eq_true rfl⟩ rfl hl.1 (Nat.le_of_ble_eq_true rfl) dX8_readWatch_3 rfl rfl ⟨Nat.zero_le _, Nat.zero_le _⟩ rfl (fun H locs hw => ?_)
  refine lv_istore_n (lv' := [(1, .int r3), (0, .ref (ad 1))]) C.1.1 C.1.2.1 dX8_readWatch_6 rfl hl (by decide) rfl (fun ls hl => ?_)
  refine lv_aload_n C.1.1 C.1.2.1 dX8_readWatch_7 rfl (lv_at hl 1 rfl) ?_
  refine lv_iconst (v := 0) C.1.1 C.1.2.1 dX8_readWatch_8 (by decide) ?_
  refine lv_iconst (v := 0) C.1.1 C.1.2.1 dX8_readWatch_9 (by decide) ?_
  obtain ⟨r6, M4, L5, h1, hD⟩ := g_b3 hD
  refine md_cvI (As := [.int 0, .int 0]) (rest := []) C hw (tX8_toldName l G ad fu 0 0 M1 L2 h1) kc_8 (by decide) tf_1 wd_942 cwX8_toldName ⟨Nat.le_of_ble_eq_true rfl, Nat.le_of_ble_eq_true rfl⟩ rfl hl.1 (Nat.le_of_ble_eq_true rfl) dX8_readWatch_10 rfl rfl ⟨Nat.zero_le _, Nat.zero_le _⟩ rfl (fun H locs hw => ?_)
  refine lv_istore_n (lv' := [(2, .int r6), (1, .int r3), (0, .ref (ad 1))]) C.1.1 C.1.2.1 dX8_readWatch_13 rfl hl (by decide) rfl (fun ls hl => ?_)
  refine lv_aload_n C.1.1 C.1.2.1 dX8_readWatch_14 rfl (lv_at hl 2 rfl) ?_
  refine lv_iconst (v := 1) C.1.1 C.1.2.1 dX8_readWatch_15 (by decide) ?_
  refine lv_sipush (v := 255) C.1.1 C.1.2.1 dX8_readWatch_16 (by decide) ?_
  obtain ⟨r9, M7, L8, h1, hD⟩ := g_b3 hD
  refine md_cvI (As := [.int 1, .int 255]) (rest := []) C hw (tX8_number l G ad fu 1 255 M4 L5 h1) kc_8 (by decide) tf_1 wd_950 cwX8_number ⟨Nat.le_of_ble_eq_true rfl, Nat.le_of_ble_eq_true rfl⟩ rfl hl.1 (Nat.le_of_ble_eq_true rfl) dX8_readWatch_19 rfl rfl ⟨Nat.zero_le _, Nat.zero_le _⟩ rfl (fun H locs hw => ?_)
  refine lv_istore_n (lv' := [(3, .int r9), (2, .int r6), (1, .int r3), (0, .ref (ad 1))]) C.1.1 C.1.2.1 dX8_readWatch_22 rfl hl (by decide) rfl (fun ls hl => ?_)
  refine lv_aload_n C.1.1 C.1.2.1 dX8_readWatch_23 rfl (lv_at hl 3 rfl) ?_
  obtain ⟨M10, L11, h1, hD⟩ := g_b2 hD
  refine md_cvV (As := []) (rest := []) C hw (tX8_endLine l G ad fu M7 L8 h1) kc_8 (by decide) tf_1 wd_930 cwX8_endLine ⟨Nat.le_of_ble_eq_true rfl, Nat.le_of_ble_eq_true rfl⟩ rfl hl.1 (Nat.le_of_ble_eq_true rfl) dX8_readWatch_24 rfl rfl ⟨Nat.zero_le _, Nat.zero_le _⟩ rfl (fun H locs hw => ?_)
  refine lv_aload_n C.1.1 C.1.2.1 dX8_readWatch_27 rfl (lv_at hl 3 rfl) ?_
  refine lv_iload_n C.1.1 C.1.2.1 dX8_readWatch_28 rfl (lv_at hl 2 rfl) ?_
  refine lv_iload_n C.1.1 C.1.2.1 dX8_readWatch_29 rfl (lv_at hl 1 rfl) ?_
  obtain ⟨M12, L13, h1, hD⟩ := g_b2 hD
  refine md_cvV (As := [.int r3, .int r6]) (rest := []) C hw (tX8_refuseOwn l G ad fu r3 r6 M10 L11 h1) kc_8 (by decide) tf_1 wd_1096 cwX8_refuseOwn ⟨Nat.le_of_ble_eq_true rfl, Nat.le_of_ble_eq_true rfl⟩ rfl hl.1 (Nat.le_of_ble_eq_true rfl) dX8_readWatch_30 rfl rfl ⟨Nat.zero_le _, Nat.zero_le _⟩ rfl (fun H locs hw => ?_)
  refine lv_aload_n C.1.1 C.1.2.1 dX8_readWatch_33 rfl (lv_at hl 3 rfl) ?_
  refine mr_getI C hw kc_8 12 (by decide) tf_1 wd_607 dX8_readWatch_34 (by decide) rfl ?_
  refine lv_if_ne (tgt := 77) C.1.1 C.1.2.1 dX8_readWatch_37 (by decide) (fun c14 => ?_) (fun c14 => ?_)
  · replace hD := g_neg c14 hD
    exact hb77 M12 L13 _ _ ls hD hw (lv_sub hl [] rfl)
  · replace hD := g_pos c14 hD
    refine lv_aload_n C.1.1 C.1.2.1 dX8_readWatch_40 rfl (lv_at hl 3 rfl) ?_
    refine mr_getR C hw kc_8 1 (by decide) tf_1 ff_1_1 wd_595 dX8_readWatch_41 (by decide) rfl ?_
    refine mr_getNR C hw kc_1 3 (by decide) tf_3 ff_3_3 nd_520 dX8_readWatch_44 (by decide) rfl ?_
    refine mr_getNR C hw kc_6 0 (by decide) tf_61 ff_61_0 nd_229 dX8_readWatch_47 (by decide) rfl ?_
    refine lv_iconst (v := 3) C.1.1 C.1.2.1 dX8_readWatch_50 (by decide) ?_
    refine mr_aald C hw (by decide) tf_62 (by decide) (by decide) rfl rfl (show vp_in 3 10 from by unfold vp_in; decide) ff_62_3 dX8_readWatch_51 ?_
    refine lv_iload_n C.1.1 C.1.2.1 dX8_readWatch_52 rfl (lv_at hl 2 rfl) ?_
    obtain ⟨q16, hD⟩ := g_ck hD
    refine mr_iald C hw (by decide) tf_66 q16 dX8_readWatch_53 ?_
    obtain ⟨x17, ex17, hD⟩ := g_let hD
    refine W.eq (g2 := F0 m 54 ls (.int x17 :: [])) (by rw [ex17]) ?_
    refine lv_istore (lv' := [(4, .int x17), (3, .int r9), (2, .int r6), (1, .int r3), (0, .ref (ad 1))]) C.1.1 C.1.2.1 dX8_readWatch_54 hl (by decide) rfl (fun ls hl => ?_)
    refine lv_aload_n C.1.1 C.1.2.1 dX8_readWatch_56 rfl (lv_at hl 4 rfl) ?_
    refine lv_aload_n C.1.1 C.1.2.1 dX8_readWatch_57 rfl (lv_at hl 4 rfl) ?_
    refine mr_getR C hw kc_8 1 (by decide) tf_1 ff_1_1 wd_595 dX8_readWatch_58 (by decide) rfl ?_
    refine mr_getNR C hw kc_1 5 (by decide) tf_3 ff_3_5 nd_527 dX8_readWatch_61 (by decide) rfl ?_
    refine lv_iload_n C.1.1 C.1.2.1 dX8_readWatch_64 rfl (lv_at hl 3 rfl) ?_
    refine lv_iload_n C.1.1 C.1.2.1 dX8_readWatch_65 rfl (lv_at hl 2 rfl) ?_
    refine lv_iload_n C.1.1 C.1.2.1 dX8_readWatch_66 rfl (lv_at hl 1 rfl) ?_
    refine lv_iconst (v := 3) C.1.1 C.1.2.1 dX8_readWatch_67 (by decide) ?_
    refine lv_iload C.1.1 C.1.2.1 dX8_readWatch_68 (lv_at hl 0 rfl) ?_
    refine lv_imul C.1.1 C.1.2.1 dX8_readWatch_70 ?_
    obtain ⟨r20, M18, L19, h1, hD⟩ := g_b3 hD
    refine md_cvI (As := [.int r3, .int r6, .int r9, .int (3 * x17)]) (rest := [.ref (ad 1)]) C hw (tX10_addWatch l G ad fu r3 r6 r9 (3 * x17) M12 L13 h1) kc_10 (by decide) tf_139 wd_1108 cwX10_addWatch ⟨Nat.le_of_ble_eq_true rfl, Nat.le_of_ble_eq_true rfl⟩ rfl hl.1 (Nat.le_of_ble_eq_true rfl) dX8_readWatch_71 rfl rfl ⟨Nat.zero_le _, Nat.zero_le _⟩ rfl (fun H locs hw => ?_)
    obtain ⟨M21, L22, h1, hD⟩ := g_b2 hD
    refine md_cvV (As := [.int r20]) (rest := []) C hw (tX8_heed l G ad fu r20 M18 L19 h1) kc_8 (by decide) tf_1 wd_1014 cwX8_heed ⟨Nat.le_of_ble_eq_true rfl, Nat.le_of_ble_eq_true rfl⟩ rfl hl.1 (Nat.le_of_ble_eq_true rfl) dX8_readWatch_74 rfl rfl ⟨Nat.zero_le _, Nat.zero_le _⟩ rfl (fun H locs hw => ?_)
    exact hb77 M21 L22 _ _ ls hD hw (lv_sub hl [] rfl)

theorem dX8_readLine_0 : decode cX8_readLine 0 = .ok (.aload_n 0, 1) := by decide +kernel
theorem dX8_readLine_1 : decode cX8_readLine 1 = .ok (.ldc 88, 2) := by decide +kernel
theorem dX8_readLine_3 : decode cX8_readLine 3 = .ok (.invokevirtual 90, 3) := by decide +kernel
theorem dX8_readLine_6 : decode cX8_readLine 6 = .ok (.tableswitch 171 0 13 #[70, 77, 84, 91, 98, 105, 112, 119, 127, 135, 143, 150, 157, 164], 70) := by decide +kernel
theorem dX8_readLine_76 : decode cX8_readLine 76 = .ok (.aload_n 0, 1) := by decide +kernel
theorem dX8_readLine_77 : decode cX8_readLine 77 = .ok (.invokevirtual 94, 3) := by decide +kernel
theorem dX8_readLine_80 : decode cX8_readLine 80 = .ok (.goto 106, 3) := by decide +kernel
theorem dX8_readLine_83 : decode cX8_readLine 83 = .ok (.aload_n 0, 1) := by decide +kernel
theorem dX8_readLine_84 : decode cX8_readLine 84 = .ok (.invokevirtual 97, 3) := by decide +kernel
theorem dX8_readLine_87 : decode cX8_readLine 87 = .ok (.goto 99, 3) := by decide +kernel
theorem dX8_readLine_90 : decode cX8_readLine 90 = .ok (.aload_n 0, 1) := by decide +kernel
theorem dX8_readLine_91 : decode cX8_readLine 91 = .ok (.invokevirtual 100, 3) := by decide +kernel
theorem dX8_readLine_94 : decode cX8_readLine 94 = .ok (.goto 92, 3) := by decide +kernel
theorem dX8_readLine_97 : decode cX8_readLine 97 = .ok (.aload_n 0, 1) := by decide +kernel
theorem dX8_readLine_98 : decode cX8_readLine 98 = .ok (.invokevirtual 103, 3) := by decide +kernel
theorem dX8_readLine_101 : decode cX8_readLine 101 = .ok (.goto 85, 3) := by decide +kernel
theorem dX8_readLine_104 : decode cX8_readLine 104 = .ok (.aload_n 0, 1) := by decide +kernel
theorem dX8_readLine_105 : decode cX8_readLine 105 = .ok (.invokevirtual 106, 3) := by decide +kernel
theorem dX8_readLine_108 : decode cX8_readLine 108 = .ok (.goto 78, 3) := by decide +kernel
theorem dX8_readLine_111 : decode cX8_readLine 111 = .ok (.aload_n 0, 1) := by decide +kernel
theorem dX8_readLine_112 : decode cX8_readLine 112 = .ok (.invokevirtual 109, 3) := by decide +kernel
theorem dX8_readLine_115 : decode cX8_readLine 115 = .ok (.goto 71, 3) := by decide +kernel
theorem dX8_readLine_118 : decode cX8_readLine 118 = .ok (.aload_n 0, 1) := by decide +kernel
theorem dX8_readLine_119 : decode cX8_readLine 119 = .ok (.invokevirtual 112, 3) := by decide +kernel
theorem dX8_readLine_122 : decode cX8_readLine 122 = .ok (.goto 64, 3) := by decide +kernel
theorem dX8_readLine_125 : decode cX8_readLine 125 = .ok (.aload_n 0, 1) := by decide +kernel
theorem dX8_readLine_126 : decode cX8_readLine 126 = .ok (.iconst 0, 1) := by decide +kernel
theorem dX8_readLine_127 : decode cX8_readLine 127 = .ok (.invokevirtual 117, 3) := by decide +kernel
theorem dX8_readLine_130 : decode cX8_readLine 130 = .ok (.goto 56, 3) := by decide +kernel
theorem dX8_readLine_133 : decode cX8_readLine 133 = .ok (.aload_n 0, 1) := by decide +kernel
theorem dX8_readLine_134 : decode cX8_readLine 134 = .ok (.iconst 1, 1) := by decide +kernel
theorem dX8_readLine_135 : decode cX8_readLine 135 = .ok (.invokevirtual 117, 3) := by decide +kernel
theorem dX8_readLine_138 : decode cX8_readLine 138 = .ok (.goto 48, 3) := by decide +kernel
theorem dX8_readLine_141 : decode cX8_readLine 141 = .ok (.aload_n 0, 1) := by decide +kernel
theorem dX8_readLine_142 : decode cX8_readLine 142 = .ok (.iconst 2, 1) := by decide +kernel
theorem dX8_readLine_143 : decode cX8_readLine 143 = .ok (.invokevirtual 117, 3) := by decide +kernel
theorem dX8_readLine_146 : decode cX8_readLine 146 = .ok (.goto 40, 3) := by decide +kernel
theorem dX8_readLine_149 : decode cX8_readLine 149 = .ok (.aload_n 0, 1) := by decide +kernel
theorem dX8_readLine_150 : decode cX8_readLine 150 = .ok (.invokevirtual 120, 3) := by decide +kernel
theorem dX8_readLine_153 : decode cX8_readLine 153 = .ok (.goto 33, 3) := by decide +kernel
theorem dX8_readLine_156 : decode cX8_readLine 156 = .ok (.aload_n 0, 1) := by decide +kernel
theorem dX8_readLine_157 : decode cX8_readLine 157 = .ok (.invokevirtual 123, 3) := by decide +kernel
theorem dX8_readLine_160 : decode cX8_readLine 160 = .ok (.goto 26, 3) := by decide +kernel
theorem dX8_readLine_163 : decode cX8_readLine 163 = .ok (.aload_n 0, 1) := by decide +kernel
theorem dX8_readLine_164 : decode cX8_readLine 164 = .ok (.invokevirtual 126, 3) := by decide +kernel
theorem dX8_readLine_167 : decode cX8_readLine 167 = .ok (.goto 19, 3) := by decide +kernel
theorem dX8_readLine_170 : decode cX8_readLine 170 = .ok (.aload_n 0, 1) := by decide +kernel
theorem dX8_readLine_171 : decode cX8_readLine 171 = .ok (.invokevirtual 129, 3) := by decide +kernel
theorem dX8_readLine_174 : decode cX8_readLine 174 = .ok (.goto 12, 3) := by decide +kernel
theorem dX8_readLine_177 : decode cX8_readLine 177 = .ok (.aload_n 0, 1) := by decide +kernel
theorem dX8_readLine_178 : decode cX8_readLine 178 = .ok (.iconst 1, 1) := by decide +kernel
theorem dX8_readLine_179 : decode cX8_readLine 179 = .ok (.aload_n 0, 1) := by decide +kernel
theorem dX8_readLine_180 : decode cX8_readLine 180 = .ok (.getfield 50, 3) := by decide +kernel
theorem dX8_readLine_183 : decode cX8_readLine 183 = .ok (.invokevirtual 71, 3) := by decide +kernel
theorem dX8_readLine_186 : decode cX8_readLine 186 = .ok (.return_, 1) := by decide +kernel
theorem cwX8_readLine : mw_cwV yX8_readLine cX8_readLine 1 (none) 0 := ⟨⟨wd_2, wd_837, by decide +kernel⟩, wd_836, sl_4⟩
set_option maxHeartbeats 4000000 in
set_option maxRecDepth 100000 in
theorem tX8_readLine (l : Launch) (G : mwG) (ad : Nat → Nat) (fu : Nat) (M : mwM) (L : mwL) {M0 : mwM} {L0 : mwL} (hD : DX8_readLine fu M L = some (M0, L0)) : Met l yX8_readLine (Cond.code yX8_readLine cX8_readLine 1 (none) :: GT) ({ frames := 8, cells := 0, slots := 0, locals := 181 }) (mw_Pre G ad NF TF FF M L [.ref (ad 1)]) (mw_Qv G ad NF TF FF (mw_eqV M0 L0)) 0 0 (mw_fr G) := by
  refine mw_enter (by decide) (Nat.le_of_ble_eq_true rfl) ?_
  intro p e s m below meth c ls C hr hlocks hnm hw hl
  have hl : lv_has ls 1 [(0, .ref (ad 1))] := hl
  have hb186 : ∀ (M : mwM) (L : mwL) (H : Heap) (locs : List Loc) (ls : Array Slot), fX8_readLine_b186 fu M L = some (M0, L0) → mw_W G ad NF TF FF M L H locs → lv_has ls 1 [] → W p l e ({ frames := 8, cells := 0, slots := 0, locals := 181 }) s m [.ref (ad 1)].toArray below meth c H locs 0 0 (MQ below (mw_Qv G ad NF TF FF (mw_eqV M0 L0)) [.ref (ad 1)].toArray s 0 0 (mw_fr G)) (F0 m 186 ls []) := by
    intro M L H locs ls hD hw hl
    unfold fX8_readLine_b186 at hD
    exact mr_vret C hr hlocks hw (Option.some.inj hD) dX8_readLine_186
  unfold DX8_readLine at hD
  refine lv_aload_n C.1.1 C.1.2.1 dX8_readLine_0 rfl (lv_at hl 0 rfl) ?_
  refine mr_ldcS (i := 0) C (by decide) rfl dX8_readLine_1 ?_
  obtain ⟨r3, M1, L2, h1, hD⟩ := g_b3 hD
  refine md_cvI (As := [.ref (G.2.1 1000 0)]) (rest := []) C hw (tX8_indexIn l G ad fu 0 M L h1 (by decide : 0 < 8)) kc_8 (by decide) tf_1 wd_839 cwX8_indexIn ⟨Nat.le_of_ble_eq_true rfl, Nat.le_of_ble_eq_true rfl⟩ rfl hl.1 (Nat.le_of_ble_eq_true rfl) dX8_readLine_3 rfl rfl ⟨Nat.zero_le _, Nat.zero_le _⟩ rfl (fun H locs hw => ?_)
  obtain ⟨x4, ex4, hD⟩ := g_let hD
  refine W.eq (g2 := F0 m 6 ls (.int x4 :: [])) (by rw [ex4]) ?_
  by_cases c5 : x4 = 0
  · replace hD := g_pos c5 hD
    refine lv_tableIn (tgt := 76) C.1.1 C.1.2.1 dX8_readLine_6 (by rw [c5]; decide) (by rw [c5]; decide) (off := 70) (by rw [c5]; decide) (by decide) ?_
    refine lv_aload_n C.1.1 C.1.2.1 dX8_readLine_76 rfl (lv_at hl 0 rfl) ?_
    obtain ⟨M6, L7, h1, hD⟩ := g_b2 hD
    refine md_cvV (As := []) (rest := []) C hw (tX8_readController l G ad fu M1 L2 h1) kc_8 (by decide) tf_1 wd_895 cwX8_readController ⟨Nat.le_of_ble_eq_true rfl, Nat.le_of_ble_eq_true rfl⟩ rfl hl.1 (Nat.le_of_ble_eq_true rfl) dX8_readLine_77 rfl rfl ⟨Nat.zero_le _, Nat.zero_le _⟩ rfl (fun H locs hw => ?_)
    refine lv_goto (tgt := 186) C.1.1 C.1.2.1 dX8_readLine_80 (by decide) ?_
    exact hb186 M6 L7 _ _ ls hD hw (lv_sub hl [] rfl)
  replace hD := g_neg c5 hD
  by_cases c8 : x4 = 1
  · replace hD := g_pos c8 hD
    refine lv_tableIn (tgt := 83) C.1.1 C.1.2.1 dX8_readLine_6 (by rw [c8]; decide) (by rw [c8]; decide) (off := 77) (by rw [c8]; decide) (by decide) ?_
    refine lv_aload_n C.1.1 C.1.2.1 dX8_readLine_83 rfl (lv_at hl 0 rfl) ?_
    obtain ⟨M9, L10, h1, hD⟩ := g_b2 hD
    refine md_cvV (As := []) (rest := []) C hw (tX8_readTask l G ad fu M1 L2 h1) kc_8 (by decide) tf_1 wd_938 cwX8_readTask ⟨Nat.le_of_ble_eq_true rfl, Nat.le_of_ble_eq_true rfl⟩ rfl hl.1 (Nat.le_of_ble_eq_true rfl) dX8_readLine_84 rfl rfl ⟨Nat.zero_le _, Nat.zero_le _⟩ rfl (fun H locs hw => ?_)
    refine lv_goto (tgt := 186) C.1.1 C.1.2.1 dX8_readLine_87 (by decide) ?_
    exact hb186 M9 L10 _ _ ls hD hw (lv_sub hl [] rfl)
  replace hD := g_neg c8 hD
  by_cases c11 : x4 = 2
  · replace hD := g_pos c11 hD
    refine lv_tableIn (tgt := 90) C.1.1 C.1.2.1 dX8_readLine_6 (by rw [c11]; decide) (by rw [c11]; decide) (off := 84) (by rw [c11]; decide) (by decide) ?_
    refine lv_aload_n C.1.1 C.1.2.1 dX8_readLine_90 rfl (lv_at hl 0 rfl) ?_
    obtain ⟨M12, L13, h1, hD⟩ := g_b2 hD
    refine md_cvV (As := []) (rest := []) C hw (tX8_readChart l G ad fu M1 L2 h1) kc_8 (by decide) tf_1 wd_970 cwX8_readChart ⟨Nat.le_of_ble_eq_true rfl, Nat.le_of_ble_eq_true rfl⟩ rfl hl.1 (Nat.le_of_ble_eq_true rfl) dX8_readLine_91 rfl rfl ⟨Nat.zero_le _, Nat.zero_le _⟩ rfl (fun H locs hw => ?_)
    refine lv_goto (tgt := 186) C.1.1 C.1.2.1 dX8_readLine_94 (by decide) ?_
    exact hb186 M12 L13 _ _ ls hD hw (lv_sub hl [] rfl)
  replace hD := g_neg c11 hD
  by_cases c14 : x4 = 3
  · replace hD := g_pos c14 hD
    refine lv_tableIn (tgt := 97) C.1.1 C.1.2.1 dX8_readLine_6 (by rw [c14]; decide) (by rw [c14]; decide) (off := 91) (by rw [c14]; decide) (by decide) ?_
    refine lv_aload_n C.1.1 C.1.2.1 dX8_readLine_97 rfl (lv_at hl 0 rfl) ?_
    obtain ⟨M15, L16, h1, hD⟩ := g_b2 hD
    refine md_cvV (As := []) (rest := []) C hw (tX8_readState l G ad fu M1 L2 h1) kc_8 (by decide) tf_1 wd_986 cwX8_readState ⟨Nat.le_of_ble_eq_true rfl, Nat.le_of_ble_eq_true rfl⟩ rfl hl.1 (Nat.le_of_ble_eq_true rfl) dX8_readLine_98 rfl rfl ⟨Nat.zero_le _, Nat.zero_le _⟩ rfl (fun H locs hw => ?_)
    refine lv_goto (tgt := 186) C.1.1 C.1.2.1 dX8_readLine_101 (by decide) ?_
    exact hb186 M15 L16 _ _ ls hD hw (lv_sub hl [] rfl)
  replace hD := g_neg c14 hD
  by_cases c17 : x4 = 4
  · replace hD := g_pos c17 hD
    refine lv_tableIn (tgt := 104) C.1.1 C.1.2.1 dX8_readLine_6 (by rw [c17]; decide) (by rw [c17]; decide) (off := 98) (by rw [c17]; decide) (by decide) ?_
    refine lv_aload_n C.1.1 C.1.2.1 dX8_readLine_104 rfl (lv_at hl 0 rfl) ?_
    obtain ⟨M18, L19, h1, hD⟩ := g_b2 hD
    refine md_cvV (As := []) (rest := []) C hw (tX8_readEdge l G ad fu M1 L2 h1) kc_8 (by decide) tf_1 wd_1018 cwX8_readEdge ⟨Nat.le_of_ble_eq_true rfl, Nat.le_of_ble_eq_true rfl⟩ rfl hl.1 (Nat.le_of_ble_eq_true rfl) dX8_readLine_105 rfl rfl ⟨Nat.zero_le _, Nat.zero_le _⟩ rfl (fun H locs hw => ?_)
    refine lv_goto (tgt := 186) C.1.1 C.1.2.1 dX8_readLine_108 (by decide) ?_
    exact hb186 M18 L19 _ _ ls hD hw (lv_sub hl [] rfl)
  replace hD := g_neg c17 hD
  by_cases c20 : x4 = 5
  · replace hD := g_pos c20 hD
    refine lv_tableIn (tgt := 111) C.1.1 C.1.2.1 dX8_readLine_6 (by rw [c20]; decide) (by rw [c20]; decide) (off := 105) (by rw [c20]; decide) (by decide) ?_
    refine lv_aload_n C.1.1 C.1.2.1 dX8_readLine_111 rfl (lv_at hl 0 rfl) ?_
    obtain ⟨M21, L22, h1, hD⟩ := g_b2 hD
    refine md_cvV (As := []) (rest := []) C hw (tX8_readAfter l G ad fu M1 L2 h1) kc_8 (by decide) tf_1 wd_1044 cwX8_readAfter ⟨Nat.le_of_ble_eq_true rfl, Nat.le_of_ble_eq_true rfl⟩ rfl hl.1 (Nat.le_of_ble_eq_true rfl) dX8_readLine_112 rfl rfl ⟨Nat.zero_le _, Nat.zero_le _⟩ rfl (fun H locs hw => ?_)
    refine lv_goto (tgt := 186) C.1.1 C.1.2.1 dX8_readLine_115 (by decide) ?_
    exact hb186 M21 L22 _ _ ls hD hw (lv_sub hl [] rfl)
  replace hD := g_neg c20 hD
  by_cases c23 : x4 = 6
  · replace hD := g_pos c23 hD
    refine lv_tableIn (tgt := 118) C.1.1 C.1.2.1 dX8_readLine_6 (by rw [c23]; decide) (by rw [c23]; decide) (off := 112) (by rw [c23]; decide) (by decide) ?_
    refine lv_aload_n C.1.1 C.1.2.1 dX8_readLine_118 rfl (lv_at hl 0 rfl) ?_
    obtain ⟨M24, L25, h1, hD⟩ := g_b2 hD
    refine md_cvV (As := []) (rest := []) C hw (tX8_readDatum l G ad fu M1 L2 h1) kc_8 (by decide) tf_1 wd_1052 cwX8_readDatum ⟨Nat.le_of_ble_eq_true rfl, Nat.le_of_ble_eq_true rfl⟩ rfl hl.1 (Nat.le_of_ble_eq_true rfl) dX8_readLine_119 rfl rfl ⟨Nat.zero_le _, Nat.zero_le _⟩ rfl (fun H locs hw => ?_)
    refine lv_goto (tgt := 186) C.1.1 C.1.2.1 dX8_readLine_122 (by decide) ?_
    exact hb186 M24 L25 _ _ ls hD hw (lv_sub hl [] rfl)
  replace hD := g_neg c23 hD
  by_cases c26 : x4 = 7
  · replace hD := g_pos c26 hD
    refine lv_tableIn (tgt := 125) C.1.1 C.1.2.1 dX8_readLine_6 (by rw [c26]; decide) (by rw [c26]; decide) (off := 119) (by rw [c26]; decide) (by decide) ?_
    refine lv_aload_n C.1.1 C.1.2.1 dX8_readLine_125 rfl (lv_at hl 0 rfl) ?_
    refine lv_iconst (v := 0) C.1.1 C.1.2.1 dX8_readLine_126 (by decide) ?_
    obtain ⟨M27, L28, h1, hD⟩ := g_b2 hD
    refine md_cvV (As := [.int 0]) (rest := []) C hw (tX8_readAct l G ad fu 0 M1 L2 h1) kc_8 (by decide) tf_1 wd_1062 cwX8_readAct ⟨Nat.le_of_ble_eq_true rfl, Nat.le_of_ble_eq_true rfl⟩ rfl hl.1 (Nat.le_of_ble_eq_true rfl) dX8_readLine_127 rfl rfl ⟨Nat.zero_le _, Nat.zero_le _⟩ rfl (fun H locs hw => ?_)
    refine lv_goto (tgt := 186) C.1.1 C.1.2.1 dX8_readLine_130 (by decide) ?_
    exact hb186 M27 L28 _ _ ls hD hw (lv_sub hl [] rfl)
  replace hD := g_neg c26 hD
  by_cases c29 : x4 = 8
  · replace hD := g_pos c29 hD
    refine lv_tableIn (tgt := 133) C.1.1 C.1.2.1 dX8_readLine_6 (by rw [c29]; decide) (by rw [c29]; decide) (off := 127) (by rw [c29]; decide) (by decide) ?_
    refine lv_aload_n C.1.1 C.1.2.1 dX8_readLine_133 rfl (lv_at hl 0 rfl) ?_
    refine lv_iconst (v := 1) C.1.1 C.1.2.1 dX8_readLine_134 (by decide) ?_
    obtain ⟨M30, L31, h1, hD⟩ := g_b2 hD
    refine md_cvV (As := [.int 1]) (rest := []) C hw (tX8_readAct l G ad fu 1 M1 L2 h1) kc_8 (by decide) tf_1 wd_1062 cwX8_readAct ⟨Nat.le_of_ble_eq_true rfl, Nat.le_of_ble_eq_true rfl⟩ rfl hl.1 (Nat.le_of_ble_eq_true rfl) dX8_readLine_135 rfl rfl ⟨Nat.zero_le _, Nat.zero_le _⟩ rfl (fun H locs hw => ?_)
    refine lv_goto (tgt := 186) C.1.1 C.1.2.1 dX8_readLine_138 (by decide) ?_
    exact hb186 M30 L31 _ _ ls hD hw (lv_sub hl [] rfl)
  replace hD := g_neg c29 hD
  by_cases c32 : x4 = 9
  · replace hD := g_pos c32 hD
    refine lv_tableIn (tgt := 141) C.1.1 C.1.2.1 dX8_readLine_6 (by rw [c32]; decide) (by rw [c32]; decide) (off := 135) (by rw [c32]; decide) (by decide) ?_
    refine lv_aload_n C.1.1 C.1.2.1 dX8_readLine_141 rfl (lv_at hl 0 rfl) ?_
    refine lv_iconst (v := 2) C.1.1 C.1.2.1 dX8_readLine_142 (by decide) ?_
    obtain ⟨M33, L34, h1, hD⟩ := g_b2 hD
    refine md_cvV (As := [.int 2]) (rest := []) C hw (tX8_readAct l G ad fu 2 M1 L2 h1) kc_8 (by decide) tf_1 wd_1062 cwX8_readAct ⟨Nat.le_of_ble_eq_true rfl, Nat.le_of_ble_eq_true rfl⟩ rfl hl.1 (Nat.le_of_ble_eq_true rfl) dX8_readLine_143 rfl rfl ⟨Nat.zero_le _, Nat.zero_le _⟩ rfl (fun H locs hw => ?_)
    refine lv_goto (tgt := 186) C.1.1 C.1.2.1 dX8_readLine_146 (by decide) ?_
    exact hb186 M33 L34 _ _ ls hD hw (lv_sub hl [] rfl)
  replace hD := g_neg c32 hD
  by_cases c35 : x4 = 10
  · replace hD := g_pos c35 hD
    refine lv_tableIn (tgt := 149) C.1.1 C.1.2.1 dX8_readLine_6 (by rw [c35]; decide) (by rw [c35]; decide) (off := 143) (by rw [c35]; decide) (by decide) ?_
    refine lv_aload_n C.1.1 C.1.2.1 dX8_readLine_149 rfl (lv_at hl 0 rfl) ?_
    obtain ⟨M36, L37, h1, hD⟩ := g_b2 hD
    refine md_cvV (As := []) (rest := []) C hw (tX8_readSignal l G ad fu M1 L2 h1) kc_8 (by decide) tf_1 wd_1071 cwX8_readSignal ⟨Nat.le_of_ble_eq_true rfl, Nat.le_of_ble_eq_true rfl⟩ rfl hl.1 (Nat.le_of_ble_eq_true rfl) dX8_readLine_150 rfl rfl ⟨Nat.zero_le _, Nat.zero_le _⟩ rfl (fun H locs hw => ?_)
    refine lv_goto (tgt := 186) C.1.1 C.1.2.1 dX8_readLine_153 (by decide) ?_
    exact hb186 M36 L37 _ _ ls hD hw (lv_sub hl [] rfl)
  replace hD := g_neg c35 hD
  by_cases c38 : x4 = 11
  · replace hD := g_pos c38 hD
    refine lv_tableIn (tgt := 156) C.1.1 C.1.2.1 dX8_readLine_6 (by rw [c38]; decide) (by rw [c38]; decide) (off := 150) (by rw [c38]; decide) (by decide) ?_
    refine lv_aload_n C.1.1 C.1.2.1 dX8_readLine_156 rfl (lv_at hl 0 rfl) ?_
    obtain ⟨M39, L40, h1, hD⟩ := g_b2 hD
    refine md_cvV (As := []) (rest := []) C hw (tX8_readProtect l G ad fu M1 L2 h1) kc_8 (by decide) tf_1 wd_1080 cwX8_readProtect ⟨Nat.le_of_ble_eq_true rfl, Nat.le_of_ble_eq_true rfl⟩ rfl hl.1 (Nat.le_of_ble_eq_true rfl) dX8_readLine_157 rfl rfl ⟨Nat.zero_le _, Nat.zero_le _⟩ rfl (fun H locs hw => ?_)
    refine lv_goto (tgt := 186) C.1.1 C.1.2.1 dX8_readLine_160 (by decide) ?_
    exact hb186 M39 L40 _ _ ls hD hw (lv_sub hl [] rfl)
  replace hD := g_neg c38 hD
  by_cases c41 : x4 = 12
  · replace hD := g_pos c41 hD
    refine lv_tableIn (tgt := 163) C.1.1 C.1.2.1 dX8_readLine_6 (by rw [c41]; decide) (by rw [c41]; decide) (off := 157) (by rw [c41]; decide) (by decide) ?_
    refine lv_aload_n C.1.1 C.1.2.1 dX8_readLine_163 rfl (lv_at hl 0 rfl) ?_
    obtain ⟨M42, L43, h1, hD⟩ := g_b2 hD
    refine md_cvV (As := []) (rest := []) C hw (tX8_readRead l G ad fu M1 L2 h1) kc_8 (by decide) tf_1 wd_1092 cwX8_readRead ⟨Nat.le_of_ble_eq_true rfl, Nat.le_of_ble_eq_true rfl⟩ rfl hl.1 (Nat.le_of_ble_eq_true rfl) dX8_readLine_164 rfl rfl ⟨Nat.zero_le _, Nat.zero_le _⟩ rfl (fun H locs hw => ?_)
    refine lv_goto (tgt := 186) C.1.1 C.1.2.1 dX8_readLine_167 (by decide) ?_
    exact hb186 M42 L43 _ _ ls hD hw (lv_sub hl [] rfl)
  replace hD := g_neg c41 hD
  by_cases c44 : x4 = 13
  · replace hD := g_pos c44 hD
    refine lv_tableIn (tgt := 170) C.1.1 C.1.2.1 dX8_readLine_6 (by rw [c44]; decide) (by rw [c44]; decide) (off := 164) (by rw [c44]; decide) (by decide) ?_
    refine lv_aload_n C.1.1 C.1.2.1 dX8_readLine_170 rfl (lv_at hl 0 rfl) ?_
    obtain ⟨M45, L46, h1, hD⟩ := g_b2 hD
    refine md_cvV (As := []) (rest := []) C hw (tX8_readWatch l G ad fu M1 L2 h1) kc_8 (by decide) tf_1 wd_1104 cwX8_readWatch ⟨Nat.le_of_ble_eq_true rfl, Nat.le_of_ble_eq_true rfl⟩ rfl hl.1 (Nat.le_of_ble_eq_true rfl) dX8_readLine_171 rfl rfl ⟨Nat.zero_le _, Nat.zero_le _⟩ rfl (fun H locs hw => ?_)
    refine lv_goto (tgt := 186) C.1.1 C.1.2.1 dX8_readLine_174 (by decide) ?_
    exact hb186 M45 L46 _ _ ls hD hw (lv_sub hl [] rfl)
  replace hD := g_neg c44 hD
  have nc5 : ¬ x4.toInt = 0 := fun q => c5 (Int32.toInt_inj.mp (q.trans (by decide)))
  have nc8 : ¬ x4.toInt = 1 := fun q => c8 (Int32.toInt_inj.mp (q.trans (by decide)))
  have nc11 : ¬ x4.toInt = 2 := fun q => c11 (Int32.toInt_inj.mp (q.trans (by decide)))
  have nc14 : ¬ x4.toInt = 3 := fun q => c14 (Int32.toInt_inj.mp (q.trans (by decide)))
  have nc17 : ¬ x4.toInt = 4 := fun q => c17 (Int32.toInt_inj.mp (q.trans (by decide)))
  have nc20 : ¬ x4.toInt = 5 := fun q => c20 (Int32.toInt_inj.mp (q.trans (by decide)))
  have nc23 : ¬ x4.toInt = 6 := fun q => c23 (Int32.toInt_inj.mp (q.trans (by decide)))
  have nc26 : ¬ x4.toInt = 7 := fun q => c26 (Int32.toInt_inj.mp (q.trans (by decide)))
  have nc29 : ¬ x4.toInt = 8 := fun q => c29 (Int32.toInt_inj.mp (q.trans (by decide)))
  have nc32 : ¬ x4.toInt = 9 := fun q => c32 (Int32.toInt_inj.mp (q.trans (by decide)))
  have nc35 : ¬ x4.toInt = 10 := fun q => c35 (Int32.toInt_inj.mp (q.trans (by decide)))
  have nc38 : ¬ x4.toInt = 11 := fun q => c38 (Int32.toInt_inj.mp (q.trans (by decide)))
  have nc41 : ¬ x4.toInt = 12 := fun q => c41 (Int32.toInt_inj.mp (q.trans (by decide)))
  have nc44 : ¬ x4.toInt = 13 := fun q => c44 (Int32.toInt_inj.mp (q.trans (by decide)))
  refine lv_tableOut (tgt := 177) C.1.1 C.1.2.1 dX8_readLine_6 (by omega) (by decide) ?_
  refine lv_aload_n C.1.1 C.1.2.1 dX8_readLine_177 rfl (lv_at hl 0 rfl) ?_
  refine lv_iconst (v := 1) C.1.1 C.1.2.1 dX8_readLine_178 (by decide) ?_
  refine lv_aload_n C.1.1 C.1.2.1 dX8_readLine_179 rfl (lv_at hl 0 rfl) ?_
  refine mr_getI C hw kc_8 8 (by decide) tf_1 wd_603 dX8_readLine_180 (by decide) rfl ?_
  obtain ⟨M47, L48, h1, hD⟩ := g_b2 hD
  refine md_cvV (As := [.int 1, .int (M1 1 8)]) (rest := []) C hw (tX8_fail l G ad fu 1 (M1 1 8) M1 L2 h1) kc_8 (by decide) tf_1 wd_918 cwX8_fail ⟨Nat.le_of_ble_eq_true rfl, Nat.le_of_ble_eq_true rfl⟩ rfl hl.1 (Nat.le_of_ble_eq_true rfl) dX8_readLine_183 rfl rfl ⟨Nat.zero_le _, Nat.zero_le _⟩ rfl (fun H locs hw => ?_)
  exact hb186 M47 L48 _ _ ls hD hw (lv_sub hl [] rfl)

theorem dX8_judgeWhole_0 : decode cX8_judgeWhole 0 = .ok (.aload_n 0, 1) := by decide +kernel
theorem dX8_judgeWhole_1 : decode cX8_judgeWhole 1 = .ok (.getfield 18, 3) := by decide +kernel
theorem dX8_judgeWhole_4 : decode cX8_judgeWhole 4 = .ok (.getfield 68, 3) := by decide +kernel
theorem dX8_judgeWhole_7 : decode cX8_judgeWhole 7 = .ok (.ifCond .ne 13, 3) := by decide +kernel
theorem dX8_judgeWhole_10 : decode cX8_judgeWhole 10 = .ok (.aload_n 0, 1) := by decide +kernel
theorem dX8_judgeWhole_11 : decode cX8_judgeWhole 11 = .ok (.iconst 4, 1) := by decide +kernel
theorem dX8_judgeWhole_12 : decode cX8_judgeWhole 12 = .ok (.aload_n 0, 1) := by decide +kernel
theorem dX8_judgeWhole_13 : decode cX8_judgeWhole 13 = .ok (.getfield 27, 3) := by decide +kernel
theorem dX8_judgeWhole_16 : decode cX8_judgeWhole 16 = .ok (.invokevirtual 71, 3) := by decide +kernel
theorem dX8_judgeWhole_19 : decode cX8_judgeWhole 19 = .ok (.return_, 1) := by decide +kernel
theorem dX8_judgeWhole_20 : decode cX8_judgeWhole 20 = .ok (.aload_n 0, 1) := by decide +kernel
theorem dX8_judgeWhole_21 : decode cX8_judgeWhole 21 = .ok (.getfield 18, 3) := by decide +kernel
theorem dX8_judgeWhole_24 : decode cX8_judgeWhole 24 = .ok (.getfield 75, 3) := by decide +kernel
theorem dX8_judgeWhole_27 : decode cX8_judgeWhole 27 = .ok (.aload_n 0, 1) := by decide +kernel
theorem dX8_judgeWhole_28 : decode cX8_judgeWhole 28 = .ok (.getfield 18, 3) := by decide +kernel
theorem dX8_judgeWhole_31 : decode cX8_judgeWhole 31 = .ok (.getfield 68, 3) := by decide +kernel
theorem dX8_judgeWhole_34 : decode cX8_judgeWhole 34 = .ok (.invokevirtual 79, 3) := by decide +kernel
theorem dX8_judgeWhole_37 : decode cX8_judgeWhole 37 = .ok (.istore_n 1, 1) := by decide +kernel
theorem dX8_judgeWhole_38 : decode cX8_judgeWhole 38 = .ok (.iload_n 1, 1) := by decide +kernel
theorem dX8_judgeWhole_39 : decode cX8_judgeWhole 39 = .ok (.ifCond .lt 24, 3) := by decide +kernel
theorem dX8_judgeWhole_42 : decode cX8_judgeWhole 42 = .ok (.aload_n 0, 1) := by decide +kernel
theorem dX8_judgeWhole_43 : decode cX8_judgeWhole 43 = .ok (.bipush 8, 2) := by decide +kernel
theorem dX8_judgeWhole_45 : decode cX8_judgeWhole 45 = .ok (.aload_n 0, 1) := by decide +kernel
theorem dX8_judgeWhole_46 : decode cX8_judgeWhole 46 = .ok (.getfield 18, 3) := by decide +kernel
theorem dX8_judgeWhole_49 : decode cX8_judgeWhole 49 = .ok (.getfield 75, 3) := by decide +kernel
theorem dX8_judgeWhole_52 : decode cX8_judgeWhole 52 = .ok (.getfield 85, 3) := by decide +kernel
theorem dX8_judgeWhole_55 : decode cX8_judgeWhole 55 = .ok (.bipush 6, 2) := by decide +kernel
theorem dX8_judgeWhole_57 : decode cX8_judgeWhole 57 = .ok (.aaload, 1) := by decide +kernel
theorem dX8_judgeWhole_58 : decode cX8_judgeWhole 58 = .ok (.iload_n 1, 1) := by decide +kernel
theorem dX8_judgeWhole_59 : decode cX8_judgeWhole 59 = .ok (.iaload, 1) := by decide +kernel
theorem dX8_judgeWhole_60 : decode cX8_judgeWhole 60 = .ok (.invokevirtual 71, 3) := by decide +kernel
theorem dX8_judgeWhole_63 : decode cX8_judgeWhole 63 = .ok (.return_, 1) := by decide +kernel
theorem cwX8_judgeWhole : mw_cwV yX8_judgeWhole cX8_judgeWhole 2 (none) 0 := ⟨⟨wd_2, wd_1119, by decide +kernel⟩, wd_1118, sl_44⟩
set_option maxHeartbeats 4000000 in
set_option maxRecDepth 100000 in
theorem tX8_judgeWhole (l : Launch) (G : mwG) (ad : Nat → Nat) (fu : Nat) (M : mwM) (L : mwL) {M0 : mwM} {L0 : mwL} (hD : DX8_judgeWhole fu M L = some (M0, L0)) : Met l yX8_judgeWhole (Cond.code yX8_judgeWhole cX8_judgeWhole 2 (none) :: GT) ({ frames := 2, cells := 0, slots := 0, locals := 47 }) (mw_Pre G ad NF TF FF M L [.ref (ad 1)]) (mw_Qv G ad NF TF FF (mw_eqV M0 L0)) 0 0 (mw_fr G) := by
  refine mw_enter (by decide) (Nat.le_of_ble_eq_true rfl) ?_
  intro p e s m below meth c ls C hr hlocks hnm hw hl
  have hl : lv_has ls 2 [(0, .ref (ad 1))] := hl
  have hb63 : ∀ (M : mwM) (L : mwL) (H : Heap) (locs : List Loc) (ls : Array Slot), fX8_judgeWhole_b63 fu M L = some (M0, L0) → mw_W G ad NF TF FF M L H locs → lv_has ls 2 [] → W p l e ({ frames := 2, cells := 0, slots := 0, locals := 47 }) s m [.ref (ad 1)].toArray below meth c H locs 0 0 (MQ below (mw_Qv G ad NF TF FF (mw_eqV M0 L0)) [.ref (ad 1)].toArray s 0 0 (mw_fr G)) (F0 m 63 ls []) := by
    intro M L H locs ls hD hw hl
    unfold fX8_judgeWhole_b63 at hD
    exact mr_vret C hr hlocks hw (Option.some.inj hD) dX8_judgeWhole_63
  unfold DX8_judgeWhole at hD
  refine lv_aload_n C.1.1 C.1.2.1 dX8_judgeWhole_0 rfl (lv_at hl 0 rfl) ?_
  refine mr_getR C hw kc_8 1 (by decide) tf_1 ff_1_1 wd_595 dX8_judgeWhole_1 (by decide) rfl ?_
  refine mr_getNI C hw kc_1 13 (by decide) tf_3 nd_540 dX8_judgeWhole_4 (by decide) rfl ?_
  refine lv_if_ne (tgt := 20) C.1.1 C.1.2.1 dX8_judgeWhole_7 (by decide) (fun c1 => ?_) (fun c1 => ?_)
  · replace hD := g_neg c1 hD
    refine lv_aload_n C.1.1 C.1.2.1 dX8_judgeWhole_20 rfl (lv_at hl 0 rfl) ?_
    refine mr_getR C hw kc_8 1 (by decide) tf_1 ff_1_1 wd_595 dX8_judgeWhole_21 (by decide) rfl ?_
    refine mr_getNR C hw kc_1 3 (by decide) tf_3 ff_3_3 nd_520 dX8_judgeWhole_24 (by decide) rfl ?_
    refine lv_aload_n C.1.1 C.1.2.1 dX8_judgeWhole_27 rfl (lv_at hl 0 rfl) ?_
    refine mr_getR C hw kc_8 1 (by decide) tf_1 ff_1_1 wd_595 dX8_judgeWhole_28 (by decide) rfl ?_
    refine mr_getNI C hw kc_1 13 (by decide) tf_3 nd_540 dX8_judgeWhole_31 (by decide) rfl ?_
    obtain ⟨r4, M2, L3, h1, hD⟩ := g_b3 hD
    refine md_cvI (As := [.int (M 3 13)]) (rest := []) C hw (tX6_findTooLarge l G ad fu (M 3 13) M L h1) kc_6 (by decide) tf_61 wd_1120 cwX6_findTooLarge ⟨Nat.le_of_ble_eq_true rfl, Nat.le_of_ble_eq_true rfl⟩ rfl hl.1 (Nat.le_of_ble_eq_true rfl) dX8_judgeWhole_34 rfl rfl ⟨Nat.zero_le _, Nat.zero_le _⟩ rfl (fun H locs hw => ?_)
    refine lv_istore_n (lv' := [(1, .int r4), (0, .ref (ad 1))]) C.1.1 C.1.2.1 dX8_judgeWhole_37 rfl hl (by decide) rfl (fun ls hl => ?_)
    refine lv_iload_n C.1.1 C.1.2.1 dX8_judgeWhole_38 rfl (lv_at hl 0 rfl) ?_
    refine lv_if_lt (tgt := 63) C.1.1 C.1.2.1 dX8_judgeWhole_39 (by decide) (fun c5 => ?_) (fun c5 => ?_)
    · replace hD := g_pos c5 hD
      exact hb63 M2 L3 _ _ ls hD hw (lv_sub hl [] rfl)
    · replace hD := g_neg c5 hD
      refine lv_aload_n C.1.1 C.1.2.1 dX8_judgeWhole_42 rfl (lv_at hl 1 rfl) ?_
      refine lv_bipush (v := 8) C.1.1 C.1.2.1 dX8_judgeWhole_43 (by decide) ?_
      refine lv_aload_n C.1.1 C.1.2.1 dX8_judgeWhole_45 rfl (lv_at hl 1 rfl) ?_
      refine mr_getR C hw kc_8 1 (by decide) tf_1 ff_1_1 wd_595 dX8_judgeWhole_46 (by decide) rfl ?_
      refine mr_getNR C hw kc_1 3 (by decide) tf_3 ff_3_3 nd_520 dX8_judgeWhole_49 (by decide) rfl ?_
      refine mr_getNR C hw kc_6 0 (by decide) tf_61 ff_61_0 nd_229 dX8_judgeWhole_52 (by decide) rfl ?_
      refine lv_bipush (v := 6) C.1.1 C.1.2.1 dX8_judgeWhole_55 (by decide) ?_
      refine mr_aald C hw (by decide) tf_62 (by decide) (by decide) rfl rfl (show vp_in 6 10 from by unfold vp_in; decide) ff_62_6 dX8_judgeWhole_57 ?_
      refine lv_iload_n C.1.1 C.1.2.1 dX8_judgeWhole_58 rfl (lv_at hl 0 rfl) ?_
      obtain ⟨q7, hD⟩ := g_ck hD
      refine mr_iald C hw (by decide) tf_69 q7 dX8_judgeWhole_59 ?_
      obtain ⟨M8, L9, h1, hD⟩ := g_b2 hD
      refine md_cvV (As := [.int 8, .int (M2 69 r4.toNatClampNeg)]) (rest := []) C hw (tX8_fail l G ad fu 8 (M2 69 r4.toNatClampNeg) M2 L3 h1) kc_8 (by decide) tf_1 wd_918 cwX8_fail ⟨Nat.le_of_ble_eq_true rfl, Nat.le_of_ble_eq_true rfl⟩ rfl hl.1 (Nat.le_of_ble_eq_true rfl) dX8_judgeWhole_60 rfl rfl ⟨Nat.zero_le _, Nat.zero_le _⟩ rfl (fun H locs hw => ?_)
      exact hb63 M8 L9 _ _ ls hD hw (lv_sub hl [] rfl)
  · replace hD := g_pos c1 hD
    refine lv_aload_n C.1.1 C.1.2.1 dX8_judgeWhole_10 rfl (lv_at hl 0 rfl) ?_
    refine lv_iconst (v := 4) C.1.1 C.1.2.1 dX8_judgeWhole_11 (by decide) ?_
    refine lv_aload_n C.1.1 C.1.2.1 dX8_judgeWhole_12 rfl (lv_at hl 0 rfl) ?_
    refine mr_getI C hw kc_8 4 (by decide) tf_1 wd_599 dX8_judgeWhole_13 (by decide) rfl ?_
    obtain ⟨M10, L11, h1, hD⟩ := g_b2 hD
    refine md_cvV (As := [.int 4, .int (M 1 4)]) (rest := []) C hw (tX8_fail l G ad fu 4 (M 1 4) M L h1) kc_8 (by decide) tf_1 wd_918 cwX8_fail ⟨Nat.le_of_ble_eq_true rfl, Nat.le_of_ble_eq_true rfl⟩ rfl hl.1 (Nat.le_of_ble_eq_true rfl) dX8_judgeWhole_16 rfl rfl ⟨Nat.zero_le _, Nat.zero_le _⟩ rfl (fun H locs hw => ?_)
    exact mr_vret C hr hlocks hw (Option.some.inj hD) dX8_judgeWhole_19

theorem dX8_readText_0 : decode cX8_readText 0 = .ok (.aload_n 0, 1) := by decide +kernel
theorem dX8_readText_1 : decode cX8_readText 1 = .ok (.iconst 0, 1) := by decide +kernel
theorem dX8_readText_2 : decode cX8_readText 2 = .ok (.putfield 31, 3) := by decide +kernel
theorem dX8_readText_5 : decode cX8_readText 5 = .ok (.aload_n 0, 1) := by decide +kernel
theorem dX8_readText_6 : decode cX8_readText 6 = .ok (.iconst 0, 1) := by decide +kernel
theorem dX8_readText_7 : decode cX8_readText 7 = .ok (.putfield 34, 3) := by decide +kernel
theorem dX8_readText_10 : decode cX8_readText 10 = .ok (.aload_n 0, 1) := by decide +kernel
theorem dX8_readText_11 : decode cX8_readText 11 = .ok (.iconst 0, 1) := by decide +kernel
theorem dX8_readText_12 : decode cX8_readText 12 = .ok (.putfield 37, 3) := by decide +kernel
theorem dX8_readText_15 : decode cX8_readText 15 = .ok (.iconst 0, 1) := by decide +kernel
theorem dX8_readText_16 : decode cX8_readText 16 = .ok (.istore_n 1, 1) := by decide +kernel
theorem dX8_readText_17 : decode cX8_readText 17 = .ok (.iconst 0, 1) := by decide +kernel
theorem dX8_readText_18 : decode cX8_readText 18 = .ok (.istore_n 2, 1) := by decide +kernel
theorem dX8_readText_19 : decode cX8_readText 19 = .ok (.iload_n 2, 1) := by decide +kernel
theorem dX8_readText_20 : decode cX8_readText 20 = .ok (.sipush 6000, 3) := by decide +kernel
theorem dX8_readText_23 : decode cX8_readText 23 = .ok (.if_icmp .ge 64, 3) := by decide +kernel
theorem dX8_readText_26 : decode cX8_readText 26 = .ok (.iload_n 1, 1) := by decide +kernel
theorem dX8_readText_27 : decode cX8_readText 27 = .ok (.aload_n 0, 1) := by decide +kernel
theorem dX8_readText_28 : decode cX8_readText 28 = .ok (.getfield 27, 3) := by decide +kernel
theorem dX8_readText_31 : decode cX8_readText 31 = .ok (.if_icmp .ge 56, 3) := by decide +kernel
theorem dX8_readText_34 : decode cX8_readText 34 = .ok (.aload_n 0, 1) := by decide +kernel
theorem dX8_readText_35 : decode cX8_readText 35 = .ok (.getfield 34, 3) := by decide +kernel
theorem dX8_readText_38 : decode cX8_readText 38 = .ok (.ifCond .ne 49, 3) := by decide +kernel
theorem dX8_readText_41 : decode cX8_readText 41 = .ok (.aload_n 0, 1) := by decide +kernel
theorem dX8_readText_42 : decode cX8_readText 42 = .ok (.iload_n 1, 1) := by decide +kernel
theorem dX8_readText_43 : decode cX8_readText 43 = .ok (.invokevirtual 40, 3) := by decide +kernel
theorem dX8_readText_46 : decode cX8_readText 46 = .ok (.aload_n 0, 1) := by decide +kernel
theorem dX8_readText_47 : decode cX8_readText 47 = .ok (.iload_n 1, 1) := by decide +kernel
theorem dX8_readText_48 : decode cX8_readText 48 = .ok (.putfield 44, 3) := by decide +kernel
theorem dX8_readText_51 : decode cX8_readText 51 = .ok (.aload_n 0, 1) := by decide +kernel
theorem dX8_readText_52 : decode cX8_readText 52 = .ok (.invokevirtual 47, 3) := by decide +kernel
theorem dX8_readText_55 : decode cX8_readText 55 = .ok (.aload_n 0, 1) := by decide +kernel
theorem dX8_readText_56 : decode cX8_readText 56 = .ok (.aload_n 0, 1) := by decide +kernel
theorem dX8_readText_57 : decode cX8_readText 57 = .ok (.getfield 50, 3) := by decide +kernel
theorem dX8_readText_60 : decode cX8_readText 60 = .ok (.putfield 53, 3) := by decide +kernel
theorem dX8_readText_63 : decode cX8_readText 63 = .ok (.aload_n 0, 1) := by decide +kernel
theorem dX8_readText_64 : decode cX8_readText 64 = .ok (.getfield 56, 3) := by decide +kernel
theorem dX8_readText_67 : decode cX8_readText 67 = .ok (.ifCond .le 7, 3) := by decide +kernel
theorem dX8_readText_70 : decode cX8_readText 70 = .ok (.aload_n 0, 1) := by decide +kernel
theorem dX8_readText_71 : decode cX8_readText 71 = .ok (.invokevirtual 59, 3) := by decide +kernel
theorem dX8_readText_74 : decode cX8_readText 74 = .ok (.aload_n 0, 1) := by decide +kernel
theorem dX8_readText_75 : decode cX8_readText 75 = .ok (.getfield 62, 3) := by decide +kernel
theorem dX8_readText_78 : decode cX8_readText 78 = .ok (.iconst 1, 1) := by decide +kernel
theorem dX8_readText_79 : decode cX8_readText 79 = .ok (.iadd, 1) := by decide +kernel
theorem dX8_readText_80 : decode cX8_readText 80 = .ok (.istore_n 1, 1) := by decide +kernel
theorem dX8_readText_81 : decode cX8_readText 81 = .ok (.iinc 2 1, 3) := by decide +kernel
theorem dX8_readText_84 : decode cX8_readText 84 = .ok (.goto (-65), 3) := by decide +kernel
theorem dX8_readText_87 : decode cX8_readText 87 = .ok (.aload_n 0, 1) := by decide +kernel
theorem dX8_readText_88 : decode cX8_readText 88 = .ok (.getfield 34, 3) := by decide +kernel
theorem dX8_readText_91 : decode cX8_readText 91 = .ok (.ifCond .ne 7, 3) := by decide +kernel
theorem dX8_readText_94 : decode cX8_readText 94 = .ok (.aload_n 0, 1) := by decide +kernel
theorem dX8_readText_95 : decode cX8_readText 95 = .ok (.invokevirtual 65, 3) := by decide +kernel
theorem dX8_readText_98 : decode cX8_readText 98 = .ok (.return_, 1) := by decide +kernel
theorem cwX8_readText : mw_cwV yX8_readText cX8_readText 3 (none) 0 := ⟨⟨wd_2, wd_825, by decide +kernel⟩, wd_823, wd_824⟩
set_option maxHeartbeats 4000000 in
set_option maxRecDepth 100000 in
theorem tX8_readText (l : Launch) (G : mwG) (ad : Nat → Nat) (fu : Nat) (M : mwM) (L : mwL) {M0 : mwM} {L0 : mwL} (hD : DX8_readText fu M L = some (M0, L0)) : Met l yX8_readText (Cond.code yX8_readText cX8_readText 3 (none) :: GT) ({ frames := 9, cells := 0, slots := 0, locals := 201 }) (mw_Pre G ad NF TF FF M L [.ref (ad 1)]) (mw_Qv G ad NF TF FF (mw_eqV M0 L0)) 0 0 (mw_fr G) := by
  refine mw_enter (by decide) (Nat.le_of_ble_eq_true rfl) ?_
  intro p e s m below meth c ls C hr hlocks hnm hw hl
  have hl : lv_has ls 3 [(0, .ref (ad 1))] := hl
  have hb98 : ∀ (M : mwM) (L : mwL) (H : Heap) (locs : List Loc) (ls : Array Slot), fX8_readText_b98 fu M L = some (M0, L0) → mw_W G ad NF TF FF M L H locs → lv_has ls 3 [] → W p l e ({ frames := 9, cells := 0, slots := 0, locals := 201 }) s m [.ref (ad 1)].toArray below meth c H locs 0 0 (MQ below (mw_Qv G ad NF TF FF (mw_eqV M0 L0)) [.ref (ad 1)].toArray s 0 0 (mw_fr G)) (F0 m 98 ls []) := by
    intro M L H locs ls hD hw hl
    unfold fX8_readText_b98 at hD
    exact mr_vret C hr hlocks hw (Option.some.inj hD) dX8_readText_98
  have hb87 : ∀ (M : mwM) (L : mwL) (H : Heap) (locs : List Loc) (ls : Array Slot), fX8_readText_b87 fu M L = some (M0, L0) → mw_W G ad NF TF FF M L H locs → lv_has ls 3 [(0, .ref (ad 1))] → W p l e ({ frames := 9, cells := 0, slots := 0, locals := 201 }) s m [.ref (ad 1)].toArray below meth c H locs 0 0 (MQ below (mw_Qv G ad NF TF FF (mw_eqV M0 L0)) [.ref (ad 1)].toArray s 0 0 (mw_fr G)) (F0 m 87 ls []) := by
    intro M L H locs ls hD hw hl
    unfold fX8_readText_b87 at hD
    refine lv_aload_n C.1.1 C.1.2.1 dX8_readText_87 rfl (lv_at hl 0 rfl) ?_
    refine mr_getI C hw kc_8 12 (by decide) tf_1 wd_607 dX8_readText_88 (by decide) rfl ?_
    refine lv_if_ne (tgt := 98) C.1.1 C.1.2.1 dX8_readText_91 (by decide) (fun c15 => ?_) (fun c15 => ?_)
    · replace hD := g_neg c15 hD
      exact hb98 M L _ _ ls hD hw (lv_sub hl [] rfl)
    · replace hD := g_pos c15 hD
      refine lv_aload_n C.1.1 C.1.2.1 dX8_readText_94 rfl (lv_at hl 0 rfl) ?_
      obtain ⟨M16, L17, h1, hD⟩ := g_b2 hD
      refine md_cvV (As := []) (rest := []) C hw (tX8_judgeWhole l G ad fu M L h1) kc_8 (by decide) tf_1 wd_1116 cwX8_judgeWhole ⟨Nat.le_of_ble_eq_true rfl, Nat.le_of_ble_eq_true rfl⟩ rfl hl.1 (Nat.le_of_ble_eq_true rfl) dX8_readText_95 rfl rfl ⟨Nat.zero_le _, Nat.zero_le _⟩ rfl (fun H locs hw => ?_)
      exact hb98 M16 L17 _ _ ls hD hw (lv_sub hl [] rfl)
  have hh19 : ∀ (f : Nat) (v1 : Int32) (v2 : Int32) (M : mwM) (L : mwL) (H : Heap) (locs : List Loc) (ls : Array Slot), fX8_readText_h19 fu f (v1, v2, M, L) = some (M0, L0) → mw_W G ad NF TF FF M L H locs → lv_has ls 3 [(0, .ref (ad 1)), (1, .int v1), (2, .int v2)] → W p l e ({ frames := 9, cells := 0, slots := 0, locals := 201 }) s m [.ref (ad 1)].toArray below meth c H locs 0 0 (MQ below (mw_Qv G ad NF TF FF (mw_eqV M0 L0)) [.ref (ad 1)].toArray s 0 0 (mw_fr G)) (F0 m 19 ls []) := by
    intro f
    induction f with
    | zero => intro v1 v2 M L H locs ls hD; cases hD
    | succ f19 ih19 =>
      intro v1 v2 M L H locs ls hD hw hl
      replace hD : fX8_readText_i19 fu (fX8_readText_h19 fu f19) v1 v2 M L = some (M0, L0) := hD
      have hb74 : ∀ (v2 : Int32) (M : mwM) (L : mwL) (H : Heap) (locs : List Loc) (ls : Array Slot), fX8_readText_b74 fu (fX8_readText_h19 fu f19) v2 M L = some (M0, L0) → mw_W G ad NF TF FF M L H locs → lv_has ls 3 [(0, .ref (ad 1)), (2, .int v2)] → W p l e ({ frames := 9, cells := 0, slots := 0, locals := 201 }) s m [.ref (ad 1)].toArray below meth c H locs 0 0 (MQ below (mw_Qv G ad NF TF FF (mw_eqV M0 L0)) [.ref (ad 1)].toArray s 0 0 (mw_fr G)) (F0 m 74 ls []) := by
        intro v2 M L H locs ls hD hw hl
        unfold fX8_readText_b74 at hD
        refine lv_aload_n C.1.1 C.1.2.1 dX8_readText_74 rfl (lv_at hl 0 rfl) ?_
        refine mr_getI C hw kc_8 6 (by decide) tf_1 wd_601 dX8_readText_75 (by decide) rfl ?_
        refine lv_iconst (v := 1) C.1.1 C.1.2.1 dX8_readText_78 (by decide) ?_
        refine lv_iadd C.1.1 C.1.2.1 dX8_readText_79 ?_
        obtain ⟨x13, ex13, hD⟩ := g_let hD
        refine W.eq (g2 := F0 m 80 ls (.int x13 :: [])) (by rw [ex13]) ?_
        refine lv_istore_n (lv' := [(1, .int x13), (0, .ref (ad 1)), (2, .int v2)]) C.1.1 C.1.2.1 dX8_readText_80 rfl hl (by decide) rfl (fun ls hl => ?_)
        obtain ⟨x14, ex14, hD⟩ := g_let hD
        refine lv_iinc (v := x14) (lv' := [(2, .int x14), (1, .int x13), (0, .ref (ad 1))]) C.1.1 C.1.2.1 dX8_readText_81 hl (k := 2) rfl (by rw [ex14]; rfl) (by decide) rfl (fun ls hl => ?_)
        refine lv_goto (tgt := 19) C.1.1 C.1.2.1 dX8_readText_84 (by decide) ?_
        exact ih19 x13 x14 M L _ _ ls hD hw (lv_sub hl [2, 1, 0] rfl)
      unfold fX8_readText_i19 at hD
      refine lv_iload_n C.1.1 C.1.2.1 dX8_readText_19 rfl (lv_at hl 2 rfl) ?_
      refine lv_sipush (v := 6000) C.1.1 C.1.2.1 dX8_readText_20 (by decide) ?_
      refine lv_icmp_ge (tgt := 87) C.1.1 C.1.2.1 dX8_readText_23 (by decide) (fun c1 => ?_) (fun c1 => ?_)
      · replace hD := g_pos c1 hD
        exact hb87 M L _ _ ls hD hw (lv_sub hl [0] rfl)
      · replace hD := g_neg c1 hD
        refine lv_iload_n C.1.1 C.1.2.1 dX8_readText_26 rfl (lv_at hl 1 rfl) ?_
        refine lv_aload_n C.1.1 C.1.2.1 dX8_readText_27 rfl (lv_at hl 0 rfl) ?_
        refine mr_getI C hw kc_8 4 (by decide) tf_1 wd_599 dX8_readText_28 (by decide) rfl ?_
        refine lv_icmp_ge (tgt := 87) C.1.1 C.1.2.1 dX8_readText_31 (by decide) (fun c2 => ?_) (fun c2 => ?_)
        · replace hD := g_pos c2 hD
          exact hb87 M L _ _ ls hD hw (lv_sub hl [0] rfl)
        · replace hD := g_neg c2 hD
          refine lv_aload_n C.1.1 C.1.2.1 dX8_readText_34 rfl (lv_at hl 0 rfl) ?_
          refine mr_getI C hw kc_8 12 (by decide) tf_1 wd_607 dX8_readText_35 (by decide) rfl ?_
          refine lv_if_ne (tgt := 87) C.1.1 C.1.2.1 dX8_readText_38 (by decide) (fun c3 => ?_) (fun c3 => ?_)
          · replace hD := g_neg c3 hD
            exact hb87 M L _ _ ls hD hw (lv_sub hl [0] rfl)
          · replace hD := g_pos c3 hD
            refine lv_aload_n C.1.1 C.1.2.1 dX8_readText_41 rfl (lv_at hl 0 rfl) ?_
            refine lv_iload_n C.1.1 C.1.2.1 dX8_readText_42 rfl (lv_at hl 1 rfl) ?_
            obtain ⟨M4, L5, h1, hD⟩ := g_b2 hD
            refine md_cvV (As := [.int v1]) (rest := []) C hw (tX8_findLineEnd l G ad fu v1 M L h1) kc_8 (by decide) tf_1 wd_826 cwX8_findLineEnd ⟨Nat.le_of_ble_eq_true rfl, Nat.le_of_ble_eq_true rfl⟩ rfl hl.1 (Nat.le_of_ble_eq_true rfl) dX8_readText_43 rfl rfl ⟨Nat.zero_le _, Nat.zero_le _⟩ rfl (fun H locs hw => ?_)
            refine lv_aload_n C.1.1 C.1.2.1 dX8_readText_46 rfl (lv_at hl 0 rfl) ?_
            refine lv_iload_n C.1.1 C.1.2.1 dX8_readText_47 rfl (lv_at hl 1 rfl) ?_
            obtain ⟨M6, eM6, hD⟩ := g_let hD
            refine mr_putI C hw kc_8 5 (by decide) tf_1 wd_600 dX8_readText_48 (by decide) rfl rfl rfl rfl (fun H locs hw => ?_)
            replace hw : mw_W G ad NF TF FF M6 L5 H locs := by rw [eM6]; exact hw
            refine lv_aload_n C.1.1 C.1.2.1 dX8_readText_51 rfl (lv_at hl 0 rfl) ?_
            obtain ⟨M7, L8, h1, hD⟩ := g_b2 hD
            refine md_cvV (As := []) (rest := []) C hw (tX8_nextWord l G ad fu M6 L5 h1) kc_8 (by decide) tf_1 wd_830 cwX8_nextWord ⟨Nat.le_of_ble_eq_true rfl, Nat.le_of_ble_eq_true rfl⟩ rfl hl.1 (Nat.le_of_ble_eq_true rfl) dX8_readText_52 rfl rfl ⟨Nat.zero_le _, Nat.zero_le _⟩ rfl (fun H locs hw => ?_)
            refine lv_aload_n C.1.1 C.1.2.1 dX8_readText_55 rfl (lv_at hl 0 rfl) ?_
            refine lv_aload_n C.1.1 C.1.2.1 dX8_readText_56 rfl (lv_at hl 0 rfl) ?_
            refine mr_getI C hw kc_8 8 (by decide) tf_1 wd_603 dX8_readText_57 (by decide) rfl ?_
            obtain ⟨M9, eM9, hD⟩ := g_let hD
            refine mr_putI C hw kc_8 7 (by decide) tf_1 wd_602 dX8_readText_60 (by decide) rfl rfl rfl rfl (fun H locs hw => ?_)
            replace hw : mw_W G ad NF TF FF M9 L8 H locs := by rw [eM9]; exact hw
            refine lv_aload_n C.1.1 C.1.2.1 dX8_readText_63 rfl (lv_at hl 0 rfl) ?_
            refine mr_getI C hw kc_8 9 (by decide) tf_1 wd_604 dX8_readText_64 (by decide) rfl ?_
            refine lv_if_le (tgt := 74) C.1.1 C.1.2.1 dX8_readText_67 (by decide) (fun c10 => ?_) (fun c10 => ?_)
            · replace hD := g_pos c10 hD
              exact hb74 v2 M9 L8 _ _ ls hD hw (lv_sub hl [0, 2] rfl)
            · replace hD := g_neg c10 hD
              refine lv_aload_n C.1.1 C.1.2.1 dX8_readText_70 rfl (lv_at hl 0 rfl) ?_
              obtain ⟨M11, L12, h1, hD⟩ := g_b2 hD
              refine md_cvV (As := []) (rest := []) C hw (tX8_readLine l G ad fu M9 L8 h1) kc_8 (by decide) tf_1 wd_834 cwX8_readLine ⟨Nat.le_of_ble_eq_true rfl, Nat.le_of_ble_eq_true rfl⟩ rfl hl.1 (Nat.le_of_ble_eq_true rfl) dX8_readText_71 rfl rfl ⟨Nat.zero_le _, Nat.zero_le _⟩ rfl (fun H locs hw => ?_)
              exact hb74 v2 M11 L12 _ _ ls hD hw (lv_sub hl [0, 2] rfl)
  unfold DX8_readText at hD
  refine lv_aload_n C.1.1 C.1.2.1 dX8_readText_0 rfl (lv_at hl 0 rfl) ?_
  refine lv_iconst (v := 0) C.1.1 C.1.2.1 dX8_readText_1 (by decide) ?_
  obtain ⟨M18, eM18, hD⟩ := g_let hD
  refine mr_putI C hw kc_8 3 (by decide) tf_1 wd_597 dX8_readText_2 (by decide) rfl rfl rfl rfl (fun H locs hw => ?_)
  replace hw : mw_W G ad NF TF FF M18 L H locs := by rw [eM18]; exact hw
  refine lv_aload_n C.1.1 C.1.2.1 dX8_readText_5 rfl (lv_at hl 0 rfl) ?_
  refine lv_iconst (v := 0) C.1.1 C.1.2.1 dX8_readText_6 (by decide) ?_
  obtain ⟨M19, eM19, hD⟩ := g_let hD
  refine mr_putI C hw kc_8 12 (by decide) tf_1 wd_607 dX8_readText_7 (by decide) rfl rfl rfl rfl (fun H locs hw => ?_)
  replace hw : mw_W G ad NF TF FF M19 L H locs := by rw [eM19]; exact hw
  refine lv_aload_n C.1.1 C.1.2.1 dX8_readText_10 rfl (lv_at hl 0 rfl) ?_
  refine lv_iconst (v := 0) C.1.1 C.1.2.1 dX8_readText_11 (by decide) ?_
  obtain ⟨M20, eM20, hD⟩ := g_let hD
  refine mr_putI C hw kc_8 13 (by decide) tf_1 wd_609 dX8_readText_12 (by decide) rfl rfl rfl rfl (fun H locs hw => ?_)
  replace hw : mw_W G ad NF TF FF M20 L H locs := by rw [eM20]; exact hw
  refine lv_iconst (v := 0) C.1.1 C.1.2.1 dX8_readText_15 (by decide) ?_
  refine lv_istore_n (lv' := [(1, .int 0), (0, .ref (ad 1))]) C.1.1 C.1.2.1 dX8_readText_16 rfl hl (by decide) rfl (fun ls hl => ?_)
  refine lv_iconst (v := 0) C.1.1 C.1.2.1 dX8_readText_17 (by decide) ?_
  refine lv_istore_n (lv' := [(2, .int 0), (1, .int 0), (0, .ref (ad 1))]) C.1.1 C.1.2.1 dX8_readText_18 rfl hl (by decide) rfl (fun ls hl => ?_)
  exact hh19 fu 0 0 M20 L _ _ ls hD hw (lv_sub hl [2, 1, 0] rfl)
