theorem dX11_text_0 : decode cX11_text 0 = .ok (.aload_n 0, 1) := by decide +kernel
theorem dX11_text_1 : decode cX11_text 1 = .ok (.getfield 10, 3) := by decide +kernel
theorem dX11_text_4 : decode cX11_text 4 = .ok (.getfield 25, 3) := by decide +kernel
theorem dX11_text_7 : decode cX11_text 7 = .ok (.iload_n 1, 1) := by decide +kernel
theorem dX11_text_8 : decode cX11_text 8 = .ok (.invokestatic 29, 3) := by decide +kernel
theorem dX11_text_11 : decode cX11_text 11 = .ok (.iadd, 1) := by decide +kernel
theorem dX11_text_12 : decode cX11_text 12 = .ok (.iload_n 2, 1) := by decide +kernel
theorem dX11_text_13 : decode cX11_text 13 = .ok (.invokestatic 29, 3) := by decide +kernel
theorem dX11_text_16 : decode cX11_text 16 = .ok (.iadd, 1) := by decide +kernel
theorem dX11_text_17 : decode cX11_text 17 = .ok (.iload_n 3, 1) := by decide +kernel
theorem dX11_text_18 : decode cX11_text 18 = .ok (.invokestatic 29, 3) := by decide +kernel
theorem dX11_text_21 : decode cX11_text 21 = .ok (.iadd, 1) := by decide +kernel
theorem dX11_text_22 : decode cX11_text 22 = .ok (.iload 4, 2) := by decide +kernel
theorem dX11_text_24 : decode cX11_text 24 = .ok (.invokestatic 29, 3) := by decide +kernel
theorem dX11_text_27 : decode cX11_text 27 = .ok (.iadd, 1) := by decide +kernel
theorem dX11_text_28 : decode cX11_text 28 = .ok (.sipush 6000, 3) := by decide +kernel
theorem dX11_text_31 : decode cX11_text 31 = .ok (.if_icmp .le 13, 3) := by decide +kernel
theorem dX11_text_34 : decode cX11_text 34 = .ok (.new 33, 3) := by decide +kernel
theorem dX11_text_37 : decode cX11_text 37 = .ok (.dup, 1) := by decide +kernel
theorem dX11_text_38 : decode cX11_text 38 = .ok (.ldc 35, 2) := by decide +kernel
theorem dX11_text_40 : decode cX11_text 40 = .ok (.invokespecial 37, 3) := by decide +kernel
theorem dX11_text_43 : decode cX11_text 43 = .ok (.athrow, 1) := by decide +kernel
theorem dX11_text_44 : decode cX11_text 44 = .ok (.aload_n 0, 1) := by decide +kernel
theorem dX11_text_45 : decode cX11_text 45 = .ok (.getfield 10, 3) := by decide +kernel
theorem dX11_text_48 : decode cX11_text 48 = .ok (.iload_n 1, 1) := by decide +kernel
theorem dX11_text_49 : decode cX11_text 49 = .ok (.invokevirtual 40, 3) := by decide +kernel
theorem dX11_text_52 : decode cX11_text 52 = .ok (.aload_n 0, 1) := by decide +kernel
theorem dX11_text_53 : decode cX11_text 53 = .ok (.getfield 10, 3) := by decide +kernel
theorem dX11_text_56 : decode cX11_text 56 = .ok (.iload_n 2, 1) := by decide +kernel
theorem dX11_text_57 : decode cX11_text 57 = .ok (.invokevirtual 40, 3) := by decide +kernel
theorem dX11_text_60 : decode cX11_text 60 = .ok (.aload_n 0, 1) := by decide +kernel
theorem dX11_text_61 : decode cX11_text 61 = .ok (.getfield 10, 3) := by decide +kernel
theorem dX11_text_64 : decode cX11_text 64 = .ok (.iload_n 3, 1) := by decide +kernel
theorem dX11_text_65 : decode cX11_text 65 = .ok (.invokevirtual 40, 3) := by decide +kernel
theorem dX11_text_68 : decode cX11_text 68 = .ok (.aload_n 0, 1) := by decide +kernel
theorem dX11_text_69 : decode cX11_text 69 = .ok (.getfield 10, 3) := by decide +kernel
theorem dX11_text_72 : decode cX11_text 72 = .ok (.iload 4, 2) := by decide +kernel
theorem dX11_text_74 : decode cX11_text 74 = .ok (.invokevirtual 40, 3) := by decide +kernel
theorem dX11_text_77 : decode cX11_text 77 = .ok (.return_, 1) := by decide +kernel
theorem cwX11_text : mw_cwV yX11_text cX11_text 5 (none) 4 := ⟨⟨wd_1, wd_690, by decide +kernel⟩, wd_688, wd_689⟩
set_option maxHeartbeats 4000000 in
set_option maxRecDepth 100000 in
theorem tX11_text (l : Launch) (G : mwG) (ad : Nat → Nat) (fu : Nat) (a1 : Int32) (a2 : Int32) (a3 : Int32) (a4 : Int32) (M : mwM) (L : mwL) {z0 : Nat} {M0 : mwM} {L0 : mwL} (hst : l.stackTraces = false) (hD : DX11_text fu a1 a2 a3 a4 M L = some (z0, M0, L0)) : vx_Met l yX11_text (Cond.code yX11_text cX11_text 5 (none) :: GT) ({ frames := 8, cells := 1, slots := 6, locals := 141 }) (mx_Pre G ad NF TF FF M L [.ref (ad 0), .int a1, .int a2, .int a3, .int a4]) (mw_Qv G ad NF TF FF (mx_eqV z0 M0 L0)) (mx_XC G ad NF TF FF z0 M0 L0) 1 6 (mw_fr G) := by
  refine mx_enter (by decide) (Nat.le_of_ble_eq_true rfl) ?_
  intro p e s m below meth c ls C KX hr hlocks hex hw hl
  have hw0 := hw
  have hl : lv_has ls 5 [(0, .ref (ad 0)), (1, .int a1), (2, .int a2), (3, .int a3), (4, .int a4)] := hl
  unfold DX11_text at hD
  refine lv_aload_n C.1.1 C.1.2.1 dX11_text_0 rfl (lv_at hl 0 rfl) ?_
  refine mr_getR C hw kc_11 0 (by decide) tf_0 ff_0_0 wd_640 dX11_text_1 (by decide) rfl ?_
  refine mr_getNI C hw kc_8 4 (by decide) tf_1 nd_598 dX11_text_4 (by decide) rfl ?_
  refine lv_iload_n C.1.1 C.1.2.1 dX11_text_7 rfl (lv_at hl 1 rfl) ?_
  obtain ⟨r3, M1, L2, h1, hD⟩ := g_b3 hD
  refine md_csI (As := [.int a1]) (rest := [.int (M 1 4)]) C hw (tX11_lettersIn l G ad fu a1 M L h1) wd_691 cwX11_lettersIn ⟨Nat.le_of_ble_eq_true rfl, Nat.le_of_ble_eq_true rfl⟩ rfl hl.1 (Nat.le_of_ble_eq_true rfl) dX11_text_8 rfl rfl ⟨Nat.zero_le _, Nat.zero_le _⟩ rfl (fun H locs hw => ?_)
  refine lv_iadd C.1.1 C.1.2.1 dX11_text_11 ?_
  refine lv_iload_n C.1.1 C.1.2.1 dX11_text_12 rfl (lv_at hl 2 rfl) ?_
  obtain ⟨r6, M4, L5, h1, hD⟩ := g_b3 hD
  refine md_csI (As := [.int a2]) (rest := [.int ((M 1 4) + r3)]) C hw (tX11_lettersIn l G ad fu a2 M1 L2 h1) wd_691 cwX11_lettersIn ⟨Nat.le_of_ble_eq_true rfl, Nat.le_of_ble_eq_true rfl⟩ rfl hl.1 (Nat.le_of_ble_eq_true rfl) dX11_text_13 rfl rfl ⟨Nat.zero_le _, Nat.zero_le _⟩ rfl (fun H locs hw => ?_)
  refine lv_iadd C.1.1 C.1.2.1 dX11_text_16 ?_
  refine lv_iload_n C.1.1 C.1.2.1 dX11_text_17 rfl (lv_at hl 3 rfl) ?_
  obtain ⟨r9, M7, L8, h1, hD⟩ := g_b3 hD
  refine md_csI (As := [.int a3]) (rest := [.int (((M 1 4) + r3) + r6)]) C hw (tX11_lettersIn l G ad fu a3 M4 L5 h1) wd_691 cwX11_lettersIn ⟨Nat.le_of_ble_eq_true rfl, Nat.le_of_ble_eq_true rfl⟩ rfl hl.1 (Nat.le_of_ble_eq_true rfl) dX11_text_18 rfl rfl ⟨Nat.zero_le _, Nat.zero_le _⟩ rfl (fun H locs hw => ?_)
  refine lv_iadd C.1.1 C.1.2.1 dX11_text_21 ?_
  refine lv_iload C.1.1 C.1.2.1 dX11_text_22 (lv_at hl 4 rfl) ?_
  obtain ⟨r12, M10, L11, h1, hD⟩ := g_b3 hD
  refine md_csI (As := [.int a4]) (rest := [.int ((((M 1 4) + r3) + r6) + r9)]) C hw (tX11_lettersIn l G ad fu a4 M7 L8 h1) wd_691 cwX11_lettersIn ⟨Nat.le_of_ble_eq_true rfl, Nat.le_of_ble_eq_true rfl⟩ rfl hl.1 (Nat.le_of_ble_eq_true rfl) dX11_text_24 rfl rfl ⟨Nat.zero_le _, Nat.zero_le _⟩ rfl (fun H locs hw => ?_)
  refine lv_iadd C.1.1 C.1.2.1 dX11_text_27 ?_
  refine lv_sipush (v := 6000) C.1.1 C.1.2.1 dX11_text_28 (by decide) ?_
  refine lv_icmp_le (tgt := 44) C.1.1 C.1.2.1 dX11_text_31 (by decide) (fun c13 => ?_) (fun c13 => ?_)
  · replace hD := g_pos c13 hD
    refine lv_aload_n C.1.1 C.1.2.1 dX11_text_44 rfl (lv_at hl 0 rfl) ?_
    refine mr_getR C hw kc_11 0 (by decide) tf_0 ff_0_0 wd_640 dX11_text_45 (by decide) rfl ?_
    refine lv_iload_n C.1.1 C.1.2.1 dX11_text_48 rfl (lv_at hl 1 rfl) ?_
    obtain ⟨M14, L15, h1, hD⟩ := g_b2 hD
    refine md_cvV (As := [.int a1]) (rest := []) C hw (tX8_append l G ad fu a1 M10 L11 h1) kc_8 (by decide) tf_1 wd_761 cwX8_append ⟨Nat.le_of_ble_eq_true rfl, Nat.le_of_ble_eq_true rfl⟩ rfl hl.1 (Nat.le_of_ble_eq_true rfl) dX11_text_49 rfl rfl ⟨Nat.zero_le _, Nat.zero_le _⟩ rfl (fun H locs hw => ?_)
    refine lv_aload_n C.1.1 C.1.2.1 dX11_text_52 rfl (lv_at hl 0 rfl) ?_
    refine mr_getR C hw kc_11 0 (by decide) tf_0 ff_0_0 wd_640 dX11_text_53 (by decide) rfl ?_
    refine lv_iload_n C.1.1 C.1.2.1 dX11_text_56 rfl (lv_at hl 2 rfl) ?_
    obtain ⟨M16, L17, h1, hD⟩ := g_b2 hD
    refine md_cvV (As := [.int a2]) (rest := []) C hw (tX8_append l G ad fu a2 M14 L15 h1) kc_8 (by decide) tf_1 wd_761 cwX8_append ⟨Nat.le_of_ble_eq_true rfl, Nat.le_of_ble_eq_true rfl⟩ rfl hl.1 (Nat.le_of_ble_eq_true rfl) dX11_text_57 rfl rfl ⟨Nat.zero_le _, Nat.zero_le _⟩ rfl (fun H locs hw => ?_)
    refine lv_aload_n C.1.1 C.1.2.1 dX11_text_60 rfl (lv_at hl 0 rfl) ?_
    refine mr_getR C hw kc_11 0 (by decide) tf_0 ff_0_0 wd_640 dX11_text_61 (by decide) rfl ?_
    refine lv_iload_n C.1.1 C.1.2.1 dX11_text_64 rfl (lv_at hl 3 rfl) ?_
    obtain ⟨M18, L19, h1, hD⟩ := g_b2 hD
    refine md_cvV (As := [.int a3]) (rest := []) C hw (tX8_append l G ad fu a3 M16 L17 h1) kc_8 (by decide) tf_1 wd_761 cwX8_append ⟨Nat.le_of_ble_eq_true rfl, Nat.le_of_ble_eq_true rfl⟩ rfl hl.1 (Nat.le_of_ble_eq_true rfl) dX11_text_65 rfl rfl ⟨Nat.zero_le _, Nat.zero_le _⟩ rfl (fun H locs hw => ?_)
    refine lv_aload_n C.1.1 C.1.2.1 dX11_text_68 rfl (lv_at hl 0 rfl) ?_
    refine mr_getR C hw kc_11 0 (by decide) tf_0 ff_0_0 wd_640 dX11_text_69 (by decide) rfl ?_
    refine lv_iload C.1.1 C.1.2.1 dX11_text_72 (lv_at hl 4 rfl) ?_
    obtain ⟨M20, L21, h1, hD⟩ := g_b2 hD
    refine md_cvV (As := [.int a4]) (rest := []) C hw (tX8_append l G ad fu a4 M18 L19 h1) kc_8 (by decide) tf_1 wd_761 cwX8_append ⟨Nat.le_of_ble_eq_true rfl, Nat.le_of_ble_eq_true rfl⟩ rfl hl.1 (Nat.le_of_ble_eq_true rfl) dX11_text_74 rfl rfl ⟨Nat.zero_le _, Nat.zero_le _⟩ rfl (fun H locs hw => ?_)
    refine W.widen (k := 1) (n := 6) (Nat.le_of_ble_eq_true rfl) (Nat.le_of_ble_eq_true rfl) ?_
    exact vx_ret (mr_vret C hr hlocks hw (Option.some.inj hD) dX11_text_77)
  · replace hD := g_neg c13 hD
    exact mx_throwS (k := 1) (ik := 33) (is := 35) (ic := 37) hst C KX hw0 hw hex hlocks (by decide) wd_694 wd_24 (List.mem_of_getElem? (i := 0) rfl) mx_at_1_37 hl.1 dX11_text_34 dX11_text_37 dX11_text_38 dX11_text_40 dX11_text_43 (Nat.le_of_ble_eq_true rfl) (Nat.le_of_ble_eq_true rfl) (Nat.le_of_ble_eq_true rfl) (Nat.le_of_ble_eq_true rfl) (mx_zV hD (by decide)) (Nat.le_of_ble_eq_true rfl) (Nat.le_of_ble_eq_true rfl)

theorem dX11_cut_0 : decode cX11_cut 0 = .ok (.iload_n 1, 1) := by decide +kernel
theorem dX11_cut_1 : decode cX11_cut 1 = .ok (.ifCond .lt 14, 3) := by decide +kernel
theorem dX11_cut_4 : decode cX11_cut 4 = .ok (.iload_n 1, 1) := by decide +kernel
theorem dX11_cut_5 : decode cX11_cut 5 = .ok (.aload_n 0, 1) := by decide +kernel
theorem dX11_cut_6 : decode cX11_cut 6 = .ok (.getfield 10, 3) := by decide +kernel
theorem dX11_cut_9 : decode cX11_cut 9 = .ok (.getfield 25, 3) := by decide +kernel
theorem dX11_cut_12 : decode cX11_cut 12 = .ok (.if_icmp .le 13, 3) := by decide +kernel
theorem dX11_cut_15 : decode cX11_cut 15 = .ok (.new 44, 3) := by decide +kernel
theorem dX11_cut_18 : decode cX11_cut 18 = .ok (.dup, 1) := by decide +kernel
theorem dX11_cut_19 : decode cX11_cut 19 = .ok (.ldc 46, 2) := by decide +kernel
theorem dX11_cut_21 : decode cX11_cut 21 = .ok (.invokespecial 48, 3) := by decide +kernel
theorem dX11_cut_24 : decode cX11_cut 24 = .ok (.athrow, 1) := by decide +kernel
theorem dX11_cut_25 : decode cX11_cut 25 = .ok (.aload_n 0, 1) := by decide +kernel
theorem dX11_cut_26 : decode cX11_cut 26 = .ok (.getfield 10, 3) := by decide +kernel
theorem dX11_cut_29 : decode cX11_cut 29 = .ok (.iload_n 1, 1) := by decide +kernel
theorem dX11_cut_30 : decode cX11_cut 30 = .ok (.putfield 25, 3) := by decide +kernel
theorem dX11_cut_33 : decode cX11_cut 33 = .ok (.iload_n 1, 1) := by decide +kernel
theorem dX11_cut_34 : decode cX11_cut 34 = .ok (.ireturn, 1) := by decide +kernel
theorem cwX11_cut : mw_cwV yX11_cut cX11_cut 2 ((some .int)) 1 := ⟨⟨wd_1, wd_772, by decide +kernel⟩, wd_770, wd_771⟩
set_option maxHeartbeats 4000000 in
set_option maxRecDepth 100000 in
theorem tX11_cut (l : Launch) (G : mwG) (ad : Nat → Nat) (fu : Nat) (a1 : Int32) (M : mwM) (L : mwL) {z0 : Nat × Int32} {M0 : mwM} {L0 : mwL} (hst : l.stackTraces = false) (hD : DX11_cut fu a1 M L = some (z0, M0, L0)) : vx_Met l yX11_cut (Cond.code yX11_cut cX11_cut 2 ((some .int)) :: GT) ({ frames := 8, cells := 1, slots := 6, locals := 141 }) (mx_Pre G ad NF TF FF M L [.ref (ad 0), .int a1]) (mw_Qi G ad NF TF FF (mx_eqI z0 M0 L0)) (mx_XC G ad NF TF FF z0.1 M0 L0) 1 6 (mw_fr G) := by
  refine mx_enter (by decide) (Nat.le_of_ble_eq_true rfl) ?_
  intro p e s m below meth c ls C KX hr hlocks hex hw hl
  have hw0 := hw
  have hl : lv_has ls 2 [(0, .ref (ad 0)), (1, .int a1)] := hl
  have hb15 : ∀ (M : mwM) (L : mwL) (H : Heap) (locs : List Loc) (ls : Array Slot), fX11_cut_b15 fu a1 M L = some (z0, M0, L0) → mw_W G ad NF TF FF M L H locs → lv_has ls 2 [] → W p l e ({ frames := 8, cells := 1, slots := 6, locals := 141 }) s m [.ref (ad 0), .int a1].toArray below meth c H locs 0 0 (vx_MQ below (mw_Qi G ad NF TF FF (mx_eqI z0 M0 L0)) (mx_XC G ad NF TF FF z0.1 M0 L0) [.ref (ad 0), .int a1].toArray s 1 6 (mw_fr G)) (F0 m 15 ls []) := by
    intro M L H locs ls hD hw hl
    unfold fX11_cut_b15 at hD
    exact mx_throwS (k := 2) (ik := 44) (is := 46) (ic := 48) hst C KX hw0 hw hex hlocks (by decide) wd_773 wd_25 (List.mem_of_getElem? (i := 1) rfl) mx_at_2_48 hl.1 dX11_cut_15 dX11_cut_18 dX11_cut_19 dX11_cut_21 dX11_cut_24 (Nat.le_of_ble_eq_true rfl) (Nat.le_of_ble_eq_true rfl) (Nat.le_of_ble_eq_true rfl) (Nat.le_of_ble_eq_true rfl) (mx_zI hD (by decide)) (Nat.le_of_ble_eq_true rfl) (Nat.le_of_ble_eq_true rfl)
  unfold DX11_cut at hD
  refine lv_iload_n C.1.1 C.1.2.1 dX11_cut_0 rfl (lv_at hl 1 rfl) ?_
  refine lv_if_lt (tgt := 15) C.1.1 C.1.2.1 dX11_cut_1 (by decide) (fun c1 => ?_) (fun c1 => ?_)
  · replace hD := g_pos c1 hD
    exact hb15 M L _ _ ls hD hw (lv_sub hl [] rfl)
  · replace hD := g_neg c1 hD
    refine lv_iload_n C.1.1 C.1.2.1 dX11_cut_4 rfl (lv_at hl 1 rfl) ?_
    refine lv_aload_n C.1.1 C.1.2.1 dX11_cut_5 rfl (lv_at hl 0 rfl) ?_
    refine mr_getR C hw kc_11 0 (by decide) tf_0 ff_0_0 wd_640 dX11_cut_6 (by decide) rfl ?_
    refine mr_getNI C hw kc_8 4 (by decide) tf_1 nd_598 dX11_cut_9 (by decide) rfl ?_
    refine lv_icmp_le (tgt := 25) C.1.1 C.1.2.1 dX11_cut_12 (by decide) (fun c2 => ?_) (fun c2 => ?_)
    · replace hD := g_pos c2 hD
      refine lv_aload_n C.1.1 C.1.2.1 dX11_cut_25 rfl (lv_at hl 0 rfl) ?_
      refine mr_getR C hw kc_11 0 (by decide) tf_0 ff_0_0 wd_640 dX11_cut_26 (by decide) rfl ?_
      refine lv_iload_n C.1.1 C.1.2.1 dX11_cut_29 rfl (lv_at hl 1 rfl) ?_
      obtain ⟨M3, eM3, hD⟩ := g_let hD
      refine mr_putNI C hw kc_8 4 (by decide) tf_1 nd_598 dX11_cut_30 (by decide) rfl rfl rfl rfl (fun H locs hw => ?_)
      replace hw : mw_W G ad NF TF FF M3 L H locs := by rw [eM3]; exact hw
      refine lv_iload_n C.1.1 C.1.2.1 dX11_cut_33 rfl (lv_at hl 1 rfl) ?_
      refine W.widen (k := 1) (n := 6) (Nat.le_of_ble_eq_true rfl) (Nat.le_of_ble_eq_true rfl) ?_
      exact vx_ret (mr_iret C hr hlocks hw rfl (Option.some.inj hD) dX11_cut_34)
    · replace hD := g_neg c2 hD
      exact hb15 M L _ _ ls hD hw (lv_sub hl [] rfl)

theorem dX11_system_0 : decode cX11_system 0 = .ok (.aload_n 0, 1) := by decide +kernel
theorem dX11_system_1 : decode cX11_system 1 = .ok (.getfield 49, 3) := by decide +kernel
theorem dX11_system_4 : decode cX11_system 4 = .ok (.bipush 16, 2) := by decide +kernel
theorem dX11_system_6 : decode cX11_system 6 = .ok (.if_icmp .lt 13, 3) := by decide +kernel
theorem dX11_system_9 : decode cX11_system 9 = .ok (.new 33, 3) := by decide +kernel
theorem dX11_system_12 : decode cX11_system 12 = .ok (.dup, 1) := by decide +kernel
theorem dX11_system_13 : decode cX11_system 13 = .ok (.ldc 52, 2) := by decide +kernel
theorem dX11_system_15 : decode cX11_system 15 = .ok (.invokespecial 37, 3) := by decide +kernel
theorem dX11_system_18 : decode cX11_system 18 = .ok (.athrow, 1) := by decide +kernel
theorem dX11_system_19 : decode cX11_system 19 = .ok (.aload_n 0, 1) := by decide +kernel
theorem dX11_system_20 : decode cX11_system 20 = .ok (.dup, 1) := by decide +kernel
theorem dX11_system_21 : decode cX11_system 21 = .ok (.getfield 49, 3) := by decide +kernel
theorem dX11_system_24 : decode cX11_system 24 = .ok (.iconst 1, 1) := by decide +kernel
theorem dX11_system_25 : decode cX11_system 25 = .ok (.iadd, 1) := by decide +kernel
theorem dX11_system_26 : decode cX11_system 26 = .ok (.putfield 49, 3) := by decide +kernel
theorem dX11_system_29 : decode cX11_system 29 = .ok (.aload_n 0, 1) := by decide +kernel
theorem dX11_system_30 : decode cX11_system 30 = .ok (.getfield 20, 3) := by decide +kernel
theorem dX11_system_33 : decode cX11_system 33 = .ok (.invokevirtual 54, 3) := by decide +kernel
theorem dX11_system_36 : decode cX11_system 36 = .ok (.aload_n 0, 1) := by decide +kernel
theorem dX11_system_37 : decode cX11_system 37 = .ok (.getfield 10, 3) := by decide +kernel
theorem dX11_system_40 : decode cX11_system 40 = .ok (.invokevirtual 59, 3) := by decide +kernel
theorem dX11_system_43 : decode cX11_system 43 = .ok (.aload_n 0, 1) := by decide +kernel
theorem dX11_system_44 : decode cX11_system 44 = .ok (.aload_n 0, 1) := by decide +kernel
theorem dX11_system_45 : decode cX11_system 45 = .ok (.getfield 10, 3) := by decide +kernel
theorem dX11_system_48 : decode cX11_system 48 = .ok (.getfield 62, 3) := by decide +kernel
theorem dX11_system_51 : decode cX11_system 51 = .ok (.ifCond .ne 7, 3) := by decide +kernel
theorem dX11_system_54 : decode cX11_system 54 = .ok (.iconst 1, 1) := by decide +kernel
theorem dX11_system_55 : decode cX11_system 55 = .ok (.goto 4, 3) := by decide +kernel
theorem dX11_system_58 : decode cX11_system 58 = .ok (.iconst 0, 1) := by decide +kernel
theorem dX11_system_59 : decode cX11_system 59 = .ok (.putfield 65, 3) := by decide +kernel
theorem dX11_system_62 : decode cX11_system 62 = .ok (.aload_n 0, 1) := by decide +kernel
theorem dX11_system_63 : decode cX11_system 63 = .ok (.getfield 65, 3) := by decide +kernel
theorem dX11_system_66 : decode cX11_system 66 = .ok (.ifCond .eq 10, 3) := by decide +kernel
theorem dX11_system_69 : decode cX11_system 69 = .ok (.aload_n 0, 1) := by decide +kernel
theorem dX11_system_70 : decode cX11_system 70 = .ok (.getfield 20, 3) := by decide +kernel
theorem dX11_system_73 : decode cX11_system 73 = .ok (.invokevirtual 69, 3) := by decide +kernel
theorem dX11_system_76 : decode cX11_system 76 = .ok (.aload_n 0, 1) := by decide +kernel
theorem dX11_system_77 : decode cX11_system 77 = .ok (.getfield 10, 3) := by decide +kernel
theorem dX11_system_80 : decode cX11_system 80 = .ok (.getfield 62, 3) := by decide +kernel
theorem dX11_system_83 : decode cX11_system 83 = .ok (.ireturn, 1) := by decide +kernel
theorem cwX11_system : mw_cwV yX11_system cX11_system 1 ((some .int)) 0 := ⟨⟨wd_1, wd_795, by decide +kernel⟩, wd_793, wd_794⟩
set_option maxHeartbeats 4000000 in
set_option maxRecDepth 100000 in
theorem tX11_system (l : Launch) (G : mwG) (ad : Nat → Nat) (fu : Nat) (M : mwM) (L : mwL) {z0 : Nat × Int32} {M0 : mwM} {L0 : mwL} (hst : l.stackTraces = false) (hD : DX11_system fu M L = some (z0, M0, L0)) : vx_Met l yX11_system (Cond.code yX11_system cX11_system 1 ((some .int)) :: GT) ({ frames := 49, cells := 1, slots := 6, locals := 1249 }) (mx_Pre G ad NF TF FF M L [.ref (ad 0)]) (mw_Qi G ad NF TF FF (mx_eqI z0 M0 L0)) (mx_XC G ad NF TF FF z0.1 M0 L0) 1 6 (mw_fr G) := by
  refine mx_enter (by decide) (Nat.le_of_ble_eq_true rfl) ?_
  intro p e s m below meth c ls C KX hr hlocks hex hw hl
  have hw0 := hw
  have hl : lv_has ls 1 [(0, .ref (ad 0))] := hl
  have hb76 : ∀ (M : mwM) (L : mwL) (H : Heap) (locs : List Loc) (ls : Array Slot), fX11_system_b76 fu M L = some (z0, M0, L0) → mw_W G ad NF TF FF M L H locs → lv_has ls 1 [(0, .ref (ad 0))] → W p l e ({ frames := 49, cells := 1, slots := 6, locals := 1249 }) s m [.ref (ad 0)].toArray below meth c H locs 0 0 (vx_MQ below (mw_Qi G ad NF TF FF (mx_eqI z0 M0 L0)) (mx_XC G ad NF TF FF z0.1 M0 L0) [.ref (ad 0)].toArray s 1 6 (mw_fr G)) (F0 m 76 ls []) := by
    intro M L H locs ls hD hw hl
    unfold fX11_system_b76 at hD
    refine lv_aload_n C.1.1 C.1.2.1 dX11_system_76 rfl (lv_at hl 0 rfl) ?_
    refine mr_getR C hw kc_11 0 (by decide) tf_0 ff_0_0 wd_640 dX11_system_77 (by decide) rfl ?_
    refine mr_getNI C hw kc_8 12 (by decide) tf_1 nd_608 dX11_system_80 (by decide) rfl ?_
    refine W.widen (k := 1) (n := 6) (Nat.le_of_ble_eq_true rfl) (Nat.le_of_ble_eq_true rfl) ?_
    exact vx_ret (mr_iret C hr hlocks hw rfl (Option.some.inj hD) dX11_system_83)
  have hb59 : ∀ (s1 : Int32) (M : mwM) (L : mwL) (H : Heap) (locs : List Loc) (ls : Array Slot), fX11_system_b59 fu s1 M L = some (z0, M0, L0) → mw_W G ad NF TF FF M L H locs → lv_has ls 1 [(0, .ref (ad 0))] → W p l e ({ frames := 49, cells := 1, slots := 6, locals := 1249 }) s m [.ref (ad 0)].toArray below meth c H locs 0 0 (vx_MQ below (mw_Qi G ad NF TF FF (mx_eqI z0 M0 L0)) (mx_XC G ad NF TF FF z0.1 M0 L0) [.ref (ad 0)].toArray s 1 6 (mw_fr G)) (F0 m 59 ls [.int s1, .ref (ad 0)]) := by
    intro s1 M L H locs ls hD hw hl
    unfold fX11_system_b59 at hD
    obtain ⟨z1, hD⟩ := g_zz hD
    obtain ⟨M2, eM2, hD⟩ := g_let hD
    refine mr_putI C hw kc_11 5 (by decide) tf_0 wd_645 dX11_system_59 (by decide) rfl rfl (nz_zz z1) (ft_zz z1) (fun H locs hw => ?_)
    replace hw : mw_W G ad NF TF FF M2 L H locs := by rw [eM2]; exact hw
    refine lv_aload_n C.1.1 C.1.2.1 dX11_system_62 rfl (lv_at hl 0 rfl) ?_
    refine mr_getI C hw kc_11 5 (by decide) tf_0 wd_645 dX11_system_63 (by decide) rfl ?_
    refine lv_if_eq (tgt := 76) C.1.1 C.1.2.1 dX11_system_66 (by decide) (fun c3 => ?_) (fun c3 => ?_)
    · replace hD := g_pos c3 hD
      exact hb76 M2 L _ _ ls hD hw (lv_sub hl [0] rfl)
    · replace hD := g_neg c3 hD
      refine lv_aload_n C.1.1 C.1.2.1 dX11_system_69 rfl (lv_at hl 0 rfl) ?_
      refine mr_getR C hw kc_11 1 (by decide) tf_0 ff_0_1 wd_641 dX11_system_70 (by decide) rfl ?_
      obtain ⟨M4, L5, h1, hD⟩ := g_b2 hD
      refine md_cvV (As := []) (rest := []) C hw (tX1_join l G ad fu M2 L h1) kc_1 (by decide) tf_3 wd_1129 cwX1_join ⟨Nat.le_of_ble_eq_true rfl, Nat.le_of_ble_eq_true rfl⟩ rfl hl.1 (Nat.le_of_ble_eq_true rfl) dX11_system_73 rfl rfl ⟨Nat.zero_le _, Nat.zero_le _⟩ rfl (fun H locs hw => ?_)
      exact hb76 M4 L5 _ _ ls hD hw (lv_sub hl [0] rfl)
  unfold DX11_system at hD
  refine lv_aload_n C.1.1 C.1.2.1 dX11_system_0 rfl (lv_at hl 0 rfl) ?_
  refine mr_getI C hw kc_11 4 (by decide) tf_0 wd_644 dX11_system_1 (by decide) rfl ?_
  refine lv_bipush (v := 16) C.1.1 C.1.2.1 dX11_system_4 (by decide) ?_
  refine lv_icmp_lt (tgt := 19) C.1.1 C.1.2.1 dX11_system_6 (by decide) (fun c6 => ?_) (fun c6 => ?_)
  · replace hD := g_pos c6 hD
    refine lv_aload_n C.1.1 C.1.2.1 dX11_system_19 rfl (lv_at hl 0 rfl) ?_
    refine lv_dup C.1.1 C.1.2.1 dX11_system_20 rfl ?_
    refine mr_getI C hw kc_11 4 (by decide) tf_0 wd_644 dX11_system_21 (by decide) rfl ?_
    refine lv_iconst (v := 1) C.1.1 C.1.2.1 dX11_system_24 (by decide) ?_
    refine lv_iadd C.1.1 C.1.2.1 dX11_system_25 ?_
    obtain ⟨M7, eM7, hD⟩ := g_let hD
    refine mr_putI C hw kc_11 4 (by decide) tf_0 wd_644 dX11_system_26 (by decide) rfl rfl rfl rfl (fun H locs hw => ?_)
    replace hw : mw_W G ad NF TF FF M7 L H locs := by rw [eM7]; exact hw
    refine lv_aload_n C.1.1 C.1.2.1 dX11_system_29 rfl (lv_at hl 0 rfl) ?_
    refine mr_getR C hw kc_11 1 (by decide) tf_0 ff_0_1 wd_641 dX11_system_30 (by decide) rfl ?_
    obtain ⟨M8, L9, h1, hD⟩ := g_b2 hD
    refine md_cvV (As := []) (rest := []) C hw (tX1_clear l G ad fu M7 L h1) kc_1 (by decide) tf_3 wd_797 cwX1_clear ⟨Nat.le_of_ble_eq_true rfl, Nat.le_of_ble_eq_true rfl⟩ rfl hl.1 (Nat.le_of_ble_eq_true rfl) dX11_system_33 rfl rfl ⟨Nat.zero_le _, Nat.zero_le _⟩ rfl (fun H locs hw => ?_)
    refine lv_aload_n C.1.1 C.1.2.1 dX11_system_36 rfl (lv_at hl 0 rfl) ?_
    refine mr_getR C hw kc_11 0 (by decide) tf_0 ff_0_0 wd_640 dX11_system_37 (by decide) rfl ?_
    obtain ⟨M10, L11, h1, hD⟩ := g_b2 hD
    refine md_cvV (As := []) (rest := []) C hw (tX8_readText l G ad fu M8 L9 h1) kc_8 (by decide) tf_1 wd_822 cwX8_readText ⟨Nat.le_of_ble_eq_true rfl, Nat.le_of_ble_eq_true rfl⟩ rfl hl.1 (Nat.le_of_ble_eq_true rfl) dX11_system_40 rfl rfl ⟨Nat.zero_le _, Nat.zero_le _⟩ rfl (fun H locs hw => ?_)
    refine lv_aload_n C.1.1 C.1.2.1 dX11_system_43 rfl (lv_at hl 0 rfl) ?_
    refine lv_aload_n C.1.1 C.1.2.1 dX11_system_44 rfl (lv_at hl 0 rfl) ?_
    refine mr_getR C hw kc_11 0 (by decide) tf_0 ff_0_0 wd_640 dX11_system_45 (by decide) rfl ?_
    refine mr_getNI C hw kc_8 12 (by decide) tf_1 nd_608 dX11_system_48 (by decide) rfl ?_
    refine lv_if_ne (tgt := 58) C.1.1 C.1.2.1 dX11_system_51 (by decide) (fun c12 => ?_) (fun c12 => ?_)
    · replace hD := g_neg c12 hD
      refine lv_iconst (v := 0) C.1.1 C.1.2.1 dX11_system_58 (by decide) ?_
      exact hb59 0 M10 L11 _ _ ls hD hw (lv_sub hl [0] rfl)
    · replace hD := g_pos c12 hD
      refine lv_iconst (v := 1) C.1.1 C.1.2.1 dX11_system_54 (by decide) ?_
      refine lv_goto (tgt := 59) C.1.1 C.1.2.1 dX11_system_55 (by decide) ?_
      exact hb59 1 M10 L11 _ _ ls hD hw (lv_sub hl [0] rfl)
  · replace hD := g_neg c6 hD
    exact mx_throwS (k := 1) (ik := 33) (is := 52) (ic := 37) hst C KX hw0 hw hex hlocks (by decide) wd_694 wd_24 (List.mem_of_getElem? (i := 2) rfl) mx_at_1_37 hl.1 dX11_system_9 dX11_system_12 dX11_system_13 dX11_system_15 dX11_system_18 (Nat.le_of_ble_eq_true rfl) (Nat.le_of_ble_eq_true rfl) (Nat.le_of_ble_eq_true rfl) (Nat.le_of_ble_eq_true rfl) (mx_zI hD (by decide)) (Nat.le_of_ble_eq_true rfl) (Nat.le_of_ble_eq_true rfl)

theorem dX11_count_0 : decode cX11_count 0 = .ok (.iload_n 1, 1) := by decide +kernel
theorem dX11_count_1 : decode cX11_count 1 = .ok (.ifCond .lt 9, 3) := by decide +kernel
theorem dX11_count_4 : decode cX11_count 4 = .ok (.iload_n 1, 1) := by decide +kernel
theorem dX11_count_5 : decode cX11_count 5 = .ok (.bipush 6, 2) := by decide +kernel
theorem dX11_count_7 : decode cX11_count 7 = .ok (.if_icmp .le 13, 3) := by decide +kernel
theorem dX11_count_10 : decode cX11_count 10 = .ok (.new 44, 3) := by decide +kernel
theorem dX11_count_13 : decode cX11_count 13 = .ok (.dup, 1) := by decide +kernel
theorem dX11_count_14 : decode cX11_count 14 = .ok (.ldc 75, 2) := by decide +kernel
theorem dX11_count_16 : decode cX11_count 16 = .ok (.invokespecial 48, 3) := by decide +kernel
theorem dX11_count_19 : decode cX11_count 19 = .ok (.athrow, 1) := by decide +kernel
theorem dX11_count_20 : decode cX11_count 20 = .ok (.aload_n 0, 1) := by decide +kernel
theorem dX11_count_21 : decode cX11_count 21 = .ok (.getfield 65, 3) := by decide +kernel
theorem dX11_count_24 : decode cX11_count 24 = .ok (.ifCond .ne 13, 3) := by decide +kernel
theorem dX11_count_27 : decode cX11_count 27 = .ok (.new 33, 3) := by decide +kernel
theorem dX11_count_30 : decode cX11_count 30 = .ok (.dup, 1) := by decide +kernel
theorem dX11_count_31 : decode cX11_count 31 = .ok (.ldc 77, 2) := by decide +kernel
theorem dX11_count_33 : decode cX11_count 33 = .ok (.invokespecial 37, 3) := by decide +kernel
theorem dX11_count_36 : decode cX11_count 36 = .ok (.athrow, 1) := by decide +kernel
theorem dX11_count_37 : decode cX11_count 37 = .ok (.iload_n 1, 1) := by decide +kernel
theorem dX11_count_38 : decode cX11_count 38 = .ok (.tableswitch 95 0 5 #[38, 46, 57, 65, 76, 87], 38) := by decide +kernel
theorem dX11_count_76 : decode cX11_count 76 = .ok (.aload_n 0, 1) := by decide +kernel
theorem dX11_count_77 : decode cX11_count 77 = .ok (.getfield 20, 3) := by decide +kernel
theorem dX11_count_80 : decode cX11_count 80 = .ok (.getfield 79, 3) := by decide +kernel
theorem dX11_count_83 : decode cX11_count 83 = .ok (.ireturn, 1) := by decide +kernel
theorem dX11_count_84 : decode cX11_count 84 = .ok (.aload_n 0, 1) := by decide +kernel
theorem dX11_count_85 : decode cX11_count 85 = .ok (.getfield 20, 3) := by decide +kernel
theorem dX11_count_88 : decode cX11_count 88 = .ok (.getfield 82, 3) := by decide +kernel
theorem dX11_count_91 : decode cX11_count 91 = .ok (.getfield 86, 3) := by decide +kernel
theorem dX11_count_94 : decode cX11_count 94 = .ok (.ireturn, 1) := by decide +kernel
theorem dX11_count_95 : decode cX11_count 95 = .ok (.aload_n 0, 1) := by decide +kernel
theorem dX11_count_96 : decode cX11_count 96 = .ok (.getfield 20, 3) := by decide +kernel
theorem dX11_count_99 : decode cX11_count 99 = .ok (.getfield 91, 3) := by decide +kernel
theorem dX11_count_102 : decode cX11_count 102 = .ok (.ireturn, 1) := by decide +kernel
theorem dX11_count_103 : decode cX11_count 103 = .ok (.aload_n 0, 1) := by decide +kernel
theorem dX11_count_104 : decode cX11_count 104 = .ok (.getfield 20, 3) := by decide +kernel
theorem dX11_count_107 : decode cX11_count 107 = .ok (.getfield 94, 3) := by decide +kernel
theorem dX11_count_110 : decode cX11_count 110 = .ok (.getfield 98, 3) := by decide +kernel
theorem dX11_count_113 : decode cX11_count 113 = .ok (.ireturn, 1) := by decide +kernel
theorem dX11_count_114 : decode cX11_count 114 = .ok (.aload_n 0, 1) := by decide +kernel
theorem dX11_count_115 : decode cX11_count 115 = .ok (.getfield 20, 3) := by decide +kernel
theorem dX11_count_118 : decode cX11_count 118 = .ok (.getfield 94, 3) := by decide +kernel
theorem dX11_count_121 : decode cX11_count 121 = .ok (.getfield 103, 3) := by decide +kernel
theorem dX11_count_124 : decode cX11_count 124 = .ok (.ireturn, 1) := by decide +kernel
theorem dX11_count_125 : decode cX11_count 125 = .ok (.aload_n 0, 1) := by decide +kernel
theorem dX11_count_126 : decode cX11_count 126 = .ok (.getfield 20, 3) := by decide +kernel
theorem dX11_count_129 : decode cX11_count 129 = .ok (.getfield 105, 3) := by decide +kernel
theorem dX11_count_132 : decode cX11_count 132 = .ok (.ireturn, 1) := by decide +kernel
theorem dX11_count_133 : decode cX11_count 133 = .ok (.aload_n 0, 1) := by decide +kernel
theorem dX11_count_134 : decode cX11_count 134 = .ok (.getfield 20, 3) := by decide +kernel
theorem dX11_count_137 : decode cX11_count 137 = .ok (.getfield 108, 3) := by decide +kernel
theorem dX11_count_140 : decode cX11_count 140 = .ok (.getfield 112, 3) := by decide +kernel
theorem dX11_count_143 : decode cX11_count 143 = .ok (.ireturn, 1) := by decide +kernel
theorem cwX11_count : mw_cwV yX11_count cX11_count 2 ((some .int)) 1 := ⟨⟨wd_1, wd_1242, by decide +kernel⟩, wd_1240, wd_1241⟩
set_option maxHeartbeats 4000000 in
set_option maxRecDepth 100000 in
theorem tX11_count (l : Launch) (G : mwG) (ad : Nat → Nat) (fu : Nat) (a1 : Int32) (M : mwM) (L : mwL) {z0 : Nat × Int32} {M0 : mwM} {L0 : mwL} (hst : l.stackTraces = false) (hD : DX11_count fu a1 M L = some (z0, M0, L0)) : vx_Met l yX11_count (Cond.code yX11_count cX11_count 2 ((some .int)) :: GT) ({ frames := 8, cells := 1, slots := 6, locals := 141 }) (mx_Pre G ad NF TF FF M L [.ref (ad 0), .int a1]) (mw_Qi G ad NF TF FF (mx_eqI z0 M0 L0)) (mx_XC G ad NF TF FF z0.1 M0 L0) 1 6 (mw_fr G) := by
  refine mx_enter (by decide) (Nat.le_of_ble_eq_true rfl) ?_
  intro p e s m below meth c ls C KX hr hlocks hex hw hl
  have hw0 := hw
  have hl : lv_has ls 2 [(0, .ref (ad 0)), (1, .int a1)] := hl
  have hb10 : ∀ (M : mwM) (L : mwL) (H : Heap) (locs : List Loc) (ls : Array Slot), fX11_count_b10 fu a1 M L = some (z0, M0, L0) → mw_W G ad NF TF FF M L H locs → lv_has ls 2 [] → W p l e ({ frames := 8, cells := 1, slots := 6, locals := 141 }) s m [.ref (ad 0), .int a1].toArray below meth c H locs 0 0 (vx_MQ below (mw_Qi G ad NF TF FF (mx_eqI z0 M0 L0)) (mx_XC G ad NF TF FF z0.1 M0 L0) [.ref (ad 0), .int a1].toArray s 1 6 (mw_fr G)) (F0 m 10 ls []) := by
    intro M L H locs ls hD hw hl
    unfold fX11_count_b10 at hD
    exact mx_throwS (k := 2) (ik := 44) (is := 75) (ic := 48) hst C KX hw0 hw hex hlocks (by decide) wd_773 wd_25 (List.mem_of_getElem? (i := 3) rfl) mx_at_2_48 hl.1 dX11_count_10 dX11_count_13 dX11_count_14 dX11_count_16 dX11_count_19 (Nat.le_of_ble_eq_true rfl) (Nat.le_of_ble_eq_true rfl) (Nat.le_of_ble_eq_true rfl) (Nat.le_of_ble_eq_true rfl) (mx_zI hD (by decide)) (Nat.le_of_ble_eq_true rfl) (Nat.le_of_ble_eq_true rfl)
  unfold DX11_count at hD
  refine lv_iload_n C.1.1 C.1.2.1 dX11_count_0 rfl (lv_at hl 1 rfl) ?_
  refine lv_if_lt (tgt := 10) C.1.1 C.1.2.1 dX11_count_1 (by decide) (fun c1 => ?_) (fun c1 => ?_)
  · replace hD := g_pos c1 hD
    exact hb10 M L _ _ ls hD hw (lv_sub hl [] rfl)
  · replace hD := g_neg c1 hD
    refine lv_iload_n C.1.1 C.1.2.1 dX11_count_4 rfl (lv_at hl 1 rfl) ?_
    refine lv_bipush (v := 6) C.1.1 C.1.2.1 dX11_count_5 (by decide) ?_
    refine lv_icmp_le (tgt := 20) C.1.1 C.1.2.1 dX11_count_7 (by decide) (fun c2 => ?_) (fun c2 => ?_)
    · replace hD := g_pos c2 hD
      refine lv_aload_n C.1.1 C.1.2.1 dX11_count_20 rfl (lv_at hl 0 rfl) ?_
      refine mr_getI C hw kc_11 5 (by decide) tf_0 wd_645 dX11_count_21 (by decide) rfl ?_
      refine lv_if_ne (tgt := 37) C.1.1 C.1.2.1 dX11_count_24 (by decide) (fun c3 => ?_) (fun c3 => ?_)
      · replace hD := g_neg c3 hD
        refine lv_iload_n C.1.1 C.1.2.1 dX11_count_37 rfl (lv_at hl 1 rfl) ?_
        obtain ⟨x4, ex4, hD⟩ := g_let hD
        refine W.eq (g2 := F0 m 38 ls (.int x4 :: [])) (by rw [ex4]) ?_
        by_cases c5 : x4 = 0
        · replace hD := g_pos c5 hD
          refine lv_tableIn (tgt := 76) C.1.1 C.1.2.1 dX11_count_38 (by rw [c5]; decide) (by rw [c5]; decide) (off := 38) (by rw [c5]; decide) (by decide) ?_
          refine lv_aload_n C.1.1 C.1.2.1 dX11_count_76 rfl (lv_at hl 0 rfl) ?_
          refine mr_getR C hw kc_11 1 (by decide) tf_0 ff_0_1 wd_641 dX11_count_77 (by decide) rfl ?_
          refine mr_getNI C hw kc_1 13 (by decide) tf_3 nd_541 dX11_count_80 (by decide) rfl ?_
          refine W.widen (k := 1) (n := 6) (Nat.le_of_ble_eq_true rfl) (Nat.le_of_ble_eq_true rfl) ?_
          exact vx_ret (mr_iret C hr hlocks hw rfl (Option.some.inj hD) dX11_count_83)
        replace hD := g_neg c5 hD
        by_cases c6 : x4 = 1
        · replace hD := g_pos c6 hD
          refine lv_tableIn (tgt := 84) C.1.1 C.1.2.1 dX11_count_38 (by rw [c6]; decide) (by rw [c6]; decide) (off := 46) (by rw [c6]; decide) (by decide) ?_
          refine lv_aload_n C.1.1 C.1.2.1 dX11_count_84 rfl (lv_at hl 0 rfl) ?_
          refine mr_getR C hw kc_11 1 (by decide) tf_0 ff_0_1 wd_641 dX11_count_85 (by decide) rfl ?_
          refine mr_getNR C hw kc_1 1 (by decide) tf_3 ff_3_1 nd_515 dX11_count_88 (by decide) rfl ?_
          refine mr_getNI C hw kc_4 3 (by decide) tf_5 nd_69 dX11_count_91 (by decide) rfl ?_
          refine W.widen (k := 1) (n := 6) (Nat.le_of_ble_eq_true rfl) (Nat.le_of_ble_eq_true rfl) ?_
          exact vx_ret (mr_iret C hr hlocks hw rfl (Option.some.inj hD) dX11_count_94)
        replace hD := g_neg c6 hD
        by_cases c7 : x4 = 2
        · replace hD := g_pos c7 hD
          refine lv_tableIn (tgt := 95) C.1.1 C.1.2.1 dX11_count_38 (by rw [c7]; decide) (by rw [c7]; decide) (off := 57) (by rw [c7]; decide) (by decide) ?_
          refine lv_aload_n C.1.1 C.1.2.1 dX11_count_95 rfl (lv_at hl 0 rfl) ?_
          refine mr_getR C hw kc_11 1 (by decide) tf_0 ff_0_1 wd_641 dX11_count_96 (by decide) rfl ?_
          refine mr_getNI C hw kc_1 14 (by decide) tf_3 nd_543 dX11_count_99 (by decide) rfl ?_
          refine W.widen (k := 1) (n := 6) (Nat.le_of_ble_eq_true rfl) (Nat.le_of_ble_eq_true rfl) ?_
          exact vx_ret (mr_iret C hr hlocks hw rfl (Option.some.inj hD) dX11_count_102)
        replace hD := g_neg c7 hD
        by_cases c8 : x4 = 3
        · replace hD := g_pos c8 hD
          refine lv_tableIn (tgt := 103) C.1.1 C.1.2.1 dX11_count_38 (by rw [c8]; decide) (by rw [c8]; decide) (off := 65) (by rw [c8]; decide) (by decide) ?_
          refine lv_aload_n C.1.1 C.1.2.1 dX11_count_103 rfl (lv_at hl 0 rfl) ?_
          refine mr_getR C hw kc_11 1 (by decide) tf_0 ff_0_1 wd_641 dX11_count_104 (by decide) rfl ?_
          refine mr_getNR C hw kc_1 3 (by decide) tf_3 ff_3_3 nd_521 dX11_count_107 (by decide) rfl ?_
          refine mr_getNI C hw kc_6 10 (by decide) tf_61 nd_244 dX11_count_110 (by decide) rfl ?_
          refine W.widen (k := 1) (n := 6) (Nat.le_of_ble_eq_true rfl) (Nat.le_of_ble_eq_true rfl) ?_
          exact vx_ret (mr_iret C hr hlocks hw rfl (Option.some.inj hD) dX11_count_113)
        replace hD := g_neg c8 hD
        by_cases c9 : x4 = 4
        · replace hD := g_pos c9 hD
          refine lv_tableIn (tgt := 114) C.1.1 C.1.2.1 dX11_count_38 (by rw [c9]; decide) (by rw [c9]; decide) (off := 76) (by rw [c9]; decide) (by decide) ?_
          refine lv_aload_n C.1.1 C.1.2.1 dX11_count_114 rfl (lv_at hl 0 rfl) ?_
          refine mr_getR C hw kc_11 1 (by decide) tf_0 ff_0_1 wd_641 dX11_count_115 (by decide) rfl ?_
          refine mr_getNR C hw kc_1 3 (by decide) tf_3 ff_3_3 nd_521 dX11_count_118 (by decide) rfl ?_
          refine mr_getNI C hw kc_6 11 (by decide) tf_61 nd_248 dX11_count_121 (by decide) rfl ?_
          refine W.widen (k := 1) (n := 6) (Nat.le_of_ble_eq_true rfl) (Nat.le_of_ble_eq_true rfl) ?_
          exact vx_ret (mr_iret C hr hlocks hw rfl (Option.some.inj hD) dX11_count_124)
        replace hD := g_neg c9 hD
        by_cases c10 : x4 = 5
        · replace hD := g_pos c10 hD
          refine lv_tableIn (tgt := 125) C.1.1 C.1.2.1 dX11_count_38 (by rw [c10]; decide) (by rw [c10]; decide) (off := 87) (by rw [c10]; decide) (by decide) ?_
          refine lv_aload_n C.1.1 C.1.2.1 dX11_count_125 rfl (lv_at hl 0 rfl) ?_
          refine mr_getR C hw kc_11 1 (by decide) tf_0 ff_0_1 wd_641 dX11_count_126 (by decide) rfl ?_
          refine mr_getNI C hw kc_1 15 (by decide) tf_3 nd_546 dX11_count_129 (by decide) rfl ?_
          refine W.widen (k := 1) (n := 6) (Nat.le_of_ble_eq_true rfl) (Nat.le_of_ble_eq_true rfl) ?_
          exact vx_ret (mr_iret C hr hlocks hw rfl (Option.some.inj hD) dX11_count_132)
        replace hD := g_neg c10 hD
        have nc5 : ¬ x4.toInt = 0 := fun q => c5 (Int32.toInt_inj.mp (q.trans (by decide)))
        have nc6 : ¬ x4.toInt = 1 := fun q => c6 (Int32.toInt_inj.mp (q.trans (by decide)))
        have nc7 : ¬ x4.toInt = 2 := fun q => c7 (Int32.toInt_inj.mp (q.trans (by decide)))
        have nc8 : ¬ x4.toInt = 3 := fun q => c8 (Int32.toInt_inj.mp (q.trans (by decide)))
        have nc9 : ¬ x4.toInt = 4 := fun q => c9 (Int32.toInt_inj.mp (q.trans (by decide)))
        have nc10 : ¬ x4.toInt = 5 := fun q => c10 (Int32.toInt_inj.mp (q.trans (by decide)))
        refine lv_tableOut (tgt := 133) C.1.1 C.1.2.1 dX11_count_38 (by omega) (by decide) ?_
        refine lv_aload_n C.1.1 C.1.2.1 dX11_count_133 rfl (lv_at hl 0 rfl) ?_
        refine mr_getR C hw kc_11 1 (by decide) tf_0 ff_0_1 wd_641 dX11_count_134 (by decide) rfl ?_
        refine mr_getNR C hw kc_1 5 (by decide) tf_3 ff_3_5 nd_526 dX11_count_137 (by decide) rfl ?_
        refine mr_getNI C hw kc_10 2 (by decide) tf_139 nd_332 dX11_count_140 (by decide) rfl ?_
        refine W.widen (k := 1) (n := 6) (Nat.le_of_ble_eq_true rfl) (Nat.le_of_ble_eq_true rfl) ?_
        exact vx_ret (mr_iret C hr hlocks hw rfl (Option.some.inj hD) dX11_count_143)
      · replace hD := g_pos c3 hD
        exact mx_throwS (k := 1) (ik := 33) (is := 77) (ic := 37) hst C KX hw0 hw hex hlocks (by decide) wd_694 wd_24 (List.mem_of_getElem? (i := 4) rfl) mx_at_1_37 hl.1 dX11_count_27 dX11_count_30 dX11_count_31 dX11_count_33 dX11_count_36 (Nat.le_of_ble_eq_true rfl) (Nat.le_of_ble_eq_true rfl) (Nat.le_of_ble_eq_true rfl) (Nat.le_of_ble_eq_true rfl) (mx_zI hD (by decide)) (Nat.le_of_ble_eq_true rfl) (Nat.le_of_ble_eq_true rfl)
    · replace hD := g_neg c2 hD
      exact hb10 M L _ _ ls hD hw (lv_sub hl [] rfl)

theorem dX11_frame_0 : decode cX11_frame 0 = .ok (.aload_n 0, 1) := by decide +kernel
theorem dX11_frame_1 : decode cX11_frame 1 = .ok (.getfield 65, 3) := by decide +kernel
theorem dX11_frame_4 : decode cX11_frame 4 = .ok (.ifCond .eq 21, 3) := by decide +kernel
theorem dX11_frame_7 : decode cX11_frame 7 = .ok (.iload_n 1, 1) := by decide +kernel
theorem dX11_frame_8 : decode cX11_frame 8 = .ok (.ifCond .lt 17, 3) := by decide +kernel
theorem dX11_frame_11 : decode cX11_frame 11 = .ok (.iload_n 1, 1) := by decide +kernel
theorem dX11_frame_12 : decode cX11_frame 12 = .ok (.aload_n 0, 1) := by decide +kernel
theorem dX11_frame_13 : decode cX11_frame 13 = .ok (.getfield 20, 3) := by decide +kernel
theorem dX11_frame_16 : decode cX11_frame 16 = .ok (.getfield 94, 3) := by decide +kernel
theorem dX11_frame_19 : decode cX11_frame 19 = .ok (.getfield 103, 3) := by decide +kernel
theorem dX11_frame_22 : decode cX11_frame 22 = .ok (.if_icmp .lt 13, 3) := by decide +kernel
theorem dX11_frame_25 : decode cX11_frame 25 = .ok (.new 117, 3) := by decide +kernel
theorem dX11_frame_28 : decode cX11_frame 28 = .ok (.dup, 1) := by decide +kernel
theorem dX11_frame_29 : decode cX11_frame 29 = .ok (.ldc 119, 2) := by decide +kernel
theorem dX11_frame_31 : decode cX11_frame 31 = .ok (.invokespecial 121, 3) := by decide +kernel
theorem dX11_frame_34 : decode cX11_frame 34 = .ok (.athrow, 1) := by decide +kernel
theorem dX11_frame_35 : decode cX11_frame 35 = .ok (.iload_n 2, 1) := by decide +kernel
theorem dX11_frame_36 : decode cX11_frame 36 = .ok (.ifCond .lt 8, 3) := by decide +kernel
theorem dX11_frame_39 : decode cX11_frame 39 = .ok (.iload_n 2, 1) := by decide +kernel
theorem dX11_frame_40 : decode cX11_frame 40 = .ok (.iconst 4, 1) := by decide +kernel
theorem dX11_frame_41 : decode cX11_frame 41 = .ok (.if_icmp .le 13, 3) := by decide +kernel
theorem dX11_frame_44 : decode cX11_frame 44 = .ok (.new 44, 3) := by decide +kernel
theorem dX11_frame_47 : decode cX11_frame 47 = .ok (.dup, 1) := by decide +kernel
theorem dX11_frame_48 : decode cX11_frame 48 = .ok (.ldc 122, 2) := by decide +kernel
theorem dX11_frame_50 : decode cX11_frame 50 = .ok (.invokespecial 48, 3) := by decide +kernel
theorem dX11_frame_53 : decode cX11_frame 53 = .ok (.athrow, 1) := by decide +kernel
theorem dX11_frame_54 : decode cX11_frame 54 = .ok (.iload_n 2, 1) := by decide +kernel
theorem dX11_frame_55 : decode cX11_frame 55 = .ok (.tableswitch 86 0 3 #[29, 41, 56, 71], 29) := by decide +kernel
theorem dX11_frame_84 : decode cX11_frame 84 = .ok (.aload_n 0, 1) := by decide +kernel
theorem dX11_frame_85 : decode cX11_frame 85 = .ok (.getfield 20, 3) := by decide +kernel
theorem dX11_frame_88 : decode cX11_frame 88 = .ok (.getfield 94, 3) := by decide +kernel
theorem dX11_frame_91 : decode cX11_frame 91 = .ok (.iload_n 1, 1) := by decide +kernel
theorem dX11_frame_92 : decode cX11_frame 92 = .ok (.invokevirtual 124, 3) := by decide +kernel
theorem dX11_frame_95 : decode cX11_frame 95 = .ok (.ireturn, 1) := by decide +kernel
theorem dX11_frame_96 : decode cX11_frame 96 = .ok (.aload_n 0, 1) := by decide +kernel
theorem dX11_frame_97 : decode cX11_frame 97 = .ok (.getfield 20, 3) := by decide +kernel
theorem dX11_frame_100 : decode cX11_frame 100 = .ok (.getfield 94, 3) := by decide +kernel
theorem dX11_frame_103 : decode cX11_frame 103 = .ok (.getfield 127, 3) := by decide +kernel
theorem dX11_frame_106 : decode cX11_frame 106 = .ok (.iconst 0, 1) := by decide +kernel
theorem dX11_frame_107 : decode cX11_frame 107 = .ok (.aaload, 1) := by decide +kernel
theorem dX11_frame_108 : decode cX11_frame 108 = .ok (.iload_n 1, 1) := by decide +kernel
theorem dX11_frame_109 : decode cX11_frame 109 = .ok (.iaload, 1) := by decide +kernel
theorem dX11_frame_110 : decode cX11_frame 110 = .ok (.ireturn, 1) := by decide +kernel
theorem dX11_frame_111 : decode cX11_frame 111 = .ok (.aload_n 0, 1) := by decide +kernel
theorem dX11_frame_112 : decode cX11_frame 112 = .ok (.getfield 20, 3) := by decide +kernel
theorem dX11_frame_115 : decode cX11_frame 115 = .ok (.getfield 94, 3) := by decide +kernel
theorem dX11_frame_118 : decode cX11_frame 118 = .ok (.getfield 127, 3) := by decide +kernel
theorem dX11_frame_121 : decode cX11_frame 121 = .ok (.iconst 1, 1) := by decide +kernel
theorem dX11_frame_122 : decode cX11_frame 122 = .ok (.aaload, 1) := by decide +kernel
theorem dX11_frame_123 : decode cX11_frame 123 = .ok (.iload_n 1, 1) := by decide +kernel
theorem dX11_frame_124 : decode cX11_frame 124 = .ok (.iaload, 1) := by decide +kernel
theorem dX11_frame_125 : decode cX11_frame 125 = .ok (.ireturn, 1) := by decide +kernel
theorem dX11_frame_126 : decode cX11_frame 126 = .ok (.aload_n 0, 1) := by decide +kernel
theorem dX11_frame_127 : decode cX11_frame 127 = .ok (.getfield 20, 3) := by decide +kernel
theorem dX11_frame_130 : decode cX11_frame 130 = .ok (.getfield 94, 3) := by decide +kernel
theorem dX11_frame_133 : decode cX11_frame 133 = .ok (.getfield 127, 3) := by decide +kernel
theorem dX11_frame_136 : decode cX11_frame 136 = .ok (.iconst 2, 1) := by decide +kernel
theorem dX11_frame_137 : decode cX11_frame 137 = .ok (.aaload, 1) := by decide +kernel
theorem dX11_frame_138 : decode cX11_frame 138 = .ok (.iload_n 1, 1) := by decide +kernel
theorem dX11_frame_139 : decode cX11_frame 139 = .ok (.iaload, 1) := by decide +kernel
theorem dX11_frame_140 : decode cX11_frame 140 = .ok (.ireturn, 1) := by decide +kernel
theorem dX11_frame_141 : decode cX11_frame 141 = .ok (.aload_n 0, 1) := by decide +kernel
theorem dX11_frame_142 : decode cX11_frame 142 = .ok (.getfield 20, 3) := by decide +kernel
theorem dX11_frame_145 : decode cX11_frame 145 = .ok (.getfield 94, 3) := by decide +kernel
theorem dX11_frame_148 : decode cX11_frame 148 = .ok (.getfield 127, 3) := by decide +kernel
theorem dX11_frame_151 : decode cX11_frame 151 = .ok (.iconst 3, 1) := by decide +kernel
theorem dX11_frame_152 : decode cX11_frame 152 = .ok (.aaload, 1) := by decide +kernel
theorem dX11_frame_153 : decode cX11_frame 153 = .ok (.iload_n 1, 1) := by decide +kernel
theorem dX11_frame_154 : decode cX11_frame 154 = .ok (.iaload, 1) := by decide +kernel
theorem dX11_frame_155 : decode cX11_frame 155 = .ok (.ireturn, 1) := by decide +kernel
theorem cwX11_frame : mw_cwV yX11_frame cX11_frame 3 ((some .int)) 2 := ⟨⟨wd_1, wd_1252, by decide +kernel⟩, wd_1250, wd_1251⟩
set_option maxHeartbeats 4000000 in
set_option maxRecDepth 100000 in
theorem tX11_frame (l : Launch) (G : mwG) (ad : Nat → Nat) (fu : Nat) (a1 : Int32) (a2 : Int32) (M : mwM) (L : mwL) {z0 : Nat × Int32} {M0 : mwM} {L0 : mwL} (hst : l.stackTraces = false) (hD : DX11_frame fu a1 a2 M L = some (z0, M0, L0)) : vx_Met l yX11_frame (Cond.code yX11_frame cX11_frame 3 ((some .int)) :: GT) ({ frames := 8, cells := 1, slots := 6, locals := 141 }) (mx_Pre G ad NF TF FF M L [.ref (ad 0), .int a1, .int a2]) (mw_Qi G ad NF TF FF (mx_eqI z0 M0 L0)) (mx_XC G ad NF TF FF z0.1 M0 L0) 1 6 (mw_fr G) := by
  refine mx_enter (by decide) (Nat.le_of_ble_eq_true rfl) ?_
  intro p e s m below meth c ls C KX hr hlocks hex hw hl
  have hw0 := hw
  have hl : lv_has ls 3 [(0, .ref (ad 0)), (1, .int a1), (2, .int a2)] := hl
  have hb25 : ∀ (M : mwM) (L : mwL) (H : Heap) (locs : List Loc) (ls : Array Slot), fX11_frame_b25 fu a1 a2 M L = some (z0, M0, L0) → mw_W G ad NF TF FF M L H locs → lv_has ls 3 [] → W p l e ({ frames := 8, cells := 1, slots := 6, locals := 141 }) s m [.ref (ad 0), .int a1, .int a2].toArray below meth c H locs 0 0 (vx_MQ below (mw_Qi G ad NF TF FF (mx_eqI z0 M0 L0)) (mx_XC G ad NF TF FF z0.1 M0 L0) [.ref (ad 0), .int a1, .int a2].toArray s 1 6 (mw_fr G)) (F0 m 25 ls []) := by
    intro M L H locs ls hD hw hl
    unfold fX11_frame_b25 at hD
    exact mx_throwS (k := 3) (ik := 117) (is := 119) (ic := 121) hst C KX hw0 hw hex hlocks (by decide) wd_1253 wd_31 (List.mem_of_getElem? (i := 5) rfl) mx_at_3_121 hl.1 dX11_frame_25 dX11_frame_28 dX11_frame_29 dX11_frame_31 dX11_frame_34 (Nat.le_of_ble_eq_true rfl) (Nat.le_of_ble_eq_true rfl) (Nat.le_of_ble_eq_true rfl) (Nat.le_of_ble_eq_true rfl) (mx_zI hD (by decide)) (Nat.le_of_ble_eq_true rfl) (Nat.le_of_ble_eq_true rfl)
  have hb44 : ∀ (M : mwM) (L : mwL) (H : Heap) (locs : List Loc) (ls : Array Slot), fX11_frame_b44 fu a1 a2 M L = some (z0, M0, L0) → mw_W G ad NF TF FF M L H locs → lv_has ls 3 [] → W p l e ({ frames := 8, cells := 1, slots := 6, locals := 141 }) s m [.ref (ad 0), .int a1, .int a2].toArray below meth c H locs 0 0 (vx_MQ below (mw_Qi G ad NF TF FF (mx_eqI z0 M0 L0)) (mx_XC G ad NF TF FF z0.1 M0 L0) [.ref (ad 0), .int a1, .int a2].toArray s 1 6 (mw_fr G)) (F0 m 44 ls []) := by
    intro M L H locs ls hD hw hl
    unfold fX11_frame_b44 at hD
    exact mx_throwS (k := 2) (ik := 44) (is := 122) (ic := 48) hst C KX hw0 hw hex hlocks (by decide) wd_773 wd_25 (List.mem_of_getElem? (i := 6) rfl) mx_at_2_48 hl.1 dX11_frame_44 dX11_frame_47 dX11_frame_48 dX11_frame_50 dX11_frame_53 (Nat.le_of_ble_eq_true rfl) (Nat.le_of_ble_eq_true rfl) (Nat.le_of_ble_eq_true rfl) (Nat.le_of_ble_eq_true rfl) (mx_zI hD (by decide)) (Nat.le_of_ble_eq_true rfl) (Nat.le_of_ble_eq_true rfl)
  unfold DX11_frame at hD
  refine lv_aload_n C.1.1 C.1.2.1 dX11_frame_0 rfl (lv_at hl 0 rfl) ?_
  refine mr_getI C hw kc_11 5 (by decide) tf_0 wd_645 dX11_frame_1 (by decide) rfl ?_
  refine lv_if_eq (tgt := 25) C.1.1 C.1.2.1 dX11_frame_4 (by decide) (fun c1 => ?_) (fun c1 => ?_)
  · replace hD := g_pos c1 hD
    exact hb25 M L _ _ ls hD hw (lv_sub hl [] rfl)
  · replace hD := g_neg c1 hD
    refine lv_iload_n C.1.1 C.1.2.1 dX11_frame_7 rfl (lv_at hl 1 rfl) ?_
    refine lv_if_lt (tgt := 25) C.1.1 C.1.2.1 dX11_frame_8 (by decide) (fun c2 => ?_) (fun c2 => ?_)
    · replace hD := g_pos c2 hD
      exact hb25 M L _ _ ls hD hw (lv_sub hl [] rfl)
    · replace hD := g_neg c2 hD
      refine lv_iload_n C.1.1 C.1.2.1 dX11_frame_11 rfl (lv_at hl 1 rfl) ?_
      refine lv_aload_n C.1.1 C.1.2.1 dX11_frame_12 rfl (lv_at hl 0 rfl) ?_
      refine mr_getR C hw kc_11 1 (by decide) tf_0 ff_0_1 wd_641 dX11_frame_13 (by decide) rfl ?_
      refine mr_getNR C hw kc_1 3 (by decide) tf_3 ff_3_3 nd_521 dX11_frame_16 (by decide) rfl ?_
      refine mr_getNI C hw kc_6 11 (by decide) tf_61 nd_248 dX11_frame_19 (by decide) rfl ?_
      refine lv_icmp_lt (tgt := 35) C.1.1 C.1.2.1 dX11_frame_22 (by decide) (fun c3 => ?_) (fun c3 => ?_)
      · replace hD := g_pos c3 hD
        refine lv_iload_n C.1.1 C.1.2.1 dX11_frame_35 rfl (lv_at hl 2 rfl) ?_
        refine lv_if_lt (tgt := 44) C.1.1 C.1.2.1 dX11_frame_36 (by decide) (fun c4 => ?_) (fun c4 => ?_)
        · replace hD := g_pos c4 hD
          exact hb44 M L _ _ ls hD hw (lv_sub hl [] rfl)
        · replace hD := g_neg c4 hD
          refine lv_iload_n C.1.1 C.1.2.1 dX11_frame_39 rfl (lv_at hl 2 rfl) ?_
          refine lv_iconst (v := 4) C.1.1 C.1.2.1 dX11_frame_40 (by decide) ?_
          refine lv_icmp_le (tgt := 54) C.1.1 C.1.2.1 dX11_frame_41 (by decide) (fun c5 => ?_) (fun c5 => ?_)
          · replace hD := g_pos c5 hD
            refine lv_iload_n C.1.1 C.1.2.1 dX11_frame_54 rfl (lv_at hl 2 rfl) ?_
            obtain ⟨x6, ex6, hD⟩ := g_let hD
            refine W.eq (g2 := F0 m 55 ls (.int x6 :: [])) (by rw [ex6]) ?_
            by_cases c7 : x6 = 0
            · replace hD := g_pos c7 hD
              refine lv_tableIn (tgt := 84) C.1.1 C.1.2.1 dX11_frame_55 (by rw [c7]; decide) (by rw [c7]; decide) (off := 29) (by rw [c7]; decide) (by decide) ?_
              refine lv_aload_n C.1.1 C.1.2.1 dX11_frame_84 rfl (lv_at hl 0 rfl) ?_
              refine mr_getR C hw kc_11 1 (by decide) tf_0 ff_0_1 wd_641 dX11_frame_85 (by decide) rfl ?_
              refine mr_getNR C hw kc_1 3 (by decide) tf_3 ff_3_3 nd_521 dX11_frame_88 (by decide) rfl ?_
              refine lv_iload_n C.1.1 C.1.2.1 dX11_frame_91 rfl (lv_at hl 1 rfl) ?_
              obtain ⟨r10, M8, L9, h1, hD⟩ := g_b3 hD
              refine md_cvI (As := [.int a1]) (rest := []) C hw (tX6_identifierOf l G ad fu a1 M L h1) kc_6 (by decide) tf_61 wd_1270 cwX6_identifierOf ⟨Nat.le_of_ble_eq_true rfl, Nat.le_of_ble_eq_true rfl⟩ rfl hl.1 (Nat.le_of_ble_eq_true rfl) dX11_frame_92 rfl rfl ⟨Nat.zero_le _, Nat.zero_le _⟩ rfl (fun H locs hw => ?_)
              refine W.widen (k := 1) (n := 6) (Nat.le_of_ble_eq_true rfl) (Nat.le_of_ble_eq_true rfl) ?_
              exact vx_ret (mr_iret C hr hlocks hw rfl (Option.some.inj hD) dX11_frame_95)
            replace hD := g_neg c7 hD
            by_cases c11 : x6 = 1
            · replace hD := g_pos c11 hD
              refine lv_tableIn (tgt := 96) C.1.1 C.1.2.1 dX11_frame_55 (by rw [c11]; decide) (by rw [c11]; decide) (off := 41) (by rw [c11]; decide) (by decide) ?_
              refine lv_aload_n C.1.1 C.1.2.1 dX11_frame_96 rfl (lv_at hl 0 rfl) ?_
              refine mr_getR C hw kc_11 1 (by decide) tf_0 ff_0_1 wd_641 dX11_frame_97 (by decide) rfl ?_
              refine mr_getNR C hw kc_1 3 (by decide) tf_3 ff_3_3 nd_521 dX11_frame_100 (by decide) rfl ?_
              refine mr_getNR C hw kc_6 1 (by decide) tf_61 ff_61_1 nd_233 dX11_frame_103 (by decide) rfl ?_
              refine lv_iconst (v := 0) C.1.1 C.1.2.1 dX11_frame_106 (by decide) ?_
              refine mr_aald C hw (by decide) tf_73 (by decide) (by decide) rfl rfl (show vp_in 0 6 from by unfold vp_in; decide) ff_73_0 dX11_frame_107 ?_
              refine lv_iload_n C.1.1 C.1.2.1 dX11_frame_108 rfl (lv_at hl 1 rfl) ?_
              obtain ⟨q13, hD⟩ := g_ck hD
              refine mr_iald C hw (by decide) tf_74 q13 dX11_frame_109 ?_
              refine W.widen (k := 1) (n := 6) (Nat.le_of_ble_eq_true rfl) (Nat.le_of_ble_eq_true rfl) ?_
              exact vx_ret (mr_iret C hr hlocks hw rfl (Option.some.inj hD) dX11_frame_110)
            replace hD := g_neg c11 hD
            by_cases c14 : x6 = 2
            · replace hD := g_pos c14 hD
              refine lv_tableIn (tgt := 111) C.1.1 C.1.2.1 dX11_frame_55 (by rw [c14]; decide) (by rw [c14]; decide) (off := 56) (by rw [c14]; decide) (by decide) ?_
              refine lv_aload_n C.1.1 C.1.2.1 dX11_frame_111 rfl (lv_at hl 0 rfl) ?_
              refine mr_getR C hw kc_11 1 (by decide) tf_0 ff_0_1 wd_641 dX11_frame_112 (by decide) rfl ?_
              refine mr_getNR C hw kc_1 3 (by decide) tf_3 ff_3_3 nd_521 dX11_frame_115 (by decide) rfl ?_
              refine mr_getNR C hw kc_6 1 (by decide) tf_61 ff_61_1 nd_233 dX11_frame_118 (by decide) rfl ?_
              refine lv_iconst (v := 1) C.1.1 C.1.2.1 dX11_frame_121 (by decide) ?_
              refine mr_aald C hw (by decide) tf_73 (by decide) (by decide) rfl rfl (show vp_in 1 6 from by unfold vp_in; decide) ff_73_1 dX11_frame_122 ?_
              refine lv_iload_n C.1.1 C.1.2.1 dX11_frame_123 rfl (lv_at hl 1 rfl) ?_
              obtain ⟨q16, hD⟩ := g_ck hD
              refine mr_iald C hw (by decide) tf_75 q16 dX11_frame_124 ?_
              refine W.widen (k := 1) (n := 6) (Nat.le_of_ble_eq_true rfl) (Nat.le_of_ble_eq_true rfl) ?_
              exact vx_ret (mr_iret C hr hlocks hw rfl (Option.some.inj hD) dX11_frame_125)
            replace hD := g_neg c14 hD
            by_cases c17 : x6 = 3
            · replace hD := g_pos c17 hD
              refine lv_tableIn (tgt := 126) C.1.1 C.1.2.1 dX11_frame_55 (by rw [c17]; decide) (by rw [c17]; decide) (off := 71) (by rw [c17]; decide) (by decide) ?_
              refine lv_aload_n C.1.1 C.1.2.1 dX11_frame_126 rfl (lv_at hl 0 rfl) ?_
              refine mr_getR C hw kc_11 1 (by decide) tf_0 ff_0_1 wd_641 dX11_frame_127 (by decide) rfl ?_
              refine mr_getNR C hw kc_1 3 (by decide) tf_3 ff_3_3 nd_521 dX11_frame_130 (by decide) rfl ?_
              refine mr_getNR C hw kc_6 1 (by decide) tf_61 ff_61_1 nd_233 dX11_frame_133 (by decide) rfl ?_
              refine lv_iconst (v := 2) C.1.1 C.1.2.1 dX11_frame_136 (by decide) ?_
              refine mr_aald C hw (by decide) tf_73 (by decide) (by decide) rfl rfl (show vp_in 2 6 from by unfold vp_in; decide) ff_73_2 dX11_frame_137 ?_
              refine lv_iload_n C.1.1 C.1.2.1 dX11_frame_138 rfl (lv_at hl 1 rfl) ?_
              obtain ⟨q19, hD⟩ := g_ck hD
              refine mr_iald C hw (by decide) tf_76 q19 dX11_frame_139 ?_
              refine W.widen (k := 1) (n := 6) (Nat.le_of_ble_eq_true rfl) (Nat.le_of_ble_eq_true rfl) ?_
              exact vx_ret (mr_iret C hr hlocks hw rfl (Option.some.inj hD) dX11_frame_140)
            replace hD := g_neg c17 hD
            have nc7 : ¬ x6.toInt = 0 := fun q => c7 (Int32.toInt_inj.mp (q.trans (by decide)))
            have nc11 : ¬ x6.toInt = 1 := fun q => c11 (Int32.toInt_inj.mp (q.trans (by decide)))
            have nc14 : ¬ x6.toInt = 2 := fun q => c14 (Int32.toInt_inj.mp (q.trans (by decide)))
            have nc17 : ¬ x6.toInt = 3 := fun q => c17 (Int32.toInt_inj.mp (q.trans (by decide)))
            refine lv_tableOut (tgt := 141) C.1.1 C.1.2.1 dX11_frame_55 (by omega) (by decide) ?_
            refine lv_aload_n C.1.1 C.1.2.1 dX11_frame_141 rfl (lv_at hl 0 rfl) ?_
            refine mr_getR C hw kc_11 1 (by decide) tf_0 ff_0_1 wd_641 dX11_frame_142 (by decide) rfl ?_
            refine mr_getNR C hw kc_1 3 (by decide) tf_3 ff_3_3 nd_521 dX11_frame_145 (by decide) rfl ?_
            refine mr_getNR C hw kc_6 1 (by decide) tf_61 ff_61_1 nd_233 dX11_frame_148 (by decide) rfl ?_
            refine lv_iconst (v := 3) C.1.1 C.1.2.1 dX11_frame_151 (by decide) ?_
            refine mr_aald C hw (by decide) tf_73 (by decide) (by decide) rfl rfl (show vp_in 3 6 from by unfold vp_in; decide) ff_73_3 dX11_frame_152 ?_
            refine lv_iload_n C.1.1 C.1.2.1 dX11_frame_153 rfl (lv_at hl 1 rfl) ?_
            obtain ⟨q21, hD⟩ := g_ck hD
            refine mr_iald C hw (by decide) tf_77 q21 dX11_frame_154 ?_
            refine W.widen (k := 1) (n := 6) (Nat.le_of_ble_eq_true rfl) (Nat.le_of_ble_eq_true rfl) ?_
            exact vx_ret (mr_iret C hr hlocks hw rfl (Option.some.inj hD) dX11_frame_155)
          · replace hD := g_neg c5 hD
            exact hb44 M L _ _ ls hD hw (lv_sub hl [] rfl)
      · replace hD := g_neg c3 hD
        exact hb25 M L _ _ ls hD hw (lv_sub hl [] rfl)

theorem dX11_signal_0 : decode cX11_signal 0 = .ok (.aload_n 0, 1) := by decide +kernel
theorem dX11_signal_1 : decode cX11_signal 1 = .ok (.getfield 65, 3) := by decide +kernel
theorem dX11_signal_4 : decode cX11_signal 4 = .ok (.ifCond .eq 21, 3) := by decide +kernel
theorem dX11_signal_7 : decode cX11_signal 7 = .ok (.iload_n 1, 1) := by decide +kernel
theorem dX11_signal_8 : decode cX11_signal 8 = .ok (.ifCond .lt 17, 3) := by decide +kernel
theorem dX11_signal_11 : decode cX11_signal 11 = .ok (.iload_n 1, 1) := by decide +kernel
theorem dX11_signal_12 : decode cX11_signal 12 = .ok (.aload_n 0, 1) := by decide +kernel
theorem dX11_signal_13 : decode cX11_signal 13 = .ok (.getfield 20, 3) := by decide +kernel
theorem dX11_signal_16 : decode cX11_signal 16 = .ok (.getfield 94, 3) := by decide +kernel
theorem dX11_signal_19 : decode cX11_signal 19 = .ok (.getfield 98, 3) := by decide +kernel
theorem dX11_signal_22 : decode cX11_signal 22 = .ok (.if_icmp .lt 13, 3) := by decide +kernel
theorem dX11_signal_25 : decode cX11_signal 25 = .ok (.new 117, 3) := by decide +kernel
theorem dX11_signal_28 : decode cX11_signal 28 = .ok (.dup, 1) := by decide +kernel
theorem dX11_signal_29 : decode cX11_signal 29 = .ok (.ldc 131, 2) := by decide +kernel
theorem dX11_signal_31 : decode cX11_signal 31 = .ok (.invokespecial 121, 3) := by decide +kernel
theorem dX11_signal_34 : decode cX11_signal 34 = .ok (.athrow, 1) := by decide +kernel
theorem dX11_signal_35 : decode cX11_signal 35 = .ok (.iload_n 2, 1) := by decide +kernel
theorem dX11_signal_36 : decode cX11_signal 36 = .ok (.ifCond .eq 24, 3) := by decide +kernel
theorem dX11_signal_39 : decode cX11_signal 39 = .ok (.bipush 8, 2) := by decide +kernel
theorem dX11_signal_41 : decode cX11_signal 41 = .ok (.aload_n 0, 1) := by decide +kernel
theorem dX11_signal_42 : decode cX11_signal 42 = .ok (.getfield 20, 3) := by decide +kernel
theorem dX11_signal_45 : decode cX11_signal 45 = .ok (.getfield 94, 3) := by decide +kernel
theorem dX11_signal_48 : decode cX11_signal 48 = .ok (.getfield 133, 3) := by decide +kernel
theorem dX11_signal_51 : decode cX11_signal 51 = .ok (.bipush 9, 2) := by decide +kernel
theorem dX11_signal_53 : decode cX11_signal 53 = .ok (.aaload, 1) := by decide +kernel
theorem dX11_signal_54 : decode cX11_signal 54 = .ok (.iload_n 1, 1) := by decide +kernel
theorem dX11_signal_55 : decode cX11_signal 55 = .ok (.iaload, 1) := by decide +kernel
theorem dX11_signal_56 : decode cX11_signal 56 = .ok (.imul, 1) := by decide +kernel
theorem dX11_signal_57 : decode cX11_signal 57 = .ok (.goto 18, 3) := by decide +kernel
theorem dX11_signal_60 : decode cX11_signal 60 = .ok (.aload_n 0, 1) := by decide +kernel
theorem dX11_signal_61 : decode cX11_signal 61 = .ok (.getfield 20, 3) := by decide +kernel
theorem dX11_signal_64 : decode cX11_signal 64 = .ok (.getfield 94, 3) := by decide +kernel
theorem dX11_signal_67 : decode cX11_signal 67 = .ok (.getfield 133, 3) := by decide +kernel
theorem dX11_signal_70 : decode cX11_signal 70 = .ok (.bipush 8, 2) := by decide +kernel
theorem dX11_signal_72 : decode cX11_signal 72 = .ok (.aaload, 1) := by decide +kernel
theorem dX11_signal_73 : decode cX11_signal 73 = .ok (.iload_n 1, 1) := by decide +kernel
theorem dX11_signal_74 : decode cX11_signal 74 = .ok (.iaload, 1) := by decide +kernel
theorem dX11_signal_75 : decode cX11_signal 75 = .ok (.ireturn, 1) := by decide +kernel
theorem cwX11_signal : mw_cwV yX11_signal cX11_signal 3 ((some .int)) 2 := ⟨⟨wd_1, wd_1280, by decide +kernel⟩, wd_1278, wd_1279⟩
set_option maxHeartbeats 4000000 in
set_option maxRecDepth 100000 in
theorem tX11_signal (l : Launch) (G : mwG) (ad : Nat → Nat) (fu : Nat) (a1 : Int32) (a2 : Int32) (M : mwM) (L : mwL) {z0 : Nat × Int32} {M0 : mwM} {L0 : mwL} (hst : l.stackTraces = false) (hD : DX11_signal fu a1 a2 M L = some (z0, M0, L0)) : vx_Met l yX11_signal (Cond.code yX11_signal cX11_signal 3 ((some .int)) :: GT) ({ frames := 8, cells := 1, slots := 6, locals := 141 }) (mx_Pre G ad NF TF FF M L [.ref (ad 0), .int a1, .int a2]) (mw_Qi G ad NF TF FF (mx_eqI z0 M0 L0)) (mx_XC G ad NF TF FF z0.1 M0 L0) 1 6 (mw_fr G) := by
  refine mx_enter (by decide) (Nat.le_of_ble_eq_true rfl) ?_
  intro p e s m below meth c ls C KX hr hlocks hex hw hl
  have hw0 := hw
  have hl : lv_has ls 3 [(0, .ref (ad 0)), (1, .int a1), (2, .int a2)] := hl
  have hb25 : ∀ (M : mwM) (L : mwL) (H : Heap) (locs : List Loc) (ls : Array Slot), fX11_signal_b25 fu a1 a2 M L = some (z0, M0, L0) → mw_W G ad NF TF FF M L H locs → lv_has ls 3 [] → W p l e ({ frames := 8, cells := 1, slots := 6, locals := 141 }) s m [.ref (ad 0), .int a1, .int a2].toArray below meth c H locs 0 0 (vx_MQ below (mw_Qi G ad NF TF FF (mx_eqI z0 M0 L0)) (mx_XC G ad NF TF FF z0.1 M0 L0) [.ref (ad 0), .int a1, .int a2].toArray s 1 6 (mw_fr G)) (F0 m 25 ls []) := by
    intro M L H locs ls hD hw hl
    unfold fX11_signal_b25 at hD
    exact mx_throwS (k := 3) (ik := 117) (is := 131) (ic := 121) hst C KX hw0 hw hex hlocks (by decide) wd_1253 wd_31 (List.mem_of_getElem? (i := 7) rfl) mx_at_3_121 hl.1 dX11_signal_25 dX11_signal_28 dX11_signal_29 dX11_signal_31 dX11_signal_34 (Nat.le_of_ble_eq_true rfl) (Nat.le_of_ble_eq_true rfl) (Nat.le_of_ble_eq_true rfl) (Nat.le_of_ble_eq_true rfl) (mx_zI hD (by decide)) (Nat.le_of_ble_eq_true rfl) (Nat.le_of_ble_eq_true rfl)
  have hb75 : ∀ (s0 : Int32) (M : mwM) (L : mwL) (H : Heap) (locs : List Loc) (ls : Array Slot), fX11_signal_b75 fu a1 a2 s0 M L = some (z0, M0, L0) → mw_W G ad NF TF FF M L H locs → lv_has ls 3 [] → W p l e ({ frames := 8, cells := 1, slots := 6, locals := 141 }) s m [.ref (ad 0), .int a1, .int a2].toArray below meth c H locs 0 0 (vx_MQ below (mw_Qi G ad NF TF FF (mx_eqI z0 M0 L0)) (mx_XC G ad NF TF FF z0.1 M0 L0) [.ref (ad 0), .int a1, .int a2].toArray s 1 6 (mw_fr G)) (F0 m 75 ls [.int s0]) := by
    intro s0 M L H locs ls hD hw hl
    unfold fX11_signal_b75 at hD
    refine W.widen (k := 1) (n := 6) (Nat.le_of_ble_eq_true rfl) (Nat.le_of_ble_eq_true rfl) ?_
    exact vx_ret (mr_iret C hr hlocks hw rfl (Option.some.inj hD) dX11_signal_75)
  unfold DX11_signal at hD
  refine lv_aload_n C.1.1 C.1.2.1 dX11_signal_0 rfl (lv_at hl 0 rfl) ?_
  refine mr_getI C hw kc_11 5 (by decide) tf_0 wd_645 dX11_signal_1 (by decide) rfl ?_
  refine lv_if_eq (tgt := 25) C.1.1 C.1.2.1 dX11_signal_4 (by decide) (fun c1 => ?_) (fun c1 => ?_)
  · replace hD := g_pos c1 hD
    exact hb25 M L _ _ ls hD hw (lv_sub hl [] rfl)
  · replace hD := g_neg c1 hD
    refine lv_iload_n C.1.1 C.1.2.1 dX11_signal_7 rfl (lv_at hl 1 rfl) ?_
    refine lv_if_lt (tgt := 25) C.1.1 C.1.2.1 dX11_signal_8 (by decide) (fun c2 => ?_) (fun c2 => ?_)
    · replace hD := g_pos c2 hD
      exact hb25 M L _ _ ls hD hw (lv_sub hl [] rfl)
    · replace hD := g_neg c2 hD
      refine lv_iload_n C.1.1 C.1.2.1 dX11_signal_11 rfl (lv_at hl 1 rfl) ?_
      refine lv_aload_n C.1.1 C.1.2.1 dX11_signal_12 rfl (lv_at hl 0 rfl) ?_
      refine mr_getR C hw kc_11 1 (by decide) tf_0 ff_0_1 wd_641 dX11_signal_13 (by decide) rfl ?_
      refine mr_getNR C hw kc_1 3 (by decide) tf_3 ff_3_3 nd_521 dX11_signal_16 (by decide) rfl ?_
      refine mr_getNI C hw kc_6 10 (by decide) tf_61 nd_244 dX11_signal_19 (by decide) rfl ?_
      refine lv_icmp_lt (tgt := 35) C.1.1 C.1.2.1 dX11_signal_22 (by decide) (fun c3 => ?_) (fun c3 => ?_)
      · replace hD := g_pos c3 hD
        refine lv_iload_n C.1.1 C.1.2.1 dX11_signal_35 rfl (lv_at hl 2 rfl) ?_
        refine lv_if_eq (tgt := 60) C.1.1 C.1.2.1 dX11_signal_36 (by decide) (fun c4 => ?_) (fun c4 => ?_)
        · replace hD := g_pos c4 hD
          refine lv_aload_n C.1.1 C.1.2.1 dX11_signal_60 rfl (lv_at hl 0 rfl) ?_
          refine mr_getR C hw kc_11 1 (by decide) tf_0 ff_0_1 wd_641 dX11_signal_61 (by decide) rfl ?_
          refine mr_getNR C hw kc_1 3 (by decide) tf_3 ff_3_3 nd_521 dX11_signal_64 (by decide) rfl ?_
          refine mr_getNR C hw kc_6 0 (by decide) tf_61 ff_61_0 nd_230 dX11_signal_67 (by decide) rfl ?_
          refine lv_bipush (v := 8) C.1.1 C.1.2.1 dX11_signal_70 (by decide) ?_
          refine mr_aald C hw (by decide) tf_62 (by decide) (by decide) rfl rfl (show vp_in 8 10 from by unfold vp_in; decide) ff_62_8 dX11_signal_72 ?_
          refine lv_iload_n C.1.1 C.1.2.1 dX11_signal_73 rfl (lv_at hl 1 rfl) ?_
          obtain ⟨q6, hD⟩ := g_ck hD
          refine mr_iald C hw (by decide) tf_71 q6 dX11_signal_74 ?_
          exact hb75 (M 71 a1.toNatClampNeg) M L _ _ ls hD hw (lv_sub hl [] rfl)
        · replace hD := g_neg c4 hD
          refine lv_bipush (v := 8) C.1.1 C.1.2.1 dX11_signal_39 (by decide) ?_
          refine lv_aload_n C.1.1 C.1.2.1 dX11_signal_41 rfl (lv_at hl 0 rfl) ?_
          refine mr_getR C hw kc_11 1 (by decide) tf_0 ff_0_1 wd_641 dX11_signal_42 (by decide) rfl ?_
          refine mr_getNR C hw kc_1 3 (by decide) tf_3 ff_3_3 nd_521 dX11_signal_45 (by decide) rfl ?_
          refine mr_getNR C hw kc_6 0 (by decide) tf_61 ff_61_0 nd_230 dX11_signal_48 (by decide) rfl ?_
          refine lv_bipush (v := 9) C.1.1 C.1.2.1 dX11_signal_51 (by decide) ?_
          refine mr_aald C hw (by decide) tf_62 (by decide) (by decide) rfl rfl (show vp_in 9 10 from by unfold vp_in; decide) ff_62_9 dX11_signal_53 ?_
          refine lv_iload_n C.1.1 C.1.2.1 dX11_signal_54 rfl (lv_at hl 1 rfl) ?_
          obtain ⟨q8, hD⟩ := g_ck hD
          refine mr_iald C hw (by decide) tf_72 q8 dX11_signal_55 ?_
          refine lv_imul C.1.1 C.1.2.1 dX11_signal_56 ?_
          refine lv_goto (tgt := 75) C.1.1 C.1.2.1 dX11_signal_57 (by decide) ?_
          exact hb75 (8 * (M 72 a1.toNatClampNeg)) M L _ _ ls hD hw (lv_sub hl [] rfl)
      · replace hD := g_neg c3 hD
        exact hb25 M L _ _ ls hD hw (lv_sub hl [] rfl)

theorem dX11_run_0 : decode cX11_run 0 = .ok (.iload_n 1, 1) := by decide +kernel
theorem dX11_run_1 : decode cX11_run 1 = .ok (.ifCond .ge 13, 3) := by decide +kernel
theorem dX11_run_4 : decode cX11_run 4 = .ok (.new 44, 3) := by decide +kernel
theorem dX11_run_7 : decode cX11_run 7 = .ok (.dup, 1) := by decide +kernel
theorem dX11_run_8 : decode cX11_run 8 = .ok (.ldc 136, 2) := by decide +kernel
theorem dX11_run_10 : decode cX11_run 10 = .ok (.invokespecial 48, 3) := by decide +kernel
theorem dX11_run_13 : decode cX11_run 13 = .ok (.athrow, 1) := by decide +kernel
theorem dX11_run_14 : decode cX11_run 14 = .ok (.aload_n 0, 1) := by decide +kernel
theorem dX11_run_15 : decode cX11_run 15 = .ok (.getfield 65, 3) := by decide +kernel
theorem dX11_run_18 : decode cX11_run 18 = .ok (.ifCond .eq 18, 3) := by decide +kernel
theorem dX11_run_21 : decode cX11_run 21 = .ok (.iload_n 1, 1) := by decide +kernel
theorem dX11_run_22 : decode cX11_run 22 = .ok (.sipush 20000, 3) := by decide +kernel
theorem dX11_run_25 : decode cX11_run 25 = .ok (.aload_n 0, 1) := by decide +kernel
theorem dX11_run_26 : decode cX11_run 26 = .ok (.getfield 20, 3) := by decide +kernel
theorem dX11_run_29 : decode cX11_run 29 = .ok (.getfield 138, 3) := by decide +kernel
theorem dX11_run_32 : decode cX11_run 32 = .ok (.isub, 1) := by decide +kernel
theorem dX11_run_33 : decode cX11_run 33 = .ok (.if_icmp .le 13, 3) := by decide +kernel
theorem dX11_run_36 : decode cX11_run 36 = .ok (.new 33, 3) := by decide +kernel
theorem dX11_run_39 : decode cX11_run 39 = .ok (.dup, 1) := by decide +kernel
theorem dX11_run_40 : decode cX11_run 40 = .ok (.ldc 141, 2) := by decide +kernel
theorem dX11_run_42 : decode cX11_run 42 = .ok (.invokespecial 37, 3) := by decide +kernel
theorem dX11_run_45 : decode cX11_run 45 = .ok (.athrow, 1) := by decide +kernel
theorem dX11_run_46 : decode cX11_run 46 = .ok (.aload_n 0, 1) := by decide +kernel
theorem dX11_run_47 : decode cX11_run 47 = .ok (.getfield 20, 3) := by decide +kernel
theorem dX11_run_50 : decode cX11_run 50 = .ok (.getfield 143, 3) := by decide +kernel
theorem dX11_run_53 : decode cX11_run 53 = .ok (.getfield 147, 3) := by decide +kernel
theorem dX11_run_56 : decode cX11_run 56 = .ok (.istore_n 2, 1) := by decide +kernel
theorem dX11_run_57 : decode cX11_run 57 = .ok (.iconst 0, 1) := by decide +kernel
theorem dX11_run_58 : decode cX11_run 58 = .ok (.istore_n 3, 1) := by decide +kernel
theorem dX11_run_59 : decode cX11_run 59 = .ok (.iload_n 3, 1) := by decide +kernel
theorem dX11_run_60 : decode cX11_run 60 = .ok (.iload_n 1, 1) := by decide +kernel
theorem dX11_run_61 : decode cX11_run 61 = .ok (.if_icmp .ge 16, 3) := by decide +kernel
theorem dX11_run_64 : decode cX11_run 64 = .ok (.aload_n 0, 1) := by decide +kernel
theorem dX11_run_65 : decode cX11_run 65 = .ok (.getfield 20, 3) := by decide +kernel
theorem dX11_run_68 : decode cX11_run 68 = .ok (.invokevirtual 152, 3) := by decide +kernel
theorem dX11_run_71 : decode cX11_run 71 = .ok (.iinc 3 1, 3) := by decide +kernel
theorem dX11_run_74 : decode cX11_run 74 = .ok (.goto (-15), 3) := by decide +kernel
theorem dX11_run_77 : decode cX11_run 77 = .ok (.aload_n 0, 1) := by decide +kernel
theorem dX11_run_78 : decode cX11_run 78 = .ok (.getfield 20, 3) := by decide +kernel
theorem dX11_run_81 : decode cX11_run 81 = .ok (.getfield 143, 3) := by decide +kernel
theorem dX11_run_84 : decode cX11_run 84 = .ok (.getfield 147, 3) := by decide +kernel
theorem dX11_run_87 : decode cX11_run 87 = .ok (.iload_n 2, 1) := by decide +kernel
theorem dX11_run_88 : decode cX11_run 88 = .ok (.isub, 1) := by decide +kernel
theorem dX11_run_89 : decode cX11_run 89 = .ok (.ireturn, 1) := by decide +kernel
theorem cwX11_run : mw_cwV yX11_run cX11_run 4 ((some .int)) 1 := ⟨⟨wd_1, wd_1288, by decide +kernel⟩, wd_1286, wd_1287⟩
set_option maxHeartbeats 4000000 in
set_option maxRecDepth 100000 in
theorem tX11_run (l : Launch) (G : mwG) (ad : Nat → Nat) (fu : Nat) (a1 : Int32) (M : mwM) (L : mwL) {z0 : Nat × Int32} {M0 : mwM} {L0 : mwL} (hst : l.stackTraces = false) (hD : DX11_run fu a1 M L = some (z0, M0, L0)) : vx_Met l yX11_run (Cond.code yX11_run cX11_run 4 ((some .int)) :: GT) ({ frames := 8, cells := 1, slots := 6, locals := 179 }) (mx_Pre G ad NF TF FF M L [.ref (ad 0), .int a1]) (mw_Qi G ad NF TF FF (mx_eqI z0 M0 L0)) (mx_XC G ad NF TF FF z0.1 M0 L0) 1 6 (mw_fr G) := by
  refine mx_enter (by decide) (Nat.le_of_ble_eq_true rfl) ?_
  intro p e s m below meth c ls C KX hr hlocks hex hw hl
  have hw0 := hw
  have hl : lv_has ls 4 [(0, .ref (ad 0)), (1, .int a1)] := hl
  have hb36 : ∀ (M : mwM) (L : mwL) (H : Heap) (locs : List Loc) (ls : Array Slot), fX11_run_b36 fu a1 M L = some (z0, M0, L0) → mw_W G ad NF TF FF M L H locs → lv_has ls 4 [] → W p l e ({ frames := 8, cells := 1, slots := 6, locals := 179 }) s m [.ref (ad 0), .int a1].toArray below meth c H locs 0 0 (vx_MQ below (mw_Qi G ad NF TF FF (mx_eqI z0 M0 L0)) (mx_XC G ad NF TF FF z0.1 M0 L0) [.ref (ad 0), .int a1].toArray s 1 6 (mw_fr G)) (F0 m 36 ls []) := by
    intro M L H locs ls hD hw hl
    unfold fX11_run_b36 at hD
    exact mx_throwS (k := 1) (ik := 33) (is := 141) (ic := 37) hst C KX hw0 hw hex hlocks (by decide) wd_694 wd_24 (List.mem_of_getElem? (i := 9) rfl) mx_at_1_37 hl.1 dX11_run_36 dX11_run_39 dX11_run_40 dX11_run_42 dX11_run_45 (Nat.le_of_ble_eq_true rfl) (Nat.le_of_ble_eq_true rfl) (Nat.le_of_ble_eq_true rfl) (Nat.le_of_ble_eq_true rfl) (mx_zI hD (by decide)) (Nat.le_of_ble_eq_true rfl) (Nat.le_of_ble_eq_true rfl)
  have hh59 : ∀ (f : Nat) (v2 : Int32) (v3 : Int32) (M : mwM) (L : mwL) (H : Heap) (locs : List Loc) (ls : Array Slot), fX11_run_h59 fu a1 f (v2, v3, M, L) = some (z0, M0, L0) → mw_W G ad NF TF FF M L H locs → lv_has ls 4 [(0, .ref (ad 0)), (1, .int a1), (2, .int v2), (3, .int v3)] → W p l e ({ frames := 8, cells := 1, slots := 6, locals := 179 }) s m [.ref (ad 0), .int a1].toArray below meth c H locs 0 0 (vx_MQ below (mw_Qi G ad NF TF FF (mx_eqI z0 M0 L0)) (mx_XC G ad NF TF FF z0.1 M0 L0) [.ref (ad 0), .int a1].toArray s 1 6 (mw_fr G)) (F0 m 59 ls []) := by
    intro f
    induction f with
    | zero => intro v2 v3 M L H locs ls hD; cases hD
    | succ f59 ih59 =>
      intro v2 v3 M L H locs ls hD hw hl
      replace hD : fX11_run_i59 fu a1 (fX11_run_h59 fu a1 f59) v2 v3 M L = some (z0, M0, L0) := hD
      unfold fX11_run_i59 at hD
      refine lv_iload_n C.1.1 C.1.2.1 dX11_run_59 rfl (lv_at hl 3 rfl) ?_
      refine lv_iload_n C.1.1 C.1.2.1 dX11_run_60 rfl (lv_at hl 1 rfl) ?_
      refine lv_icmp_ge (tgt := 77) C.1.1 C.1.2.1 dX11_run_61 (by decide) (fun c1 => ?_) (fun c1 => ?_)
      · replace hD := g_pos c1 hD
        refine lv_aload_n C.1.1 C.1.2.1 dX11_run_77 rfl (lv_at hl 0 rfl) ?_
        refine mr_getR C hw kc_11 1 (by decide) tf_0 ff_0_1 wd_641 dX11_run_78 (by decide) rfl ?_
        refine mr_getNR C hw kc_1 2 (by decide) tf_3 ff_3_2 nd_518 dX11_run_81 (by decide) rfl ?_
        refine mr_getNI C hw kc_0 11 (by decide) tf_20 nd_188 dX11_run_84 (by decide) rfl ?_
        refine lv_iload_n C.1.1 C.1.2.1 dX11_run_87 rfl (lv_at hl 2 rfl) ?_
        refine lv_isub C.1.1 C.1.2.1 dX11_run_88 ?_
        refine W.widen (k := 1) (n := 6) (Nat.le_of_ble_eq_true rfl) (Nat.le_of_ble_eq_true rfl) ?_
        exact vx_ret (mr_iret C hr hlocks hw rfl (Option.some.inj hD) dX11_run_89)
      · replace hD := g_neg c1 hD
        refine lv_aload_n C.1.1 C.1.2.1 dX11_run_64 rfl (lv_at hl 0 rfl) ?_
        refine mr_getR C hw kc_11 1 (by decide) tf_0 ff_0_1 wd_641 dX11_run_65 (by decide) rfl ?_
        obtain ⟨M2, L3, h1, hD⟩ := g_b2 hD
        refine md_cvV (As := []) (rest := []) C hw (tX1_passMicrosecond l G ad fu M L h1) kc_1 (by decide) tf_3 wd_1291 cwX1_passMicrosecond ⟨Nat.le_of_ble_eq_true rfl, Nat.le_of_ble_eq_true rfl⟩ rfl hl.1 (Nat.le_of_ble_eq_true rfl) dX11_run_68 rfl rfl ⟨Nat.zero_le _, Nat.zero_le _⟩ rfl (fun H locs hw => ?_)
        obtain ⟨x4, ex4, hD⟩ := g_let hD
        refine lv_iinc (v := x4) (lv' := [(3, .int x4), (0, .ref (ad 0)), (1, .int a1), (2, .int v2)]) C.1.1 C.1.2.1 dX11_run_71 hl (k := 3) rfl (by rw [ex4]; rfl) (by decide) rfl (fun ls hl => ?_)
        refine lv_goto (tgt := 59) C.1.1 C.1.2.1 dX11_run_74 (by decide) ?_
        exact ih59 v2 x4 M2 L3 _ _ ls hD hw (lv_sub hl [1, 2, 3, 0] rfl)
  unfold DX11_run at hD
  refine lv_iload_n C.1.1 C.1.2.1 dX11_run_0 rfl (lv_at hl 1 rfl) ?_
  refine lv_if_ge (tgt := 14) C.1.1 C.1.2.1 dX11_run_1 (by decide) (fun c5 => ?_) (fun c5 => ?_)
  · replace hD := g_pos c5 hD
    refine lv_aload_n C.1.1 C.1.2.1 dX11_run_14 rfl (lv_at hl 0 rfl) ?_
    refine mr_getI C hw kc_11 5 (by decide) tf_0 wd_645 dX11_run_15 (by decide) rfl ?_
    refine lv_if_eq (tgt := 36) C.1.1 C.1.2.1 dX11_run_18 (by decide) (fun c6 => ?_) (fun c6 => ?_)
    · replace hD := g_pos c6 hD
      exact hb36 M L _ _ ls hD hw (lv_sub hl [] rfl)
    · replace hD := g_neg c6 hD
      refine lv_iload_n C.1.1 C.1.2.1 dX11_run_21 rfl (lv_at hl 1 rfl) ?_
      refine lv_sipush (v := 20000) C.1.1 C.1.2.1 dX11_run_22 (by decide) ?_
      refine lv_aload_n C.1.1 C.1.2.1 dX11_run_25 rfl (lv_at hl 0 rfl) ?_
      refine mr_getR C hw kc_11 1 (by decide) tf_0 ff_0_1 wd_641 dX11_run_26 (by decide) rfl ?_
      refine mr_getNI C hw kc_1 16 (by decide) tf_3 nd_548 dX11_run_29 (by decide) rfl ?_
      refine lv_isub C.1.1 C.1.2.1 dX11_run_32 ?_
      refine lv_icmp_le (tgt := 46) C.1.1 C.1.2.1 dX11_run_33 (by decide) (fun c7 => ?_) (fun c7 => ?_)
      · replace hD := g_pos c7 hD
        refine lv_aload_n C.1.1 C.1.2.1 dX11_run_46 rfl (lv_at hl 0 rfl) ?_
        refine mr_getR C hw kc_11 1 (by decide) tf_0 ff_0_1 wd_641 dX11_run_47 (by decide) rfl ?_
        refine mr_getNR C hw kc_1 2 (by decide) tf_3 ff_3_2 nd_518 dX11_run_50 (by decide) rfl ?_
        refine mr_getNI C hw kc_0 11 (by decide) tf_20 nd_188 dX11_run_53 (by decide) rfl ?_
        obtain ⟨x8, ex8, hD⟩ := g_let hD
        refine W.eq (g2 := F0 m 56 ls (.int x8 :: [])) (by rw [ex8]) ?_
        refine lv_istore_n (lv' := [(2, .int x8), (0, .ref (ad 0)), (1, .int a1)]) C.1.1 C.1.2.1 dX11_run_56 rfl hl (by decide) rfl (fun ls hl => ?_)
        refine lv_iconst (v := 0) C.1.1 C.1.2.1 dX11_run_57 (by decide) ?_
        refine lv_istore_n (lv' := [(3, .int 0), (2, .int x8), (0, .ref (ad 0)), (1, .int a1)]) C.1.1 C.1.2.1 dX11_run_58 rfl hl (by decide) rfl (fun ls hl => ?_)
        exact hh59 fu x8 0 M L _ _ ls hD hw (lv_sub hl [2, 3, 1, 0] rfl)
      · replace hD := g_neg c7 hD
        exact hb36 M L _ _ ls hD hw (lv_sub hl [] rfl)
  · replace hD := g_neg c5 hD
    exact mx_throwS (k := 2) (ik := 44) (is := 136) (ic := 48) hst C KX hw0 hw hex hlocks (by decide) wd_773 wd_25 (List.mem_of_getElem? (i := 8) rfl) mx_at_2_48 hl.1 dX11_run_4 dX11_run_7 dX11_run_8 dX11_run_10 dX11_run_13 (Nat.le_of_ble_eq_true rfl) (Nat.le_of_ble_eq_true rfl) (Nat.le_of_ble_eq_true rfl) (Nat.le_of_ble_eq_true rfl) (mx_zI hD (by decide)) (Nat.le_of_ble_eq_true rfl) (Nat.le_of_ble_eq_true rfl)

theorem dX11_bit_0 : decode cX11_bit 0 = .ok (.aload_n 0, 1) := by decide +kernel
theorem dX11_bit_1 : decode cX11_bit 1 = .ok (.getfield 65, 3) := by decide +kernel
theorem dX11_bit_4 : decode cX11_bit 4 = .ok (.ifCond .eq 18, 3) := by decide +kernel
theorem dX11_bit_7 : decode cX11_bit 7 = .ok (.iload_n 1, 1) := by decide +kernel
theorem dX11_bit_8 : decode cX11_bit 8 = .ok (.ifCond .lt 14, 3) := by decide +kernel
theorem dX11_bit_11 : decode cX11_bit 11 = .ok (.iload_n 1, 1) := by decide +kernel
theorem dX11_bit_12 : decode cX11_bit 12 = .ok (.aload_n 0, 1) := by decide +kernel
theorem dX11_bit_13 : decode cX11_bit 13 = .ok (.getfield 20, 3) := by decide +kernel
theorem dX11_bit_16 : decode cX11_bit 16 = .ok (.getfield 138, 3) := by decide +kernel
theorem dX11_bit_19 : decode cX11_bit 19 = .ok (.if_icmp .lt 13, 3) := by decide +kernel
theorem dX11_bit_22 : decode cX11_bit 22 = .ok (.new 117, 3) := by decide +kernel
theorem dX11_bit_25 : decode cX11_bit 25 = .ok (.dup, 1) := by decide +kernel
theorem dX11_bit_26 : decode cX11_bit 26 = .ok (.ldc 155, 2) := by decide +kernel
theorem dX11_bit_28 : decode cX11_bit 28 = .ok (.invokespecial 121, 3) := by decide +kernel
theorem dX11_bit_31 : decode cX11_bit 31 = .ok (.athrow, 1) := by decide +kernel
theorem dX11_bit_32 : decode cX11_bit 32 = .ok (.aload_n 0, 1) := by decide +kernel
theorem dX11_bit_33 : decode cX11_bit 33 = .ok (.getfield 20, 3) := by decide +kernel
theorem dX11_bit_36 : decode cX11_bit 36 = .ok (.getfield 143, 3) := by decide +kernel
theorem dX11_bit_39 : decode cX11_bit 39 = .ok (.getfield 157, 3) := by decide +kernel
theorem dX11_bit_42 : decode cX11_bit 42 = .ok (.iload_n 1, 1) := by decide +kernel
theorem dX11_bit_43 : decode cX11_bit 43 = .ok (.baload, 1) := by decide +kernel
theorem dX11_bit_44 : decode cX11_bit 44 = .ok (.ireturn, 1) := by decide +kernel
theorem cwX11_bit : mw_cwV yX11_bit cX11_bit 2 ((some .int)) 1 := ⟨⟨wd_1, wd_1791, by decide +kernel⟩, wd_1789, wd_1790⟩
set_option maxHeartbeats 4000000 in
set_option maxRecDepth 100000 in
theorem tX11_bit (l : Launch) (G : mwG) (ad : Nat → Nat) (fu : Nat) (a1 : Int32) (M : mwM) (L : mwL) {z0 : Nat × Int32} {M0 : mwM} {L0 : mwL} (hst : l.stackTraces = false) (hD : DX11_bit fu a1 M L = some (z0, M0, L0)) : vx_Met l yX11_bit (Cond.code yX11_bit cX11_bit 2 ((some .int)) :: GT) ({ frames := 8, cells := 1, slots := 6, locals := 141 }) (mx_Pre G ad NF TF FF M L [.ref (ad 0), .int a1]) (mw_Qi G ad NF TF FF (mx_eqI z0 M0 L0)) (mx_XC G ad NF TF FF z0.1 M0 L0) 1 6 (mw_fr G) := by
  refine mx_enter (by decide) (Nat.le_of_ble_eq_true rfl) ?_
  intro p e s m below meth c ls C KX hr hlocks hex hw hl
  have hw0 := hw
  have hl : lv_has ls 2 [(0, .ref (ad 0)), (1, .int a1)] := hl
  have hb22 : ∀ (M : mwM) (L : mwL) (H : Heap) (locs : List Loc) (ls : Array Slot), fX11_bit_b22 fu a1 M L = some (z0, M0, L0) → mw_W G ad NF TF FF M L H locs → lv_has ls 2 [] → W p l e ({ frames := 8, cells := 1, slots := 6, locals := 141 }) s m [.ref (ad 0), .int a1].toArray below meth c H locs 0 0 (vx_MQ below (mw_Qi G ad NF TF FF (mx_eqI z0 M0 L0)) (mx_XC G ad NF TF FF z0.1 M0 L0) [.ref (ad 0), .int a1].toArray s 1 6 (mw_fr G)) (F0 m 22 ls []) := by
    intro M L H locs ls hD hw hl
    unfold fX11_bit_b22 at hD
    exact mx_throwS (k := 3) (ik := 117) (is := 155) (ic := 121) hst C KX hw0 hw hex hlocks (by decide) wd_1253 wd_31 (List.mem_of_getElem? (i := 10) rfl) mx_at_3_121 hl.1 dX11_bit_22 dX11_bit_25 dX11_bit_26 dX11_bit_28 dX11_bit_31 (Nat.le_of_ble_eq_true rfl) (Nat.le_of_ble_eq_true rfl) (Nat.le_of_ble_eq_true rfl) (Nat.le_of_ble_eq_true rfl) (mx_zI hD (by decide)) (Nat.le_of_ble_eq_true rfl) (Nat.le_of_ble_eq_true rfl)
  unfold DX11_bit at hD
  refine lv_aload_n C.1.1 C.1.2.1 dX11_bit_0 rfl (lv_at hl 0 rfl) ?_
  refine mr_getI C hw kc_11 5 (by decide) tf_0 wd_645 dX11_bit_1 (by decide) rfl ?_
  refine lv_if_eq (tgt := 22) C.1.1 C.1.2.1 dX11_bit_4 (by decide) (fun c1 => ?_) (fun c1 => ?_)
  · replace hD := g_pos c1 hD
    exact hb22 M L _ _ ls hD hw (lv_sub hl [] rfl)
  · replace hD := g_neg c1 hD
    refine lv_iload_n C.1.1 C.1.2.1 dX11_bit_7 rfl (lv_at hl 1 rfl) ?_
    refine lv_if_lt (tgt := 22) C.1.1 C.1.2.1 dX11_bit_8 (by decide) (fun c2 => ?_) (fun c2 => ?_)
    · replace hD := g_pos c2 hD
      exact hb22 M L _ _ ls hD hw (lv_sub hl [] rfl)
    · replace hD := g_neg c2 hD
      refine lv_iload_n C.1.1 C.1.2.1 dX11_bit_11 rfl (lv_at hl 1 rfl) ?_
      refine lv_aload_n C.1.1 C.1.2.1 dX11_bit_12 rfl (lv_at hl 0 rfl) ?_
      refine mr_getR C hw kc_11 1 (by decide) tf_0 ff_0_1 wd_641 dX11_bit_13 (by decide) rfl ?_
      refine mr_getNI C hw kc_1 16 (by decide) tf_3 nd_548 dX11_bit_16 (by decide) rfl ?_
      refine lv_icmp_lt (tgt := 32) C.1.1 C.1.2.1 dX11_bit_19 (by decide) (fun c3 => ?_) (fun c3 => ?_)
      · replace hD := g_pos c3 hD
        refine lv_aload_n C.1.1 C.1.2.1 dX11_bit_32 rfl (lv_at hl 0 rfl) ?_
        refine mr_getR C hw kc_11 1 (by decide) tf_0 ff_0_1 wd_641 dX11_bit_33 (by decide) rfl ?_
        refine mr_getNR C hw kc_1 2 (by decide) tf_3 ff_3_2 nd_518 dX11_bit_36 (by decide) rfl ?_
        refine mr_getNR C hw kc_0 0 (by decide) tf_20 ff_20_0 nd_172 dX11_bit_39 (by decide) rfl ?_
        refine lv_iload_n C.1.1 C.1.2.1 dX11_bit_42 rfl (lv_at hl 1 rfl) ?_
        obtain ⟨q4, hD⟩ := g_ck hD
        refine mr_bald C hw (by decide) tf_21 q4 dX11_bit_43 ?_
        refine W.widen (k := 1) (n := 6) (Nat.le_of_ble_eq_true rfl) (Nat.le_of_ble_eq_true rfl) ?_
        exact vx_ret (mr_iret C hr hlocks hw rfl (Option.some.inj hD) dX11_bit_44)
      · replace hD := g_neg c3 hD
        exact hb22 M L _ _ ls hD hw (lv_sub hl [] rfl)

theorem dX11_node_0 : decode cX11_node 0 = .ok (.aload_n 0, 1) := by decide +kernel
theorem dX11_node_1 : decode cX11_node 1 = .ok (.getfield 65, 3) := by decide +kernel
theorem dX11_node_4 : decode cX11_node 4 = .ok (.ifCond .eq 18, 3) := by decide +kernel
theorem dX11_node_7 : decode cX11_node 7 = .ok (.iload_n 1, 1) := by decide +kernel
theorem dX11_node_8 : decode cX11_node 8 = .ok (.ifCond .lt 14, 3) := by decide +kernel
theorem dX11_node_11 : decode cX11_node 11 = .ok (.iload_n 1, 1) := by decide +kernel
theorem dX11_node_12 : decode cX11_node 12 = .ok (.aload_n 0, 1) := by decide +kernel
theorem dX11_node_13 : decode cX11_node 13 = .ok (.getfield 20, 3) := by decide +kernel
theorem dX11_node_16 : decode cX11_node 16 = .ok (.getfield 79, 3) := by decide +kernel
theorem dX11_node_19 : decode cX11_node 19 = .ok (.if_icmp .le 13, 3) := by decide +kernel
theorem dX11_node_22 : decode cX11_node 22 = .ok (.new 117, 3) := by decide +kernel
theorem dX11_node_25 : decode cX11_node 25 = .ok (.dup, 1) := by decide +kernel
theorem dX11_node_26 : decode cX11_node 26 = .ok (.ldc 161, 2) := by decide +kernel
theorem dX11_node_28 : decode cX11_node 28 = .ok (.invokespecial 121, 3) := by decide +kernel
theorem dX11_node_31 : decode cX11_node 31 = .ok (.athrow, 1) := by decide +kernel
theorem dX11_node_32 : decode cX11_node 32 = .ok (.iload_n 2, 1) := by decide +kernel
theorem dX11_node_33 : decode cX11_node 33 = .ok (.ifCond .lt 8, 3) := by decide +kernel
theorem dX11_node_36 : decode cX11_node 36 = .ok (.iload_n 2, 1) := by decide +kernel
theorem dX11_node_37 : decode cX11_node 37 = .ok (.iconst 2, 1) := by decide +kernel
theorem dX11_node_38 : decode cX11_node 38 = .ok (.if_icmp .le 13, 3) := by decide +kernel
theorem dX11_node_41 : decode cX11_node 41 = .ok (.new 44, 3) := by decide +kernel
theorem dX11_node_44 : decode cX11_node 44 = .ok (.dup, 1) := by decide +kernel
theorem dX11_node_45 : decode cX11_node 45 = .ok (.ldc 163, 2) := by decide +kernel
theorem dX11_node_47 : decode cX11_node 47 = .ok (.invokespecial 48, 3) := by decide +kernel
theorem dX11_node_50 : decode cX11_node 50 = .ok (.athrow, 1) := by decide +kernel
theorem dX11_node_51 : decode cX11_node 51 = .ok (.iload_n 2, 1) := by decide +kernel
theorem dX11_node_52 : decode cX11_node 52 = .ok (.ifCond .ne 7, 3) := by decide +kernel
theorem dX11_node_55 : decode cX11_node 55 = .ok (.iconst 0, 1) := by decide +kernel
theorem dX11_node_56 : decode cX11_node 56 = .ok (.goto 14, 3) := by decide +kernel
theorem dX11_node_59 : decode cX11_node 59 = .ok (.iload_n 2, 1) := by decide +kernel
theorem dX11_node_60 : decode cX11_node 60 = .ok (.iconst 1, 1) := by decide +kernel
theorem dX11_node_61 : decode cX11_node 61 = .ok (.if_icmp .ne 7, 3) := by decide +kernel
theorem dX11_node_64 : decode cX11_node 64 = .ok (.iconst 5, 1) := by decide +kernel
theorem dX11_node_65 : decode cX11_node 65 = .ok (.goto 5, 3) := by decide +kernel
theorem dX11_node_68 : decode cX11_node 68 = .ok (.bipush 6, 2) := by decide +kernel
theorem dX11_node_70 : decode cX11_node 70 = .ok (.istore_n 3, 1) := by decide +kernel
theorem dX11_node_71 : decode cX11_node 71 = .ok (.aload_n 0, 1) := by decide +kernel
theorem dX11_node_72 : decode cX11_node 72 = .ok (.getfield 20, 3) := by decide +kernel
theorem dX11_node_75 : decode cX11_node 75 = .ok (.getfield 143, 3) := by decide +kernel
theorem dX11_node_78 : decode cX11_node 78 = .ok (.getfield 165, 3) := by decide +kernel
theorem dX11_node_81 : decode cX11_node 81 = .ok (.iload_n 3, 1) := by decide +kernel
theorem dX11_node_82 : decode cX11_node 82 = .ok (.aaload, 1) := by decide +kernel
theorem dX11_node_83 : decode cX11_node 83 = .ok (.iload_n 1, 1) := by decide +kernel
theorem dX11_node_84 : decode cX11_node 84 = .ok (.iaload, 1) := by decide +kernel
theorem dX11_node_85 : decode cX11_node 85 = .ok (.ireturn, 1) := by decide +kernel
theorem cwX11_node : mw_cwV yX11_node cX11_node 4 ((some .int)) 2 := ⟨⟨wd_1, wd_1799, by decide +kernel⟩, wd_1797, wd_1798⟩
set_option maxHeartbeats 4000000 in
set_option maxRecDepth 100000 in
theorem tX11_node (l : Launch) (G : mwG) (ad : Nat → Nat) (fu : Nat) (a1 : Int32) (a2 : Int32) (M : mwM) (L : mwL) {z0 : Nat × Int32} {M0 : mwM} {L0 : mwL} (hst : l.stackTraces = false) (hD : DX11_node fu a1 a2 M L = some (z0, M0, L0)) : vx_Met l yX11_node (Cond.code yX11_node cX11_node 4 ((some .int)) :: GT) ({ frames := 8, cells := 1, slots := 6, locals := 141 }) (mx_Pre G ad NF TF FF M L [.ref (ad 0), .int a1, .int a2]) (mw_Qi G ad NF TF FF (mx_eqI z0 M0 L0)) (mx_XC G ad NF TF FF z0.1 M0 L0) 1 6 (mw_fr G) := by
  refine mx_enter (by decide) (Nat.le_of_ble_eq_true rfl) ?_
  intro p e s m below meth c ls C KX hr hlocks hex hw hl
  have hw0 := hw
  have hl : lv_has ls 4 [(0, .ref (ad 0)), (1, .int a1), (2, .int a2)] := hl
  have hb22 : ∀ (M : mwM) (L : mwL) (H : Heap) (locs : List Loc) (ls : Array Slot), fX11_node_b22 fu a1 a2 M L = some (z0, M0, L0) → mw_W G ad NF TF FF M L H locs → lv_has ls 4 [] → W p l e ({ frames := 8, cells := 1, slots := 6, locals := 141 }) s m [.ref (ad 0), .int a1, .int a2].toArray below meth c H locs 0 0 (vx_MQ below (mw_Qi G ad NF TF FF (mx_eqI z0 M0 L0)) (mx_XC G ad NF TF FF z0.1 M0 L0) [.ref (ad 0), .int a1, .int a2].toArray s 1 6 (mw_fr G)) (F0 m 22 ls []) := by
    intro M L H locs ls hD hw hl
    unfold fX11_node_b22 at hD
    exact mx_throwS (k := 3) (ik := 117) (is := 161) (ic := 121) hst C KX hw0 hw hex hlocks (by decide) wd_1253 wd_31 (List.mem_of_getElem? (i := 11) rfl) mx_at_3_121 hl.1 dX11_node_22 dX11_node_25 dX11_node_26 dX11_node_28 dX11_node_31 (Nat.le_of_ble_eq_true rfl) (Nat.le_of_ble_eq_true rfl) (Nat.le_of_ble_eq_true rfl) (Nat.le_of_ble_eq_true rfl) (mx_zI hD (by decide)) (Nat.le_of_ble_eq_true rfl) (Nat.le_of_ble_eq_true rfl)
  have hb41 : ∀ (M : mwM) (L : mwL) (H : Heap) (locs : List Loc) (ls : Array Slot), fX11_node_b41 fu a1 a2 M L = some (z0, M0, L0) → mw_W G ad NF TF FF M L H locs → lv_has ls 4 [] → W p l e ({ frames := 8, cells := 1, slots := 6, locals := 141 }) s m [.ref (ad 0), .int a1, .int a2].toArray below meth c H locs 0 0 (vx_MQ below (mw_Qi G ad NF TF FF (mx_eqI z0 M0 L0)) (mx_XC G ad NF TF FF z0.1 M0 L0) [.ref (ad 0), .int a1, .int a2].toArray s 1 6 (mw_fr G)) (F0 m 41 ls []) := by
    intro M L H locs ls hD hw hl
    unfold fX11_node_b41 at hD
    exact mx_throwS (k := 2) (ik := 44) (is := 163) (ic := 48) hst C KX hw0 hw hex hlocks (by decide) wd_773 wd_25 (List.mem_of_getElem? (i := 12) rfl) mx_at_2_48 hl.1 dX11_node_41 dX11_node_44 dX11_node_45 dX11_node_47 dX11_node_50 (Nat.le_of_ble_eq_true rfl) (Nat.le_of_ble_eq_true rfl) (Nat.le_of_ble_eq_true rfl) (Nat.le_of_ble_eq_true rfl) (mx_zI hD (by decide)) (Nat.le_of_ble_eq_true rfl) (Nat.le_of_ble_eq_true rfl)
  have hb70 : ∀ (s0 : Int32) (M : mwM) (L : mwL) (H : Heap) (locs : List Loc) (ls : Array Slot), fX11_node_b70 fu a1 a2 s0 M L = some (z0, M0, L0) → mw_W G ad NF TF FF M L H locs → lv_has ls 4 [(0, .ref (ad 0)), (1, .int a1)] → W p l e ({ frames := 8, cells := 1, slots := 6, locals := 141 }) s m [.ref (ad 0), .int a1, .int a2].toArray below meth c H locs 0 0 (vx_MQ below (mw_Qi G ad NF TF FF (mx_eqI z0 M0 L0)) (mx_XC G ad NF TF FF z0.1 M0 L0) [.ref (ad 0), .int a1, .int a2].toArray s 1 6 (mw_fr G)) (F0 m 70 ls [.int s0]) := by
    intro s0 M L H locs ls hD hw hl
    unfold fX11_node_b70 at hD
    refine lv_istore_n (lv' := [(3, .int s0), (0, .ref (ad 0)), (1, .int a1)]) C.1.1 C.1.2.1 dX11_node_70 rfl hl (by decide) rfl (fun ls hl => ?_)
    refine lv_aload_n C.1.1 C.1.2.1 dX11_node_71 rfl (lv_at hl 1 rfl) ?_
    refine mr_getR C hw kc_11 1 (by decide) tf_0 ff_0_1 wd_641 dX11_node_72 (by decide) rfl ?_
    refine mr_getNR C hw kc_1 2 (by decide) tf_3 ff_3_2 nd_518 dX11_node_75 (by decide) rfl ?_
    refine mr_getNR C hw kc_0 3 (by decide) tf_20 ff_20_3 nd_177 dX11_node_78 (by decide) rfl ?_
    refine lv_iload_n C.1.1 C.1.2.1 dX11_node_81 rfl (lv_at hl 0 rfl) ?_
    obtain ⟨q1, hD⟩ := g_ck hD
    refine mr_aald C hw (by decide) tf_24 (by decide) (by decide) rfl rfl q1 (fr_24 _ (g_lt q1)).1 dX11_node_82 ?_
    refine lv_iload_n C.1.1 C.1.2.1 dX11_node_83 rfl (lv_at hl 2 rfl) ?_
    obtain ⟨q2, hD⟩ := g_ck hD
    refine mr_iald C hw (fr_24 _ (g_lt q1)).2.2 (fr_24 _ (g_lt q1)).2.1 q2 dX11_node_84 ?_
    refine W.widen (k := 1) (n := 6) (Nat.le_of_ble_eq_true rfl) (Nat.le_of_ble_eq_true rfl) ?_
    exact vx_ret (mr_iret C hr hlocks hw rfl (Option.some.inj hD) dX11_node_85)
  unfold DX11_node at hD
  refine lv_aload_n C.1.1 C.1.2.1 dX11_node_0 rfl (lv_at hl 0 rfl) ?_
  refine mr_getI C hw kc_11 5 (by decide) tf_0 wd_645 dX11_node_1 (by decide) rfl ?_
  refine lv_if_eq (tgt := 22) C.1.1 C.1.2.1 dX11_node_4 (by decide) (fun c3 => ?_) (fun c3 => ?_)
  · replace hD := g_pos c3 hD
    exact hb22 M L _ _ ls hD hw (lv_sub hl [] rfl)
  · replace hD := g_neg c3 hD
    refine lv_iload_n C.1.1 C.1.2.1 dX11_node_7 rfl (lv_at hl 1 rfl) ?_
    refine lv_if_lt (tgt := 22) C.1.1 C.1.2.1 dX11_node_8 (by decide) (fun c4 => ?_) (fun c4 => ?_)
    · replace hD := g_pos c4 hD
      exact hb22 M L _ _ ls hD hw (lv_sub hl [] rfl)
    · replace hD := g_neg c4 hD
      refine lv_iload_n C.1.1 C.1.2.1 dX11_node_11 rfl (lv_at hl 1 rfl) ?_
      refine lv_aload_n C.1.1 C.1.2.1 dX11_node_12 rfl (lv_at hl 0 rfl) ?_
      refine mr_getR C hw kc_11 1 (by decide) tf_0 ff_0_1 wd_641 dX11_node_13 (by decide) rfl ?_
      refine mr_getNI C hw kc_1 13 (by decide) tf_3 nd_541 dX11_node_16 (by decide) rfl ?_
      refine lv_icmp_le (tgt := 32) C.1.1 C.1.2.1 dX11_node_19 (by decide) (fun c5 => ?_) (fun c5 => ?_)
      · replace hD := g_pos c5 hD
        refine lv_iload_n C.1.1 C.1.2.1 dX11_node_32 rfl (lv_at hl 2 rfl) ?_
        refine lv_if_lt (tgt := 41) C.1.1 C.1.2.1 dX11_node_33 (by decide) (fun c6 => ?_) (fun c6 => ?_)
        · replace hD := g_pos c6 hD
          exact hb41 M L _ _ ls hD hw (lv_sub hl [] rfl)
        · replace hD := g_neg c6 hD
          refine lv_iload_n C.1.1 C.1.2.1 dX11_node_36 rfl (lv_at hl 2 rfl) ?_
          refine lv_iconst (v := 2) C.1.1 C.1.2.1 dX11_node_37 (by decide) ?_
          refine lv_icmp_le (tgt := 51) C.1.1 C.1.2.1 dX11_node_38 (by decide) (fun c7 => ?_) (fun c7 => ?_)
          · replace hD := g_pos c7 hD
            refine lv_iload_n C.1.1 C.1.2.1 dX11_node_51 rfl (lv_at hl 2 rfl) ?_
            refine lv_if_ne (tgt := 59) C.1.1 C.1.2.1 dX11_node_52 (by decide) (fun c8 => ?_) (fun c8 => ?_)
            · replace hD := g_neg c8 hD
              refine lv_iload_n C.1.1 C.1.2.1 dX11_node_59 rfl (lv_at hl 2 rfl) ?_
              refine lv_iconst (v := 1) C.1.1 C.1.2.1 dX11_node_60 (by decide) ?_
              refine lv_icmp_ne (tgt := 68) C.1.1 C.1.2.1 dX11_node_61 (by decide) (fun c9 => ?_) (fun c9 => ?_)
              · replace hD := g_neg c9 hD
                refine lv_bipush (v := 6) C.1.1 C.1.2.1 dX11_node_68 (by decide) ?_
                exact hb70 6 M L _ _ ls hD hw (lv_sub hl [0, 1] rfl)
              · replace hD := g_pos c9 hD
                refine lv_iconst (v := 5) C.1.1 C.1.2.1 dX11_node_64 (by decide) ?_
                refine lv_goto (tgt := 70) C.1.1 C.1.2.1 dX11_node_65 (by decide) ?_
                exact hb70 5 M L _ _ ls hD hw (lv_sub hl [0, 1] rfl)
            · replace hD := g_pos c8 hD
              refine lv_iconst (v := 0) C.1.1 C.1.2.1 dX11_node_55 (by decide) ?_
              refine lv_goto (tgt := 70) C.1.1 C.1.2.1 dX11_node_56 (by decide) ?_
              exact hb70 0 M L _ _ ls hD hw (lv_sub hl [0, 1] rfl)
          · replace hD := g_neg c7 hD
            exact hb41 M L _ _ ls hD hw (lv_sub hl [] rfl)
      · replace hD := g_neg c5 hD
        exact hb22 M L _ _ ls hD hw (lv_sub hl [] rfl)

theorem dX11_error_0 : decode cX11_error 0 = .ok (.iload_n 1, 1) := by decide +kernel
theorem dX11_error_1 : decode cX11_error 1 = .ok (.iconst (-1), 1) := by decide +kernel
theorem dX11_error_2 : decode cX11_error 2 = .ok (.if_icmp .ne 11, 3) := by decide +kernel
theorem dX11_error_5 : decode cX11_error 5 = .ok (.iload_n 2, 1) := by decide +kernel
theorem dX11_error_6 : decode cX11_error 6 = .ok (.ifCond .ne 7, 3) := by decide +kernel
theorem dX11_error_9 : decode cX11_error 9 = .ok (.iconst 1, 1) := by decide +kernel
theorem dX11_error_10 : decode cX11_error 10 = .ok (.goto 4, 3) := by decide +kernel
theorem dX11_error_13 : decode cX11_error 13 = .ok (.iconst 0, 1) := by decide +kernel
theorem dX11_error_14 : decode cX11_error 14 = .ok (.istore_n 3, 1) := by decide +kernel
theorem dX11_error_15 : decode cX11_error 15 = .ok (.aload_n 0, 1) := by decide +kernel
theorem dX11_error_16 : decode cX11_error 16 = .ok (.getfield 65, 3) := by decide +kernel
theorem dX11_error_19 : decode cX11_error 19 = .ok (.ifCond .eq 25, 3) := by decide +kernel
theorem dX11_error_22 : decode cX11_error 22 = .ok (.iload_n 3, 1) := by decide +kernel
theorem dX11_error_23 : decode cX11_error 23 = .ok (.ifCond .ne 31, 3) := by decide +kernel
theorem dX11_error_26 : decode cX11_error 26 = .ok (.iload_n 1, 1) := by decide +kernel
theorem dX11_error_27 : decode cX11_error 27 = .ok (.ifCond .lt 17, 3) := by decide +kernel
theorem dX11_error_30 : decode cX11_error 30 = .ok (.iload_n 1, 1) := by decide +kernel
theorem dX11_error_31 : decode cX11_error 31 = .ok (.aload_n 0, 1) := by decide +kernel
theorem dX11_error_32 : decode cX11_error 32 = .ok (.getfield 20, 3) := by decide +kernel
theorem dX11_error_35 : decode cX11_error 35 = .ok (.getfield 143, 3) := by decide +kernel
theorem dX11_error_38 : decode cX11_error 38 = .ok (.getfield 168, 3) := by decide +kernel
theorem dX11_error_41 : decode cX11_error 41 = .ok (.if_icmp .lt 13, 3) := by decide +kernel
theorem dX11_error_44 : decode cX11_error 44 = .ok (.new 117, 3) := by decide +kernel
theorem dX11_error_47 : decode cX11_error 47 = .ok (.dup, 1) := by decide +kernel
theorem dX11_error_48 : decode cX11_error 48 = .ok (.ldc 171, 2) := by decide +kernel
theorem dX11_error_50 : decode cX11_error 50 = .ok (.invokespecial 121, 3) := by decide +kernel
theorem dX11_error_53 : decode cX11_error 53 = .ok (.athrow, 1) := by decide +kernel
theorem dX11_error_54 : decode cX11_error 54 = .ok (.iload_n 2, 1) := by decide +kernel
theorem dX11_error_55 : decode cX11_error 55 = .ok (.ifCond .lt 8, 3) := by decide +kernel
theorem dX11_error_58 : decode cX11_error 58 = .ok (.iload_n 2, 1) := by decide +kernel
theorem dX11_error_59 : decode cX11_error 59 = .ok (.iconst 2, 1) := by decide +kernel
theorem dX11_error_60 : decode cX11_error 60 = .ok (.if_icmp .le 13, 3) := by decide +kernel
theorem dX11_error_63 : decode cX11_error 63 = .ok (.new 44, 3) := by decide +kernel
theorem dX11_error_66 : decode cX11_error 66 = .ok (.dup, 1) := by decide +kernel
theorem dX11_error_67 : decode cX11_error 67 = .ok (.ldc 173, 2) := by decide +kernel
theorem dX11_error_69 : decode cX11_error 69 = .ok (.invokespecial 48, 3) := by decide +kernel
theorem dX11_error_72 : decode cX11_error 72 = .ok (.athrow, 1) := by decide +kernel
theorem dX11_error_73 : decode cX11_error 73 = .ok (.iload_n 3, 1) := by decide +kernel
theorem dX11_error_74 : decode cX11_error 74 = .ok (.ifCond .eq 16, 3) := by decide +kernel
theorem dX11_error_77 : decode cX11_error 77 = .ok (.aload_n 0, 1) := by decide +kernel
theorem dX11_error_78 : decode cX11_error 78 = .ok (.getfield 20, 3) := by decide +kernel
theorem dX11_error_81 : decode cX11_error 81 = .ok (.getfield 143, 3) := by decide +kernel
theorem dX11_error_84 : decode cX11_error 84 = .ok (.getfield 168, 3) := by decide +kernel
theorem dX11_error_87 : decode cX11_error 87 = .ok (.goto 15, 3) := by decide +kernel
theorem dX11_error_90 : decode cX11_error 90 = .ok (.aload_n 0, 1) := by decide +kernel
theorem dX11_error_91 : decode cX11_error 91 = .ok (.getfield 20, 3) := by decide +kernel
theorem dX11_error_94 : decode cX11_error 94 = .ok (.getfield 143, 3) := by decide +kernel
theorem dX11_error_97 : decode cX11_error 97 = .ok (.iload_n 1, 1) := by decide +kernel
theorem dX11_error_98 : decode cX11_error 98 = .ok (.iload_n 2, 1) := by decide +kernel
theorem dX11_error_99 : decode cX11_error 99 = .ok (.invokevirtual 175, 3) := by decide +kernel
theorem dX11_error_102 : decode cX11_error 102 = .ok (.ireturn, 1) := by decide +kernel
theorem cwX11_error : mw_cwV yX11_error cX11_error 4 ((some .int)) 2 := ⟨⟨wd_1, wd_1808, by decide +kernel⟩, wd_1806, wd_1807⟩
set_option maxHeartbeats 4000000 in
set_option maxRecDepth 100000 in
theorem tX11_error (l : Launch) (G : mwG) (ad : Nat → Nat) (fu : Nat) (a1 : Int32) (a2 : Int32) (M : mwM) (L : mwL) {z0 : Nat × Int32} {M0 : mwM} {L0 : mwL} (hst : l.stackTraces = false) (hD : DX11_error fu a1 a2 M L = some (z0, M0, L0)) : vx_Met l yX11_error (Cond.code yX11_error cX11_error 4 ((some .int)) :: GT) ({ frames := 8, cells := 1, slots := 6, locals := 141 }) (mx_Pre G ad NF TF FF M L [.ref (ad 0), .int a1, .int a2]) (mw_Qi G ad NF TF FF (mx_eqI z0 M0 L0)) (mx_XC G ad NF TF FF z0.1 M0 L0) 1 6 (mw_fr G) := by
  refine mx_enter (by decide) (Nat.le_of_ble_eq_true rfl) ?_
  intro p e s m below meth c ls C KX hr hlocks hex hw hl
  have hw0 := hw
  have hl : lv_has ls 4 [(0, .ref (ad 0)), (1, .int a1), (2, .int a2)] := hl
  have hb44 : ∀ (M : mwM) (L : mwL) (H : Heap) (locs : List Loc) (ls : Array Slot), fX11_error_b44 fu a1 a2 M L = some (z0, M0, L0) → mw_W G ad NF TF FF M L H locs → lv_has ls 4 [] → W p l e ({ frames := 8, cells := 1, slots := 6, locals := 141 }) s m [.ref (ad 0), .int a1, .int a2].toArray below meth c H locs 0 0 (vx_MQ below (mw_Qi G ad NF TF FF (mx_eqI z0 M0 L0)) (mx_XC G ad NF TF FF z0.1 M0 L0) [.ref (ad 0), .int a1, .int a2].toArray s 1 6 (mw_fr G)) (F0 m 44 ls []) := by
    intro M L H locs ls hD hw hl
    unfold fX11_error_b44 at hD
    exact mx_throwS (k := 3) (ik := 117) (is := 171) (ic := 121) hst C KX hw0 hw hex hlocks (by decide) wd_1253 wd_31 (List.mem_of_getElem? (i := 13) rfl) mx_at_3_121 hl.1 dX11_error_44 dX11_error_47 dX11_error_48 dX11_error_50 dX11_error_53 (Nat.le_of_ble_eq_true rfl) (Nat.le_of_ble_eq_true rfl) (Nat.le_of_ble_eq_true rfl) (Nat.le_of_ble_eq_true rfl) (mx_zI hD (by decide)) (Nat.le_of_ble_eq_true rfl) (Nat.le_of_ble_eq_true rfl)
  have hb63 : ∀ (M : mwM) (L : mwL) (H : Heap) (locs : List Loc) (ls : Array Slot), fX11_error_b63 fu a1 a2 M L = some (z0, M0, L0) → mw_W G ad NF TF FF M L H locs → lv_has ls 4 [] → W p l e ({ frames := 8, cells := 1, slots := 6, locals := 141 }) s m [.ref (ad 0), .int a1, .int a2].toArray below meth c H locs 0 0 (vx_MQ below (mw_Qi G ad NF TF FF (mx_eqI z0 M0 L0)) (mx_XC G ad NF TF FF z0.1 M0 L0) [.ref (ad 0), .int a1, .int a2].toArray s 1 6 (mw_fr G)) (F0 m 63 ls []) := by
    intro M L H locs ls hD hw hl
    unfold fX11_error_b63 at hD
    exact mx_throwS (k := 2) (ik := 44) (is := 173) (ic := 48) hst C KX hw0 hw hex hlocks (by decide) wd_773 wd_25 (List.mem_of_getElem? (i := 14) rfl) mx_at_2_48 hl.1 dX11_error_63 dX11_error_66 dX11_error_67 dX11_error_69 dX11_error_72 (Nat.le_of_ble_eq_true rfl) (Nat.le_of_ble_eq_true rfl) (Nat.le_of_ble_eq_true rfl) (Nat.le_of_ble_eq_true rfl) (mx_zI hD (by decide)) (Nat.le_of_ble_eq_true rfl) (Nat.le_of_ble_eq_true rfl)
  have hb102 : ∀ (s0 : Int32) (M : mwM) (L : mwL) (H : Heap) (locs : List Loc) (ls : Array Slot), fX11_error_b102 fu a1 a2 s0 M L = some (z0, M0, L0) → mw_W G ad NF TF FF M L H locs → lv_has ls 4 [] → W p l e ({ frames := 8, cells := 1, slots := 6, locals := 141 }) s m [.ref (ad 0), .int a1, .int a2].toArray below meth c H locs 0 0 (vx_MQ below (mw_Qi G ad NF TF FF (mx_eqI z0 M0 L0)) (mx_XC G ad NF TF FF z0.1 M0 L0) [.ref (ad 0), .int a1, .int a2].toArray s 1 6 (mw_fr G)) (F0 m 102 ls [.int s0]) := by
    intro s0 M L H locs ls hD hw hl
    unfold fX11_error_b102 at hD
    refine W.widen (k := 1) (n := 6) (Nat.le_of_ble_eq_true rfl) (Nat.le_of_ble_eq_true rfl) ?_
    exact vx_ret (mr_iret C hr hlocks hw rfl (Option.some.inj hD) dX11_error_102)
  have hb54 : ∀ (v3 : Int32) (M : mwM) (L : mwL) (H : Heap) (locs : List Loc) (ls : Array Slot), fX11_error_b54 fu a1 a2 v3 M L = some (z0, M0, L0) → mw_W G ad NF TF FF M L H locs → lv_has ls 4 [(0, .ref (ad 0)), (1, .int a1), (2, .int a2), (3, .int v3)] → W p l e ({ frames := 8, cells := 1, slots := 6, locals := 141 }) s m [.ref (ad 0), .int a1, .int a2].toArray below meth c H locs 0 0 (vx_MQ below (mw_Qi G ad NF TF FF (mx_eqI z0 M0 L0)) (mx_XC G ad NF TF FF z0.1 M0 L0) [.ref (ad 0), .int a1, .int a2].toArray s 1 6 (mw_fr G)) (F0 m 54 ls []) := by
    intro v3 M L H locs ls hD hw hl
    unfold fX11_error_b54 at hD
    refine lv_iload_n C.1.1 C.1.2.1 dX11_error_54 rfl (lv_at hl 2 rfl) ?_
    refine lv_if_lt (tgt := 63) C.1.1 C.1.2.1 dX11_error_55 (by decide) (fun c5 => ?_) (fun c5 => ?_)
    · replace hD := g_pos c5 hD
      exact hb63 M L _ _ ls hD hw (lv_sub hl [] rfl)
    · replace hD := g_neg c5 hD
      refine lv_iload_n C.1.1 C.1.2.1 dX11_error_58 rfl (lv_at hl 2 rfl) ?_
      refine lv_iconst (v := 2) C.1.1 C.1.2.1 dX11_error_59 (by decide) ?_
      refine lv_icmp_le (tgt := 73) C.1.1 C.1.2.1 dX11_error_60 (by decide) (fun c6 => ?_) (fun c6 => ?_)
      · replace hD := g_pos c6 hD
        refine lv_iload_n C.1.1 C.1.2.1 dX11_error_73 rfl (lv_at hl 3 rfl) ?_
        refine lv_if_eq (tgt := 90) C.1.1 C.1.2.1 dX11_error_74 (by decide) (fun c7 => ?_) (fun c7 => ?_)
        · replace hD := g_pos c7 hD
          refine lv_aload_n C.1.1 C.1.2.1 dX11_error_90 rfl (lv_at hl 0 rfl) ?_
          refine mr_getR C hw kc_11 1 (by decide) tf_0 ff_0_1 wd_641 dX11_error_91 (by decide) rfl ?_
          refine mr_getNR C hw kc_1 2 (by decide) tf_3 ff_3_2 nd_518 dX11_error_94 (by decide) rfl ?_
          refine lv_iload_n C.1.1 C.1.2.1 dX11_error_97 rfl (lv_at hl 1 rfl) ?_
          refine lv_iload_n C.1.1 C.1.2.1 dX11_error_98 rfl (lv_at hl 2 rfl) ?_
          obtain ⟨r10, M8, L9, h1, hD⟩ := g_b3 hD
          refine md_cvI (As := [.int a1, .int a2]) (rest := []) C hw (tX0_tellError l G ad fu a1 a2 M L h1) kc_0 (by decide) tf_20 wd_1811 cwX0_tellError ⟨Nat.le_of_ble_eq_true rfl, Nat.le_of_ble_eq_true rfl⟩ rfl hl.1 (Nat.le_of_ble_eq_true rfl) dX11_error_99 rfl rfl ⟨Nat.zero_le _, Nat.zero_le _⟩ rfl (fun H locs hw => ?_)
          exact hb102 r10 M8 L9 _ _ ls hD hw (lv_sub hl [] rfl)
        · replace hD := g_neg c7 hD
          refine lv_aload_n C.1.1 C.1.2.1 dX11_error_77 rfl (lv_at hl 0 rfl) ?_
          refine mr_getR C hw kc_11 1 (by decide) tf_0 ff_0_1 wd_641 dX11_error_78 (by decide) rfl ?_
          refine mr_getNR C hw kc_1 2 (by decide) tf_3 ff_3_2 nd_518 dX11_error_81 (by decide) rfl ?_
          refine mr_getNI C hw kc_0 10 (by decide) tf_20 nd_186 dX11_error_84 (by decide) rfl ?_
          refine lv_goto (tgt := 102) C.1.1 C.1.2.1 dX11_error_87 (by decide) ?_
          exact hb102 (M 20 10) M L _ _ ls hD hw (lv_sub hl [] rfl)
      · replace hD := g_neg c6 hD
        exact hb63 M L _ _ ls hD hw (lv_sub hl [] rfl)
  have hb14 : ∀ (s0 : Int32) (M : mwM) (L : mwL) (H : Heap) (locs : List Loc) (ls : Array Slot), fX11_error_b14 fu a1 a2 s0 M L = some (z0, M0, L0) → mw_W G ad NF TF FF M L H locs → lv_has ls 4 [(0, .ref (ad 0)), (1, .int a1), (2, .int a2)] → W p l e ({ frames := 8, cells := 1, slots := 6, locals := 141 }) s m [.ref (ad 0), .int a1, .int a2].toArray below meth c H locs 0 0 (vx_MQ below (mw_Qi G ad NF TF FF (mx_eqI z0 M0 L0)) (mx_XC G ad NF TF FF z0.1 M0 L0) [.ref (ad 0), .int a1, .int a2].toArray s 1 6 (mw_fr G)) (F0 m 14 ls [.int s0]) := by
    intro s0 M L H locs ls hD hw hl
    unfold fX11_error_b14 at hD
    refine lv_istore_n (lv' := [(3, .int s0), (0, .ref (ad 0)), (1, .int a1), (2, .int a2)]) C.1.1 C.1.2.1 dX11_error_14 rfl hl (by decide) rfl (fun ls hl => ?_)
    refine lv_aload_n C.1.1 C.1.2.1 dX11_error_15 rfl (lv_at hl 1 rfl) ?_
    refine mr_getI C hw kc_11 5 (by decide) tf_0 wd_645 dX11_error_16 (by decide) rfl ?_
    refine lv_if_eq (tgt := 44) C.1.1 C.1.2.1 dX11_error_19 (by decide) (fun c1 => ?_) (fun c1 => ?_)
    · replace hD := g_pos c1 hD
      exact hb44 M L _ _ ls hD hw (lv_sub hl [] rfl)
    · replace hD := g_neg c1 hD
      refine lv_iload_n C.1.1 C.1.2.1 dX11_error_22 rfl (lv_at hl 0 rfl) ?_
      refine lv_if_ne (tgt := 54) C.1.1 C.1.2.1 dX11_error_23 (by decide) (fun c2 => ?_) (fun c2 => ?_)
      · replace hD := g_neg c2 hD
        exact hb54 s0 M L _ _ ls hD hw (lv_sub hl [1, 2, 3, 0] rfl)
      · replace hD := g_pos c2 hD
        refine lv_iload_n C.1.1 C.1.2.1 dX11_error_26 rfl (lv_at hl 2 rfl) ?_
        refine lv_if_lt (tgt := 44) C.1.1 C.1.2.1 dX11_error_27 (by decide) (fun c3 => ?_) (fun c3 => ?_)
        · replace hD := g_pos c3 hD
          exact hb44 M L _ _ ls hD hw (lv_sub hl [] rfl)
        · replace hD := g_neg c3 hD
          refine lv_iload_n C.1.1 C.1.2.1 dX11_error_30 rfl (lv_at hl 2 rfl) ?_
          refine lv_aload_n C.1.1 C.1.2.1 dX11_error_31 rfl (lv_at hl 1 rfl) ?_
          refine mr_getR C hw kc_11 1 (by decide) tf_0 ff_0_1 wd_641 dX11_error_32 (by decide) rfl ?_
          refine mr_getNR C hw kc_1 2 (by decide) tf_3 ff_3_2 nd_518 dX11_error_35 (by decide) rfl ?_
          refine mr_getNI C hw kc_0 10 (by decide) tf_20 nd_186 dX11_error_38 (by decide) rfl ?_
          refine lv_icmp_lt (tgt := 54) C.1.1 C.1.2.1 dX11_error_41 (by decide) (fun c4 => ?_) (fun c4 => ?_)
          · replace hD := g_pos c4 hD
            exact hb54 s0 M L _ _ ls hD hw (lv_sub hl [1, 2, 3, 0] rfl)
          · replace hD := g_neg c4 hD
            exact hb44 M L _ _ ls hD hw (lv_sub hl [] rfl)
  have hb13 : ∀ (M : mwM) (L : mwL) (H : Heap) (locs : List Loc) (ls : Array Slot), fX11_error_b13 fu a1 a2 M L = some (z0, M0, L0) → mw_W G ad NF TF FF M L H locs → lv_has ls 4 [(0, .ref (ad 0)), (1, .int a1), (2, .int a2)] → W p l e ({ frames := 8, cells := 1, slots := 6, locals := 141 }) s m [.ref (ad 0), .int a1, .int a2].toArray below meth c H locs 0 0 (vx_MQ below (mw_Qi G ad NF TF FF (mx_eqI z0 M0 L0)) (mx_XC G ad NF TF FF z0.1 M0 L0) [.ref (ad 0), .int a1, .int a2].toArray s 1 6 (mw_fr G)) (F0 m 13 ls []) := by
    intro M L H locs ls hD hw hl
    unfold fX11_error_b13 at hD
    refine lv_iconst (v := 0) C.1.1 C.1.2.1 dX11_error_13 (by decide) ?_
    exact hb14 0 M L _ _ ls hD hw (lv_sub hl [0, 1, 2] rfl)
  unfold DX11_error at hD
  refine lv_iload_n C.1.1 C.1.2.1 dX11_error_0 rfl (lv_at hl 1 rfl) ?_
  refine lv_iconst (v := (-1)) C.1.1 C.1.2.1 dX11_error_1 (by decide) ?_
  refine lv_icmp_ne (tgt := 13) C.1.1 C.1.2.1 dX11_error_2 (by decide) (fun c11 => ?_) (fun c11 => ?_)
  · replace hD := g_neg c11 hD
    exact hb13 M L _ _ ls hD hw (lv_sub hl [0, 1, 2] rfl)
  · replace hD := g_pos c11 hD
    refine lv_iload_n C.1.1 C.1.2.1 dX11_error_5 rfl (lv_at hl 2 rfl) ?_
    refine lv_if_ne (tgt := 13) C.1.1 C.1.2.1 dX11_error_6 (by decide) (fun c12 => ?_) (fun c12 => ?_)
    · replace hD := g_neg c12 hD
      exact hb13 M L _ _ ls hD hw (lv_sub hl [0, 1, 2] rfl)
    · replace hD := g_pos c12 hD
      refine lv_iconst (v := 1) C.1.1 C.1.2.1 dX11_error_9 (by decide) ?_
      refine lv_goto (tgt := 14) C.1.1 C.1.2.1 dX11_error_10 (by decide) ?_
      exact hb14 1 M L _ _ ls hD hw (lv_sub hl [0, 1, 2] rfl)

theorem dX11_flip_0 : decode cX11_flip 0 = .ok (.aload_n 0, 1) := by decide +kernel
theorem dX11_flip_1 : decode cX11_flip 1 = .ok (.getfield 65, 3) := by decide +kernel
theorem dX11_flip_4 : decode cX11_flip 4 = .ok (.ifCond .eq 18, 3) := by decide +kernel
theorem dX11_flip_7 : decode cX11_flip 7 = .ok (.iload_n 1, 1) := by decide +kernel
theorem dX11_flip_8 : decode cX11_flip 8 = .ok (.ifCond .lt 14, 3) := by decide +kernel
theorem dX11_flip_11 : decode cX11_flip 11 = .ok (.iload_n 1, 1) := by decide +kernel
theorem dX11_flip_12 : decode cX11_flip 12 = .ok (.aload_n 0, 1) := by decide +kernel
theorem dX11_flip_13 : decode cX11_flip 13 = .ok (.getfield 20, 3) := by decide +kernel
theorem dX11_flip_16 : decode cX11_flip 16 = .ok (.getfield 79, 3) := by decide +kernel
theorem dX11_flip_19 : decode cX11_flip 19 = .ok (.if_icmp .le 13, 3) := by decide +kernel
theorem dX11_flip_22 : decode cX11_flip 22 = .ok (.new 117, 3) := by decide +kernel
theorem dX11_flip_25 : decode cX11_flip 25 = .ok (.dup, 1) := by decide +kernel
theorem dX11_flip_26 : decode cX11_flip 26 = .ok (.ldc 161, 2) := by decide +kernel
theorem dX11_flip_28 : decode cX11_flip 28 = .ok (.invokespecial 121, 3) := by decide +kernel
theorem dX11_flip_31 : decode cX11_flip 31 = .ok (.athrow, 1) := by decide +kernel
theorem dX11_flip_32 : decode cX11_flip 32 = .ok (.iload_n 2, 1) := by decide +kernel
theorem dX11_flip_33 : decode cX11_flip 33 = .ok (.aload_n 0, 1) := by decide +kernel
theorem dX11_flip_34 : decode cX11_flip 34 = .ok (.getfield 20, 3) := by decide +kernel
theorem dX11_flip_37 : decode cX11_flip 37 = .ok (.getfield 138, 3) := by decide +kernel
theorem dX11_flip_40 : decode cX11_flip 40 = .ok (.if_icmp .lt 10, 3) := by decide +kernel
theorem dX11_flip_43 : decode cX11_flip 43 = .ok (.iload_n 2, 1) := by decide +kernel
theorem dX11_flip_44 : decode cX11_flip 44 = .ok (.sipush 20000, 3) := by decide +kernel
theorem dX11_flip_47 : decode cX11_flip 47 = .ok (.if_icmp .lt 13, 3) := by decide +kernel
theorem dX11_flip_50 : decode cX11_flip 50 = .ok (.new 44, 3) := by decide +kernel
theorem dX11_flip_53 : decode cX11_flip 53 = .ok (.dup, 1) := by decide +kernel
theorem dX11_flip_54 : decode cX11_flip 54 = .ok (.ldc 179, 2) := by decide +kernel
theorem dX11_flip_56 : decode cX11_flip 56 = .ok (.invokespecial 48, 3) := by decide +kernel
theorem dX11_flip_59 : decode cX11_flip 59 = .ok (.athrow, 1) := by decide +kernel
theorem dX11_flip_60 : decode cX11_flip 60 = .ok (.aload_n 0, 1) := by decide +kernel
theorem dX11_flip_61 : decode cX11_flip 61 = .ok (.getfield 20, 3) := by decide +kernel
theorem dX11_flip_64 : decode cX11_flip 64 = .ok (.getfield 143, 3) := by decide +kernel
theorem dX11_flip_67 : decode cX11_flip 67 = .ok (.getfield 181, 3) := by decide +kernel
theorem dX11_flip_70 : decode cX11_flip 70 = .ok (.iload_n 2, 1) := by decide +kernel
theorem dX11_flip_71 : decode cX11_flip 71 = .ok (.dup2, 1) := by decide +kernel
theorem dX11_flip_72 : decode cX11_flip 72 = .ok (.baload, 1) := by decide +kernel
theorem dX11_flip_73 : decode cX11_flip 73 = .ok (.iconst 1, 1) := by decide +kernel
theorem dX11_flip_74 : decode cX11_flip 74 = .ok (.iload_n 1, 1) := by decide +kernel
theorem dX11_flip_75 : decode cX11_flip 75 = .ok (.ishl, 1) := by decide +kernel
theorem dX11_flip_76 : decode cX11_flip 76 = .ok (.ior, 1) := by decide +kernel
theorem dX11_flip_77 : decode cX11_flip 77 = .ok (.i2b, 1) := by decide +kernel
theorem dX11_flip_78 : decode cX11_flip 78 = .ok (.bastore, 1) := by decide +kernel
theorem dX11_flip_79 : decode cX11_flip 79 = .ok (.return_, 1) := by decide +kernel
theorem cwX11_flip : mw_cwV yX11_flip cX11_flip 3 (none) 2 := ⟨⟨wd_1, wd_1821, by decide +kernel⟩, wd_1819, wd_1820⟩
set_option maxHeartbeats 4000000 in
set_option maxRecDepth 100000 in
theorem tX11_flip (l : Launch) (G : mwG) (ad : Nat → Nat) (fu : Nat) (a1 : Int32) (a2 : Int32) (M : mwM) (L : mwL) {z0 : Nat} {M0 : mwM} {L0 : mwL} (hst : l.stackTraces = false) (hD : DX11_flip fu a1 a2 M L = some (z0, M0, L0)) : vx_Met l yX11_flip (Cond.code yX11_flip cX11_flip 3 (none) :: GT) ({ frames := 8, cells := 1, slots := 6, locals := 141 }) (mx_Pre G ad NF TF FF M L [.ref (ad 0), .int a1, .int a2]) (mw_Qv G ad NF TF FF (mx_eqV z0 M0 L0)) (mx_XC G ad NF TF FF z0 M0 L0) 1 6 (mw_fr G) := by
  refine mx_enter (by decide) (Nat.le_of_ble_eq_true rfl) ?_
  intro p e s m below meth c ls C KX hr hlocks hex hw hl
  have hw0 := hw
  have hl : lv_has ls 3 [(0, .ref (ad 0)), (1, .int a1), (2, .int a2)] := hl
  have hb22 : ∀ (M : mwM) (L : mwL) (H : Heap) (locs : List Loc) (ls : Array Slot), fX11_flip_b22 fu a1 a2 M L = some (z0, M0, L0) → mw_W G ad NF TF FF M L H locs → lv_has ls 3 [] → W p l e ({ frames := 8, cells := 1, slots := 6, locals := 141 }) s m [.ref (ad 0), .int a1, .int a2].toArray below meth c H locs 0 0 (vx_MQ below (mw_Qv G ad NF TF FF (mx_eqV z0 M0 L0)) (mx_XC G ad NF TF FF z0 M0 L0) [.ref (ad 0), .int a1, .int a2].toArray s 1 6 (mw_fr G)) (F0 m 22 ls []) := by
    intro M L H locs ls hD hw hl
    unfold fX11_flip_b22 at hD
    exact mx_throwS (k := 3) (ik := 117) (is := 161) (ic := 121) hst C KX hw0 hw hex hlocks (by decide) wd_1253 wd_31 (List.mem_of_getElem? (i := 11) rfl) mx_at_3_121 hl.1 dX11_flip_22 dX11_flip_25 dX11_flip_26 dX11_flip_28 dX11_flip_31 (Nat.le_of_ble_eq_true rfl) (Nat.le_of_ble_eq_true rfl) (Nat.le_of_ble_eq_true rfl) (Nat.le_of_ble_eq_true rfl) (mx_zV hD (by decide)) (Nat.le_of_ble_eq_true rfl) (Nat.le_of_ble_eq_true rfl)
  have hb50 : ∀ (M : mwM) (L : mwL) (H : Heap) (locs : List Loc) (ls : Array Slot), fX11_flip_b50 fu a1 a2 M L = some (z0, M0, L0) → mw_W G ad NF TF FF M L H locs → lv_has ls 3 [] → W p l e ({ frames := 8, cells := 1, slots := 6, locals := 141 }) s m [.ref (ad 0), .int a1, .int a2].toArray below meth c H locs 0 0 (vx_MQ below (mw_Qv G ad NF TF FF (mx_eqV z0 M0 L0)) (mx_XC G ad NF TF FF z0 M0 L0) [.ref (ad 0), .int a1, .int a2].toArray s 1 6 (mw_fr G)) (F0 m 50 ls []) := by
    intro M L H locs ls hD hw hl
    unfold fX11_flip_b50 at hD
    exact mx_throwS (k := 2) (ik := 44) (is := 179) (ic := 48) hst C KX hw0 hw hex hlocks (by decide) wd_773 wd_25 (List.mem_of_getElem? (i := 15) rfl) mx_at_2_48 hl.1 dX11_flip_50 dX11_flip_53 dX11_flip_54 dX11_flip_56 dX11_flip_59 (Nat.le_of_ble_eq_true rfl) (Nat.le_of_ble_eq_true rfl) (Nat.le_of_ble_eq_true rfl) (Nat.le_of_ble_eq_true rfl) (mx_zV hD (by decide)) (Nat.le_of_ble_eq_true rfl) (Nat.le_of_ble_eq_true rfl)
  unfold DX11_flip at hD
  refine lv_aload_n C.1.1 C.1.2.1 dX11_flip_0 rfl (lv_at hl 0 rfl) ?_
  refine mr_getI C hw kc_11 5 (by decide) tf_0 wd_645 dX11_flip_1 (by decide) rfl ?_
  refine lv_if_eq (tgt := 22) C.1.1 C.1.2.1 dX11_flip_4 (by decide) (fun c1 => ?_) (fun c1 => ?_)
  · replace hD := g_pos c1 hD
    exact hb22 M L _ _ ls hD hw (lv_sub hl [] rfl)
  · replace hD := g_neg c1 hD
    refine lv_iload_n C.1.1 C.1.2.1 dX11_flip_7 rfl (lv_at hl 1 rfl) ?_
    refine lv_if_lt (tgt := 22) C.1.1 C.1.2.1 dX11_flip_8 (by decide) (fun c2 => ?_) (fun c2 => ?_)
    · replace hD := g_pos c2 hD
      exact hb22 M L _ _ ls hD hw (lv_sub hl [] rfl)
    · replace hD := g_neg c2 hD
      refine lv_iload_n C.1.1 C.1.2.1 dX11_flip_11 rfl (lv_at hl 1 rfl) ?_
      refine lv_aload_n C.1.1 C.1.2.1 dX11_flip_12 rfl (lv_at hl 0 rfl) ?_
      refine mr_getR C hw kc_11 1 (by decide) tf_0 ff_0_1 wd_641 dX11_flip_13 (by decide) rfl ?_
      refine mr_getNI C hw kc_1 13 (by decide) tf_3 nd_541 dX11_flip_16 (by decide) rfl ?_
      refine lv_icmp_le (tgt := 32) C.1.1 C.1.2.1 dX11_flip_19 (by decide) (fun c3 => ?_) (fun c3 => ?_)
      · replace hD := g_pos c3 hD
        refine lv_iload_n C.1.1 C.1.2.1 dX11_flip_32 rfl (lv_at hl 2 rfl) ?_
        refine lv_aload_n C.1.1 C.1.2.1 dX11_flip_33 rfl (lv_at hl 0 rfl) ?_
        refine mr_getR C hw kc_11 1 (by decide) tf_0 ff_0_1 wd_641 dX11_flip_34 (by decide) rfl ?_
        refine mr_getNI C hw kc_1 16 (by decide) tf_3 nd_548 dX11_flip_37 (by decide) rfl ?_
        refine lv_icmp_lt (tgt := 50) C.1.1 C.1.2.1 dX11_flip_40 (by decide) (fun c4 => ?_) (fun c4 => ?_)
        · replace hD := g_pos c4 hD
          exact hb50 M L _ _ ls hD hw (lv_sub hl [] rfl)
        · replace hD := g_neg c4 hD
          refine lv_iload_n C.1.1 C.1.2.1 dX11_flip_43 rfl (lv_at hl 2 rfl) ?_
          refine lv_sipush (v := 20000) C.1.1 C.1.2.1 dX11_flip_44 (by decide) ?_
          refine lv_icmp_lt (tgt := 60) C.1.1 C.1.2.1 dX11_flip_47 (by decide) (fun c5 => ?_) (fun c5 => ?_)
          · replace hD := g_pos c5 hD
            refine lv_aload_n C.1.1 C.1.2.1 dX11_flip_60 rfl (lv_at hl 0 rfl) ?_
            refine mr_getR C hw kc_11 1 (by decide) tf_0 ff_0_1 wd_641 dX11_flip_61 (by decide) rfl ?_
            refine mr_getNR C hw kc_1 2 (by decide) tf_3 ff_3_2 nd_518 dX11_flip_64 (by decide) rfl ?_
            refine mr_getNR C hw kc_0 1 (by decide) tf_20 ff_20_1 nd_174 dX11_flip_67 (by decide) rfl ?_
            refine lv_iload_n C.1.1 C.1.2.1 dX11_flip_70 rfl (lv_at hl 2 rfl) ?_
            refine lv_dup2_11 C.1.1 C.1.2.1 dX11_flip_71 rfl rfl ?_
            obtain ⟨q6, hD⟩ := g_ck hD
            refine mr_bald C hw (by decide) tf_22 q6 dX11_flip_72 ?_
            refine lv_iconst (v := 1) C.1.1 C.1.2.1 dX11_flip_73 (by decide) ?_
            refine lv_iload_n C.1.1 C.1.2.1 dX11_flip_74 rfl (lv_at hl 1 rfl) ?_
            refine lv_ishl C.1.1 C.1.2.1 dX11_flip_75 ?_
            refine lv_ior C.1.1 C.1.2.1 dX11_flip_76 ?_
            refine lv_i2b C.1.1 C.1.2.1 dX11_flip_77 rfl ?_
            obtain ⟨q7, hD⟩ := g_ck hD
            obtain ⟨M8, eM8, hD⟩ := g_let hD
            refine mr_bast C hw (by decide) tf_22 q7 dX11_flip_78 (fun H locs hw => ?_)
            replace hw : mw_W G ad NF TF FF M8 L H locs := by rw [eM8]; exact hw
            refine W.widen (k := 1) (n := 6) (Nat.le_of_ble_eq_true rfl) (Nat.le_of_ble_eq_true rfl) ?_
            exact vx_ret (mr_vret C hr hlocks hw (Option.some.inj hD) dX11_flip_79)
          · replace hD := g_neg c5 hD
            exact hb50 M L _ _ ls hD hw (lv_sub hl [] rfl)
      · replace hD := g_neg c3 hD
        exact hb22 M L _ _ ls hD hw (lv_sub hl [] rfl)

theorem dX11_silence_0 : decode cX11_silence 0 = .ok (.aload_n 0, 1) := by decide +kernel
theorem dX11_silence_1 : decode cX11_silence 1 = .ok (.getfield 65, 3) := by decide +kernel
theorem dX11_silence_4 : decode cX11_silence 4 = .ok (.ifCond .eq 18, 3) := by decide +kernel
theorem dX11_silence_7 : decode cX11_silence 7 = .ok (.iload_n 1, 1) := by decide +kernel
theorem dX11_silence_8 : decode cX11_silence 8 = .ok (.ifCond .lt 14, 3) := by decide +kernel
theorem dX11_silence_11 : decode cX11_silence 11 = .ok (.iload_n 1, 1) := by decide +kernel
theorem dX11_silence_12 : decode cX11_silence 12 = .ok (.aload_n 0, 1) := by decide +kernel
theorem dX11_silence_13 : decode cX11_silence 13 = .ok (.getfield 20, 3) := by decide +kernel
theorem dX11_silence_16 : decode cX11_silence 16 = .ok (.getfield 79, 3) := by decide +kernel
theorem dX11_silence_19 : decode cX11_silence 19 = .ok (.if_icmp .lt 13, 3) := by decide +kernel
theorem dX11_silence_22 : decode cX11_silence 22 = .ok (.new 117, 3) := by decide +kernel
theorem dX11_silence_25 : decode cX11_silence 25 = .ok (.dup, 1) := by decide +kernel
theorem dX11_silence_26 : decode cX11_silence 26 = .ok (.ldc 184, 2) := by decide +kernel
theorem dX11_silence_28 : decode cX11_silence 28 = .ok (.invokespecial 121, 3) := by decide +kernel
theorem dX11_silence_31 : decode cX11_silence 31 = .ok (.athrow, 1) := by decide +kernel
theorem dX11_silence_32 : decode cX11_silence 32 = .ok (.aload_n 0, 1) := by decide +kernel
theorem dX11_silence_33 : decode cX11_silence 33 = .ok (.getfield 20, 3) := by decide +kernel
theorem dX11_silence_36 : decode cX11_silence 36 = .ok (.getfield 186, 3) := by decide +kernel
theorem dX11_silence_39 : decode cX11_silence 39 = .ok (.iload_n 1, 1) := by decide +kernel
theorem dX11_silence_40 : decode cX11_silence 40 = .ok (.iload_n 2, 1) := by decide +kernel
theorem dX11_silence_41 : decode cX11_silence 41 = .ok (.bastore, 1) := by decide +kernel
theorem dX11_silence_42 : decode cX11_silence 42 = .ok (.iconst 0, 1) := by decide +kernel
theorem dX11_silence_43 : decode cX11_silence 43 = .ok (.istore_n 3, 1) := by decide +kernel
theorem dX11_silence_44 : decode cX11_silence 44 = .ok (.iconst 0, 1) := by decide +kernel
theorem dX11_silence_45 : decode cX11_silence 45 = .ok (.istore 4, 2) := by decide +kernel
theorem dX11_silence_47 : decode cX11_silence 47 = .ok (.iload 4, 2) := by decide +kernel
theorem dX11_silence_49 : decode cX11_silence 49 = .ok (.aload_n 0, 1) := by decide +kernel
theorem dX11_silence_50 : decode cX11_silence 50 = .ok (.getfield 20, 3) := by decide +kernel
theorem dX11_silence_53 : decode cX11_silence 53 = .ok (.getfield 79, 3) := by decide +kernel
theorem dX11_silence_56 : decode cX11_silence 56 = .ok (.if_icmp .ge 30, 3) := by decide +kernel
theorem dX11_silence_59 : decode cX11_silence 59 = .ok (.iload_n 3, 1) := by decide +kernel
theorem dX11_silence_60 : decode cX11_silence 60 = .ok (.aload_n 0, 1) := by decide +kernel
theorem dX11_silence_61 : decode cX11_silence 61 = .ok (.getfield 20, 3) := by decide +kernel
theorem dX11_silence_64 : decode cX11_silence 64 = .ok (.getfield 186, 3) := by decide +kernel
theorem dX11_silence_67 : decode cX11_silence 67 = .ok (.iload 4, 2) := by decide +kernel
theorem dX11_silence_69 : decode cX11_silence 69 = .ok (.baload, 1) := by decide +kernel
theorem dX11_silence_70 : decode cX11_silence 70 = .ok (.ifCond .eq 7, 3) := by decide +kernel
theorem dX11_silence_73 : decode cX11_silence 73 = .ok (.iconst 1, 1) := by decide +kernel
theorem dX11_silence_74 : decode cX11_silence 74 = .ok (.goto 4, 3) := by decide +kernel
theorem dX11_silence_77 : decode cX11_silence 77 = .ok (.iconst 0, 1) := by decide +kernel
theorem dX11_silence_78 : decode cX11_silence 78 = .ok (.iadd, 1) := by decide +kernel
theorem dX11_silence_79 : decode cX11_silence 79 = .ok (.istore_n 3, 1) := by decide +kernel
theorem dX11_silence_80 : decode cX11_silence 80 = .ok (.iinc 4 1, 3) := by decide +kernel
theorem dX11_silence_83 : decode cX11_silence 83 = .ok (.goto (-36), 3) := by decide +kernel
theorem dX11_silence_86 : decode cX11_silence 86 = .ok (.iload_n 3, 1) := by decide +kernel
theorem dX11_silence_87 : decode cX11_silence 87 = .ok (.ireturn, 1) := by decide +kernel
theorem cwX11_silence : mw_cwV yX11_silence cX11_silence 5 ((some .int)) 2 := ⟨⟨wd_1, wd_1829, by decide +kernel⟩, wd_1827, wd_1828⟩
set_option maxHeartbeats 4000000 in
set_option maxRecDepth 100000 in
theorem tX11_silence (l : Launch) (G : mwG) (ad : Nat → Nat) (fu : Nat) (a1 : Int32) (a2 : Int32) (M : mwM) (L : mwL) {z0 : Nat × Int32} {M0 : mwM} {L0 : mwL} (hst : l.stackTraces = false) (hD : DX11_silence fu a1 a2 M L = some (z0, M0, L0)) : vx_Met l yX11_silence (Cond.code yX11_silence cX11_silence 5 ((some .int)) :: GT) ({ frames := 8, cells := 1, slots := 6, locals := 141 }) (mx_Pre G ad NF TF FF M L [.ref (ad 0), .int a1, .int a2]) (mw_Qi G ad NF TF FF (mx_eqI z0 M0 L0)) (mx_XC G ad NF TF FF z0.1 M0 L0) 1 6 (mw_fr G) := by
  refine mx_enter (by decide) (Nat.le_of_ble_eq_true rfl) ?_
  intro p e s m below meth c ls C KX hr hlocks hex hw hl
  have hw0 := hw
  have hl : lv_has ls 5 [(0, .ref (ad 0)), (1, .int a1), (2, .int a2)] := hl
  have hb22 : ∀ (M : mwM) (L : mwL) (H : Heap) (locs : List Loc) (ls : Array Slot), fX11_silence_b22 fu a1 a2 M L = some (z0, M0, L0) → mw_W G ad NF TF FF M L H locs → lv_has ls 5 [] → W p l e ({ frames := 8, cells := 1, slots := 6, locals := 141 }) s m [.ref (ad 0), .int a1, .int a2].toArray below meth c H locs 0 0 (vx_MQ below (mw_Qi G ad NF TF FF (mx_eqI z0 M0 L0)) (mx_XC G ad NF TF FF z0.1 M0 L0) [.ref (ad 0), .int a1, .int a2].toArray s 1 6 (mw_fr G)) (F0 m 22 ls []) := by
    intro M L H locs ls hD hw hl
    unfold fX11_silence_b22 at hD
    exact mx_throwS (k := 3) (ik := 117) (is := 184) (ic := 121) hst C KX hw0 hw hex hlocks (by decide) wd_1253 wd_31 (List.mem_of_getElem? (i := 16) rfl) mx_at_3_121 hl.1 dX11_silence_22 dX11_silence_25 dX11_silence_26 dX11_silence_28 dX11_silence_31 (Nat.le_of_ble_eq_true rfl) (Nat.le_of_ble_eq_true rfl) (Nat.le_of_ble_eq_true rfl) (Nat.le_of_ble_eq_true rfl) (mx_zI hD (by decide)) (Nat.le_of_ble_eq_true rfl) (Nat.le_of_ble_eq_true rfl)
  have hh47 : ∀ (f : Nat) (v3 : Int32) (v4 : Int32) (M : mwM) (L : mwL) (H : Heap) (locs : List Loc) (ls : Array Slot), fX11_silence_h47 fu a1 a2 f (v3, v4, M, L) = some (z0, M0, L0) → mw_W G ad NF TF FF M L H locs → lv_has ls 5 [(0, .ref (ad 0)), (3, .int v3), (4, .int v4)] → W p l e ({ frames := 8, cells := 1, slots := 6, locals := 141 }) s m [.ref (ad 0), .int a1, .int a2].toArray below meth c H locs 0 0 (vx_MQ below (mw_Qi G ad NF TF FF (mx_eqI z0 M0 L0)) (mx_XC G ad NF TF FF z0.1 M0 L0) [.ref (ad 0), .int a1, .int a2].toArray s 1 6 (mw_fr G)) (F0 m 47 ls []) := by
    intro f
    induction f with
    | zero => intro v3 v4 M L H locs ls hD; cases hD
    | succ f47 ih47 =>
      intro v3 v4 M L H locs ls hD hw hl
      replace hD : fX11_silence_i47 fu a1 a2 (fX11_silence_h47 fu a1 a2 f47) v3 v4 M L = some (z0, M0, L0) := hD
      have hb78 : ∀ (v4 : Int32) (s0 : Int32) (s1 : Int32) (M : mwM) (L : mwL) (H : Heap) (locs : List Loc) (ls : Array Slot), fX11_silence_b78 fu a1 a2 (fX11_silence_h47 fu a1 a2 f47) v4 s0 s1 M L = some (z0, M0, L0) → mw_W G ad NF TF FF M L H locs → lv_has ls 5 [(0, .ref (ad 0)), (4, .int v4)] → W p l e ({ frames := 8, cells := 1, slots := 6, locals := 141 }) s m [.ref (ad 0), .int a1, .int a2].toArray below meth c H locs 0 0 (vx_MQ below (mw_Qi G ad NF TF FF (mx_eqI z0 M0 L0)) (mx_XC G ad NF TF FF z0.1 M0 L0) [.ref (ad 0), .int a1, .int a2].toArray s 1 6 (mw_fr G)) (F0 m 78 ls [.int s1, .int s0]) := by
        intro v4 s0 s1 M L H locs ls hD hw hl
        unfold fX11_silence_b78 at hD
        refine lv_iadd C.1.1 C.1.2.1 dX11_silence_78 ?_
        obtain ⟨x4, ex4, hD⟩ := g_let hD
        refine W.eq (g2 := F0 m 79 ls (.int x4 :: [])) (by rw [ex4]) ?_
        refine lv_istore_n (lv' := [(3, .int x4), (0, .ref (ad 0)), (4, .int v4)]) C.1.1 C.1.2.1 dX11_silence_79 rfl hl (by decide) rfl (fun ls hl => ?_)
        obtain ⟨x5, ex5, hD⟩ := g_let hD
        refine lv_iinc (v := x5) (lv' := [(4, .int x5), (3, .int x4), (0, .ref (ad 0))]) C.1.1 C.1.2.1 dX11_silence_80 hl (k := 2) rfl (by rw [ex5]; rfl) (by decide) rfl (fun ls hl => ?_)
        refine lv_goto (tgt := 47) C.1.1 C.1.2.1 dX11_silence_83 (by decide) ?_
        exact ih47 x4 x5 M L _ _ ls hD hw (lv_sub hl [2, 1, 0] rfl)
      unfold fX11_silence_i47 at hD
      refine lv_iload C.1.1 C.1.2.1 dX11_silence_47 (lv_at hl 2 rfl) ?_
      refine lv_aload_n C.1.1 C.1.2.1 dX11_silence_49 rfl (lv_at hl 0 rfl) ?_
      refine mr_getR C hw kc_11 1 (by decide) tf_0 ff_0_1 wd_641 dX11_silence_50 (by decide) rfl ?_
      refine mr_getNI C hw kc_1 13 (by decide) tf_3 nd_541 dX11_silence_53 (by decide) rfl ?_
      refine lv_icmp_ge (tgt := 86) C.1.1 C.1.2.1 dX11_silence_56 (by decide) (fun c1 => ?_) (fun c1 => ?_)
      · replace hD := g_pos c1 hD
        refine lv_iload_n C.1.1 C.1.2.1 dX11_silence_86 rfl (lv_at hl 1 rfl) ?_
        refine W.widen (k := 1) (n := 6) (Nat.le_of_ble_eq_true rfl) (Nat.le_of_ble_eq_true rfl) ?_
        exact vx_ret (mr_iret C hr hlocks hw rfl (Option.some.inj hD) dX11_silence_87)
      · replace hD := g_neg c1 hD
        refine lv_iload_n C.1.1 C.1.2.1 dX11_silence_59 rfl (lv_at hl 1 rfl) ?_
        refine lv_aload_n C.1.1 C.1.2.1 dX11_silence_60 rfl (lv_at hl 0 rfl) ?_
        refine mr_getR C hw kc_11 1 (by decide) tf_0 ff_0_1 wd_641 dX11_silence_61 (by decide) rfl ?_
        refine mr_getNR C hw kc_1 9 (by decide) tf_3 ff_3_9 nd_534 dX11_silence_64 (by decide) rfl ?_
        refine lv_iload C.1.1 C.1.2.1 dX11_silence_67 (lv_at hl 2 rfl) ?_
        obtain ⟨q2, hD⟩ := g_ck hD
        refine mr_zald C hw (by decide) tf_284 q2 dX11_silence_69 ?_
        refine lv_if_eq (tgt := 77) C.1.1 C.1.2.1 dX11_silence_70 (by decide) (fun c3 => ?_) (fun c3 => ?_)
        · replace hD := g_pos c3 hD
          refine lv_iconst (v := 0) C.1.1 C.1.2.1 dX11_silence_77 (by decide) ?_
          exact hb78 v4 v3 0 M L _ _ ls hD hw (lv_sub hl [0, 2] rfl)
        · replace hD := g_neg c3 hD
          refine lv_iconst (v := 1) C.1.1 C.1.2.1 dX11_silence_73 (by decide) ?_
          refine lv_goto (tgt := 78) C.1.1 C.1.2.1 dX11_silence_74 (by decide) ?_
          exact hb78 v4 v3 1 M L _ _ ls hD hw (lv_sub hl [0, 2] rfl)
  unfold DX11_silence at hD
  refine lv_aload_n C.1.1 C.1.2.1 dX11_silence_0 rfl (lv_at hl 0 rfl) ?_
  refine mr_getI C hw kc_11 5 (by decide) tf_0 wd_645 dX11_silence_1 (by decide) rfl ?_
  refine lv_if_eq (tgt := 22) C.1.1 C.1.2.1 dX11_silence_4 (by decide) (fun c6 => ?_) (fun c6 => ?_)
  · replace hD := g_pos c6 hD
    exact hb22 M L _ _ ls hD hw (lv_sub hl [] rfl)
  · replace hD := g_neg c6 hD
    refine lv_iload_n C.1.1 C.1.2.1 dX11_silence_7 rfl (lv_at hl 1 rfl) ?_
    refine lv_if_lt (tgt := 22) C.1.1 C.1.2.1 dX11_silence_8 (by decide) (fun c7 => ?_) (fun c7 => ?_)
    · replace hD := g_pos c7 hD
      exact hb22 M L _ _ ls hD hw (lv_sub hl [] rfl)
    · replace hD := g_neg c7 hD
      refine lv_iload_n C.1.1 C.1.2.1 dX11_silence_11 rfl (lv_at hl 1 rfl) ?_
      refine lv_aload_n C.1.1 C.1.2.1 dX11_silence_12 rfl (lv_at hl 0 rfl) ?_
      refine mr_getR C hw kc_11 1 (by decide) tf_0 ff_0_1 wd_641 dX11_silence_13 (by decide) rfl ?_
      refine mr_getNI C hw kc_1 13 (by decide) tf_3 nd_541 dX11_silence_16 (by decide) rfl ?_
      refine lv_icmp_lt (tgt := 32) C.1.1 C.1.2.1 dX11_silence_19 (by decide) (fun c8 => ?_) (fun c8 => ?_)
      · replace hD := g_pos c8 hD
        refine lv_aload_n C.1.1 C.1.2.1 dX11_silence_32 rfl (lv_at hl 0 rfl) ?_
        refine mr_getR C hw kc_11 1 (by decide) tf_0 ff_0_1 wd_641 dX11_silence_33 (by decide) rfl ?_
        refine mr_getNR C hw kc_1 9 (by decide) tf_3 ff_3_9 nd_534 dX11_silence_36 (by decide) rfl ?_
        refine lv_iload_n C.1.1 C.1.2.1 dX11_silence_39 rfl (lv_at hl 1 rfl) ?_
        refine lv_iload_n C.1.1 C.1.2.1 dX11_silence_40 rfl (lv_at hl 2 rfl) ?_
        obtain ⟨q9, hD⟩ := g_ck hD
        obtain ⟨M10, eM10, hD⟩ := g_let hD
        refine mr_zast C hw (by decide) tf_284 q9 dX11_silence_41 (fun H locs hw => ?_)
        replace hw : mw_W G ad NF TF FF M10 L H locs := by rw [eM10]; exact hw
        refine lv_iconst (v := 0) C.1.1 C.1.2.1 dX11_silence_42 (by decide) ?_
        refine lv_istore_n (lv' := [(3, .int 0), (0, .ref (ad 0)), (1, .int a1), (2, .int a2)]) C.1.1 C.1.2.1 dX11_silence_43 rfl hl (by decide) rfl (fun ls hl => ?_)
        refine lv_iconst (v := 0) C.1.1 C.1.2.1 dX11_silence_44 (by decide) ?_
        refine lv_istore (lv' := [(4, .int 0), (3, .int 0), (0, .ref (ad 0)), (1, .int a1), (2, .int a2)]) C.1.1 C.1.2.1 dX11_silence_45 hl (by decide) rfl (fun ls hl => ?_)
        exact hh47 fu 0 0 M10 L _ _ ls hD hw (lv_sub hl [2, 1, 0] rfl)
      · replace hD := g_neg c8 hD
        exact hb22 M L _ _ ls hD hw (lv_sub hl [] rfl)

theorem dX11_running_0 : decode cX11_running 0 = .ok (.aload_n 0, 1) := by decide +kernel
theorem dX11_running_1 : decode cX11_running 1 = .ok (.getfield 65, 3) := by decide +kernel
theorem dX11_running_4 : decode cX11_running 4 = .ok (.ifCond .eq 33, 3) := by decide +kernel
theorem dX11_running_7 : decode cX11_running 7 = .ok (.iload_n 1, 1) := by decide +kernel
theorem dX11_running_8 : decode cX11_running 8 = .ok (.ifCond .lt 29, 3) := by decide +kernel
theorem dX11_running_11 : decode cX11_running 11 = .ok (.iload_n 1, 1) := by decide +kernel
theorem dX11_running_12 : decode cX11_running 12 = .ok (.aload_n 0, 1) := by decide +kernel
theorem dX11_running_13 : decode cX11_running 13 = .ok (.getfield 20, 3) := by decide +kernel
theorem dX11_running_16 : decode cX11_running 16 = .ok (.getfield 79, 3) := by decide +kernel
theorem dX11_running_19 : decode cX11_running 19 = .ok (.if_icmp .ge 18, 3) := by decide +kernel
theorem dX11_running_22 : decode cX11_running 22 = .ok (.iload_n 2, 1) := by decide +kernel
theorem dX11_running_23 : decode cX11_running 23 = .ok (.ifCond .lt 14, 3) := by decide +kernel
theorem dX11_running_26 : decode cX11_running 26 = .ok (.iload_n 2, 1) := by decide +kernel
theorem dX11_running_27 : decode cX11_running 27 = .ok (.aload_n 0, 1) := by decide +kernel
theorem dX11_running_28 : decode cX11_running 28 = .ok (.getfield 20, 3) := by decide +kernel
theorem dX11_running_31 : decode cX11_running 31 = .ok (.getfield 138, 3) := by decide +kernel
theorem dX11_running_34 : decode cX11_running 34 = .ok (.if_icmp .lt 13, 3) := by decide +kernel
theorem dX11_running_37 : decode cX11_running 37 = .ok (.new 117, 3) := by decide +kernel
theorem dX11_running_40 : decode cX11_running 40 = .ok (.dup, 1) := by decide +kernel
theorem dX11_running_41 : decode cX11_running 41 = .ok (.ldc 190, 2) := by decide +kernel
theorem dX11_running_43 : decode cX11_running 43 = .ok (.invokespecial 121, 3) := by decide +kernel
theorem dX11_running_46 : decode cX11_running 46 = .ok (.athrow, 1) := by decide +kernel
theorem dX11_running_47 : decode cX11_running 47 = .ok (.aload_n 0, 1) := by decide +kernel
theorem dX11_running_48 : decode cX11_running 48 = .ok (.getfield 20, 3) := by decide +kernel
theorem dX11_running_51 : decode cX11_running 51 = .ok (.getfield 82, 3) := by decide +kernel
theorem dX11_running_54 : decode cX11_running 54 = .ok (.iload_n 1, 1) := by decide +kernel
theorem dX11_running_55 : decode cX11_running 55 = .ok (.iload_n 2, 1) := by decide +kernel
theorem dX11_running_56 : decode cX11_running 56 = .ok (.invokevirtual 192, 3) := by decide +kernel
theorem dX11_running_59 : decode cX11_running 59 = .ok (.ireturn, 1) := by decide +kernel
theorem cwX11_running : mw_cwV yX11_running cX11_running 3 ((some .int)) 2 := ⟨⟨wd_1, wd_1837, by decide +kernel⟩, wd_1835, wd_1836⟩
set_option maxHeartbeats 4000000 in
set_option maxRecDepth 100000 in
theorem tX11_running (l : Launch) (G : mwG) (ad : Nat → Nat) (fu : Nat) (a1 : Int32) (a2 : Int32) (M : mwM) (L : mwL) {z0 : Nat × Int32} {M0 : mwM} {L0 : mwL} (hst : l.stackTraces = false) (hD : DX11_running fu a1 a2 M L = some (z0, M0, L0)) : vx_Met l yX11_running (Cond.code yX11_running cX11_running 3 ((some .int)) :: GT) ({ frames := 8, cells := 1, slots := 6, locals := 141 }) (mx_Pre G ad NF TF FF M L [.ref (ad 0), .int a1, .int a2]) (mw_Qi G ad NF TF FF (mx_eqI z0 M0 L0)) (mx_XC G ad NF TF FF z0.1 M0 L0) 1 6 (mw_fr G) := by
  refine mx_enter (by decide) (Nat.le_of_ble_eq_true rfl) ?_
  intro p e s m below meth c ls C KX hr hlocks hex hw hl
  have hw0 := hw
  have hl : lv_has ls 3 [(0, .ref (ad 0)), (1, .int a1), (2, .int a2)] := hl
  have hb37 : ∀ (M : mwM) (L : mwL) (H : Heap) (locs : List Loc) (ls : Array Slot), fX11_running_b37 fu a1 a2 M L = some (z0, M0, L0) → mw_W G ad NF TF FF M L H locs → lv_has ls 3 [] → W p l e ({ frames := 8, cells := 1, slots := 6, locals := 141 }) s m [.ref (ad 0), .int a1, .int a2].toArray below meth c H locs 0 0 (vx_MQ below (mw_Qi G ad NF TF FF (mx_eqI z0 M0 L0)) (mx_XC G ad NF TF FF z0.1 M0 L0) [.ref (ad 0), .int a1, .int a2].toArray s 1 6 (mw_fr G)) (F0 m 37 ls []) := by
    intro M L H locs ls hD hw hl
    unfold fX11_running_b37 at hD
    exact mx_throwS (k := 3) (ik := 117) (is := 190) (ic := 121) hst C KX hw0 hw hex hlocks (by decide) wd_1253 wd_31 (List.mem_of_getElem? (i := 17) rfl) mx_at_3_121 hl.1 dX11_running_37 dX11_running_40 dX11_running_41 dX11_running_43 dX11_running_46 (Nat.le_of_ble_eq_true rfl) (Nat.le_of_ble_eq_true rfl) (Nat.le_of_ble_eq_true rfl) (Nat.le_of_ble_eq_true rfl) (mx_zI hD (by decide)) (Nat.le_of_ble_eq_true rfl) (Nat.le_of_ble_eq_true rfl)
  unfold DX11_running at hD
  refine lv_aload_n C.1.1 C.1.2.1 dX11_running_0 rfl (lv_at hl 0 rfl) ?_
  refine mr_getI C hw kc_11 5 (by decide) tf_0 wd_645 dX11_running_1 (by decide) rfl ?_
  refine lv_if_eq (tgt := 37) C.1.1 C.1.2.1 dX11_running_4 (by decide) (fun c1 => ?_) (fun c1 => ?_)
  · replace hD := g_pos c1 hD
    exact hb37 M L _ _ ls hD hw (lv_sub hl [] rfl)
  · replace hD := g_neg c1 hD
    refine lv_iload_n C.1.1 C.1.2.1 dX11_running_7 rfl (lv_at hl 1 rfl) ?_
    refine lv_if_lt (tgt := 37) C.1.1 C.1.2.1 dX11_running_8 (by decide) (fun c2 => ?_) (fun c2 => ?_)
    · replace hD := g_pos c2 hD
      exact hb37 M L _ _ ls hD hw (lv_sub hl [] rfl)
    · replace hD := g_neg c2 hD
      refine lv_iload_n C.1.1 C.1.2.1 dX11_running_11 rfl (lv_at hl 1 rfl) ?_
      refine lv_aload_n C.1.1 C.1.2.1 dX11_running_12 rfl (lv_at hl 0 rfl) ?_
      refine mr_getR C hw kc_11 1 (by decide) tf_0 ff_0_1 wd_641 dX11_running_13 (by decide) rfl ?_
      refine mr_getNI C hw kc_1 13 (by decide) tf_3 nd_541 dX11_running_16 (by decide) rfl ?_
      refine lv_icmp_ge (tgt := 37) C.1.1 C.1.2.1 dX11_running_19 (by decide) (fun c3 => ?_) (fun c3 => ?_)
      · replace hD := g_pos c3 hD
        exact hb37 M L _ _ ls hD hw (lv_sub hl [] rfl)
      · replace hD := g_neg c3 hD
        refine lv_iload_n C.1.1 C.1.2.1 dX11_running_22 rfl (lv_at hl 2 rfl) ?_
        refine lv_if_lt (tgt := 37) C.1.1 C.1.2.1 dX11_running_23 (by decide) (fun c4 => ?_) (fun c4 => ?_)
        · replace hD := g_pos c4 hD
          exact hb37 M L _ _ ls hD hw (lv_sub hl [] rfl)
        · replace hD := g_neg c4 hD
          refine lv_iload_n C.1.1 C.1.2.1 dX11_running_26 rfl (lv_at hl 2 rfl) ?_
          refine lv_aload_n C.1.1 C.1.2.1 dX11_running_27 rfl (lv_at hl 0 rfl) ?_
          refine mr_getR C hw kc_11 1 (by decide) tf_0 ff_0_1 wd_641 dX11_running_28 (by decide) rfl ?_
          refine mr_getNI C hw kc_1 16 (by decide) tf_3 nd_548 dX11_running_31 (by decide) rfl ?_
          refine lv_icmp_lt (tgt := 47) C.1.1 C.1.2.1 dX11_running_34 (by decide) (fun c5 => ?_) (fun c5 => ?_)
          · replace hD := g_pos c5 hD
            refine lv_aload_n C.1.1 C.1.2.1 dX11_running_47 rfl (lv_at hl 0 rfl) ?_
            refine mr_getR C hw kc_11 1 (by decide) tf_0 ff_0_1 wd_641 dX11_running_48 (by decide) rfl ?_
            refine mr_getNR C hw kc_1 1 (by decide) tf_3 ff_3_1 nd_515 dX11_running_51 (by decide) rfl ?_
            refine lv_iload_n C.1.1 C.1.2.1 dX11_running_54 rfl (lv_at hl 1 rfl) ?_
            refine lv_iload_n C.1.1 C.1.2.1 dX11_running_55 rfl (lv_at hl 2 rfl) ?_
            obtain ⟨r8, M6, L7, h1, hD⟩ := g_b3 hD
            refine md_cvI (As := [.int a1, .int a2]) (rest := []) C hw (tX4_whoRan l G ad fu a1 a2 M L h1) kc_4 (by decide) tf_5 wd_1839 cwX4_whoRan ⟨Nat.le_of_ble_eq_true rfl, Nat.le_of_ble_eq_true rfl⟩ rfl hl.1 (Nat.le_of_ble_eq_true rfl) dX11_running_56 rfl rfl ⟨Nat.zero_le _, Nat.zero_le _⟩ rfl (fun H locs hw => ?_)
            refine W.widen (k := 1) (n := 6) (Nat.le_of_ble_eq_true rfl) (Nat.le_of_ble_eq_true rfl) ?_
            exact vx_ret (mr_iret C hr hlocks hw rfl (Option.some.inj hD) dX11_running_59)
          · replace hD := g_neg c5 hD
            exact hb37 M L _ _ ls hD hw (lv_sub hl [] rfl)

theorem dX11_task_0 : decode cX11_task 0 = .ok (.aload_n 0, 1) := by decide +kernel
theorem dX11_task_1 : decode cX11_task 1 = .ok (.getfield 65, 3) := by decide +kernel
theorem dX11_task_4 : decode cX11_task 4 = .ok (.ifCond .eq 21, 3) := by decide +kernel
theorem dX11_task_7 : decode cX11_task 7 = .ok (.iload_n 1, 1) := by decide +kernel
theorem dX11_task_8 : decode cX11_task 8 = .ok (.ifCond .lt 17, 3) := by decide +kernel
theorem dX11_task_11 : decode cX11_task 11 = .ok (.iload_n 1, 1) := by decide +kernel
theorem dX11_task_12 : decode cX11_task 12 = .ok (.aload_n 0, 1) := by decide +kernel
theorem dX11_task_13 : decode cX11_task 13 = .ok (.getfield 20, 3) := by decide +kernel
theorem dX11_task_16 : decode cX11_task 16 = .ok (.getfield 82, 3) := by decide +kernel
theorem dX11_task_19 : decode cX11_task 19 = .ok (.getfield 86, 3) := by decide +kernel
theorem dX11_task_22 : decode cX11_task 22 = .ok (.if_icmp .lt 13, 3) := by decide +kernel
theorem dX11_task_25 : decode cX11_task 25 = .ok (.new 117, 3) := by decide +kernel
theorem dX11_task_28 : decode cX11_task 28 = .ok (.dup, 1) := by decide +kernel
theorem dX11_task_29 : decode cX11_task 29 = .ok (.ldc 195, 2) := by decide +kernel
theorem dX11_task_31 : decode cX11_task 31 = .ok (.invokespecial 121, 3) := by decide +kernel
theorem dX11_task_34 : decode cX11_task 34 = .ok (.athrow, 1) := by decide +kernel
theorem dX11_task_35 : decode cX11_task 35 = .ok (.iload_n 2, 1) := by decide +kernel
theorem dX11_task_36 : decode cX11_task 36 = .ok (.ifCond .lt 8, 3) := by decide +kernel
theorem dX11_task_39 : decode cX11_task 39 = .ok (.iload_n 2, 1) := by decide +kernel
theorem dX11_task_40 : decode cX11_task 40 = .ok (.iconst 2, 1) := by decide +kernel
theorem dX11_task_41 : decode cX11_task 41 = .ok (.if_icmp .le 13, 3) := by decide +kernel
theorem dX11_task_44 : decode cX11_task 44 = .ok (.new 44, 3) := by decide +kernel
theorem dX11_task_47 : decode cX11_task 47 = .ok (.dup, 1) := by decide +kernel
theorem dX11_task_48 : decode cX11_task 48 = .ok (.ldc 197, 2) := by decide +kernel
theorem dX11_task_50 : decode cX11_task 50 = .ok (.invokespecial 48, 3) := by decide +kernel
theorem dX11_task_53 : decode cX11_task 53 = .ok (.athrow, 1) := by decide +kernel
theorem dX11_task_54 : decode cX11_task 54 = .ok (.iload_n 2, 1) := by decide +kernel
theorem dX11_task_55 : decode cX11_task 55 = .ok (.ifCond .ne 7, 3) := by decide +kernel
theorem dX11_task_58 : decode cX11_task 58 = .ok (.iconst 5, 1) := by decide +kernel
theorem dX11_task_59 : decode cX11_task 59 = .ok (.goto 15, 3) := by decide +kernel
theorem dX11_task_62 : decode cX11_task 62 = .ok (.iload_n 2, 1) := by decide +kernel
theorem dX11_task_63 : decode cX11_task 63 = .ok (.iconst 1, 1) := by decide +kernel
theorem dX11_task_64 : decode cX11_task 64 = .ok (.if_icmp .ne 8, 3) := by decide +kernel
theorem dX11_task_67 : decode cX11_task 67 = .ok (.bipush 9, 2) := by decide +kernel
theorem dX11_task_69 : decode cX11_task 69 = .ok (.goto 5, 3) := by decide +kernel
theorem dX11_task_72 : decode cX11_task 72 = .ok (.bipush 10, 2) := by decide +kernel
theorem dX11_task_74 : decode cX11_task 74 = .ok (.istore_n 3, 1) := by decide +kernel
theorem dX11_task_75 : decode cX11_task 75 = .ok (.aload_n 0, 1) := by decide +kernel
theorem dX11_task_76 : decode cX11_task 76 = .ok (.getfield 20, 3) := by decide +kernel
theorem dX11_task_79 : decode cX11_task 79 = .ok (.getfield 82, 3) := by decide +kernel
theorem dX11_task_82 : decode cX11_task 82 = .ok (.getfield 199, 3) := by decide +kernel
theorem dX11_task_85 : decode cX11_task 85 = .ok (.iload_n 3, 1) := by decide +kernel
theorem dX11_task_86 : decode cX11_task 86 = .ok (.aaload, 1) := by decide +kernel
theorem dX11_task_87 : decode cX11_task 87 = .ok (.iload_n 1, 1) := by decide +kernel
theorem dX11_task_88 : decode cX11_task 88 = .ok (.iaload, 1) := by decide +kernel
theorem dX11_task_89 : decode cX11_task 89 = .ok (.ireturn, 1) := by decide +kernel
theorem cwX11_task : mw_cwV yX11_task cX11_task 4 ((some .int)) 2 := ⟨⟨wd_1, wd_1849, by decide +kernel⟩, wd_1847, wd_1848⟩
set_option maxHeartbeats 4000000 in
set_option maxRecDepth 100000 in
theorem tX11_task (l : Launch) (G : mwG) (ad : Nat → Nat) (fu : Nat) (a1 : Int32) (a2 : Int32) (M : mwM) (L : mwL) {z0 : Nat × Int32} {M0 : mwM} {L0 : mwL} (hst : l.stackTraces = false) (hD : DX11_task fu a1 a2 M L = some (z0, M0, L0)) : vx_Met l yX11_task (Cond.code yX11_task cX11_task 4 ((some .int)) :: GT) ({ frames := 8, cells := 1, slots := 6, locals := 141 }) (mx_Pre G ad NF TF FF M L [.ref (ad 0), .int a1, .int a2]) (mw_Qi G ad NF TF FF (mx_eqI z0 M0 L0)) (mx_XC G ad NF TF FF z0.1 M0 L0) 1 6 (mw_fr G) := by
  refine mx_enter (by decide) (Nat.le_of_ble_eq_true rfl) ?_
  intro p e s m below meth c ls C KX hr hlocks hex hw hl
  have hw0 := hw
  have hl : lv_has ls 4 [(0, .ref (ad 0)), (1, .int a1), (2, .int a2)] := hl
  have hb25 : ∀ (M : mwM) (L : mwL) (H : Heap) (locs : List Loc) (ls : Array Slot), fX11_task_b25 fu a1 a2 M L = some (z0, M0, L0) → mw_W G ad NF TF FF M L H locs → lv_has ls 4 [] → W p l e ({ frames := 8, cells := 1, slots := 6, locals := 141 }) s m [.ref (ad 0), .int a1, .int a2].toArray below meth c H locs 0 0 (vx_MQ below (mw_Qi G ad NF TF FF (mx_eqI z0 M0 L0)) (mx_XC G ad NF TF FF z0.1 M0 L0) [.ref (ad 0), .int a1, .int a2].toArray s 1 6 (mw_fr G)) (F0 m 25 ls []) := by
    intro M L H locs ls hD hw hl
    unfold fX11_task_b25 at hD
    exact mx_throwS (k := 3) (ik := 117) (is := 195) (ic := 121) hst C KX hw0 hw hex hlocks (by decide) wd_1253 wd_31 (List.mem_of_getElem? (i := 18) rfl) mx_at_3_121 hl.1 dX11_task_25 dX11_task_28 dX11_task_29 dX11_task_31 dX11_task_34 (Nat.le_of_ble_eq_true rfl) (Nat.le_of_ble_eq_true rfl) (Nat.le_of_ble_eq_true rfl) (Nat.le_of_ble_eq_true rfl) (mx_zI hD (by decide)) (Nat.le_of_ble_eq_true rfl) (Nat.le_of_ble_eq_true rfl)
  have hb44 : ∀ (M : mwM) (L : mwL) (H : Heap) (locs : List Loc) (ls : Array Slot), fX11_task_b44 fu a1 a2 M L = some (z0, M0, L0) → mw_W G ad NF TF FF M L H locs → lv_has ls 4 [] → W p l e ({ frames := 8, cells := 1, slots := 6, locals := 141 }) s m [.ref (ad 0), .int a1, .int a2].toArray below meth c H locs 0 0 (vx_MQ below (mw_Qi G ad NF TF FF (mx_eqI z0 M0 L0)) (mx_XC G ad NF TF FF z0.1 M0 L0) [.ref (ad 0), .int a1, .int a2].toArray s 1 6 (mw_fr G)) (F0 m 44 ls []) := by
    intro M L H locs ls hD hw hl
    unfold fX11_task_b44 at hD
    exact mx_throwS (k := 2) (ik := 44) (is := 197) (ic := 48) hst C KX hw0 hw hex hlocks (by decide) wd_773 wd_25 (List.mem_of_getElem? (i := 19) rfl) mx_at_2_48 hl.1 dX11_task_44 dX11_task_47 dX11_task_48 dX11_task_50 dX11_task_53 (Nat.le_of_ble_eq_true rfl) (Nat.le_of_ble_eq_true rfl) (Nat.le_of_ble_eq_true rfl) (Nat.le_of_ble_eq_true rfl) (mx_zI hD (by decide)) (Nat.le_of_ble_eq_true rfl) (Nat.le_of_ble_eq_true rfl)
  have hb74 : ∀ (s0 : Int32) (M : mwM) (L : mwL) (H : Heap) (locs : List Loc) (ls : Array Slot), fX11_task_b74 fu a1 a2 s0 M L = some (z0, M0, L0) → mw_W G ad NF TF FF M L H locs → lv_has ls 4 [(0, .ref (ad 0)), (1, .int a1)] → W p l e ({ frames := 8, cells := 1, slots := 6, locals := 141 }) s m [.ref (ad 0), .int a1, .int a2].toArray below meth c H locs 0 0 (vx_MQ below (mw_Qi G ad NF TF FF (mx_eqI z0 M0 L0)) (mx_XC G ad NF TF FF z0.1 M0 L0) [.ref (ad 0), .int a1, .int a2].toArray s 1 6 (mw_fr G)) (F0 m 74 ls [.int s0]) := by
    intro s0 M L H locs ls hD hw hl
    unfold fX11_task_b74 at hD
    refine lv_istore_n (lv' := [(3, .int s0), (0, .ref (ad 0)), (1, .int a1)]) C.1.1 C.1.2.1 dX11_task_74 rfl hl (by decide) rfl (fun ls hl => ?_)
    refine lv_aload_n C.1.1 C.1.2.1 dX11_task_75 rfl (lv_at hl 1 rfl) ?_
    refine mr_getR C hw kc_11 1 (by decide) tf_0 ff_0_1 wd_641 dX11_task_76 (by decide) rfl ?_
    refine mr_getNR C hw kc_1 1 (by decide) tf_3 ff_3_1 nd_515 dX11_task_79 (by decide) rfl ?_
    refine mr_getNR C hw kc_4 0 (by decide) tf_5 ff_5_0 nd_65 dX11_task_82 (by decide) rfl ?_
    refine lv_iload_n C.1.1 C.1.2.1 dX11_task_85 rfl (lv_at hl 0 rfl) ?_
    obtain ⟨q1, hD⟩ := g_ck hD
    refine mr_aald C hw (by decide) tf_6 (by decide) (by decide) rfl rfl q1 (fr_6 _ (g_lt q1)).1 dX11_task_86 ?_
    refine lv_iload_n C.1.1 C.1.2.1 dX11_task_87 rfl (lv_at hl 2 rfl) ?_
    obtain ⟨q2, hD⟩ := g_ck hD
    refine mr_iald C hw (fr_6 _ (g_lt q1)).2.2 (fr_6 _ (g_lt q1)).2.1 q2 dX11_task_88 ?_
    refine W.widen (k := 1) (n := 6) (Nat.le_of_ble_eq_true rfl) (Nat.le_of_ble_eq_true rfl) ?_
    exact vx_ret (mr_iret C hr hlocks hw rfl (Option.some.inj hD) dX11_task_89)
  unfold DX11_task at hD
  refine lv_aload_n C.1.1 C.1.2.1 dX11_task_0 rfl (lv_at hl 0 rfl) ?_
  refine mr_getI C hw kc_11 5 (by decide) tf_0 wd_645 dX11_task_1 (by decide) rfl ?_
  refine lv_if_eq (tgt := 25) C.1.1 C.1.2.1 dX11_task_4 (by decide) (fun c3 => ?_) (fun c3 => ?_)
  · replace hD := g_pos c3 hD
    exact hb25 M L _ _ ls hD hw (lv_sub hl [] rfl)
  · replace hD := g_neg c3 hD
    refine lv_iload_n C.1.1 C.1.2.1 dX11_task_7 rfl (lv_at hl 1 rfl) ?_
    refine lv_if_lt (tgt := 25) C.1.1 C.1.2.1 dX11_task_8 (by decide) (fun c4 => ?_) (fun c4 => ?_)
    · replace hD := g_pos c4 hD
      exact hb25 M L _ _ ls hD hw (lv_sub hl [] rfl)
    · replace hD := g_neg c4 hD
      refine lv_iload_n C.1.1 C.1.2.1 dX11_task_11 rfl (lv_at hl 1 rfl) ?_
      refine lv_aload_n C.1.1 C.1.2.1 dX11_task_12 rfl (lv_at hl 0 rfl) ?_
      refine mr_getR C hw kc_11 1 (by decide) tf_0 ff_0_1 wd_641 dX11_task_13 (by decide) rfl ?_
      refine mr_getNR C hw kc_1 1 (by decide) tf_3 ff_3_1 nd_515 dX11_task_16 (by decide) rfl ?_
      refine mr_getNI C hw kc_4 3 (by decide) tf_5 nd_69 dX11_task_19 (by decide) rfl ?_
      refine lv_icmp_lt (tgt := 35) C.1.1 C.1.2.1 dX11_task_22 (by decide) (fun c5 => ?_) (fun c5 => ?_)
      · replace hD := g_pos c5 hD
        refine lv_iload_n C.1.1 C.1.2.1 dX11_task_35 rfl (lv_at hl 2 rfl) ?_
        refine lv_if_lt (tgt := 44) C.1.1 C.1.2.1 dX11_task_36 (by decide) (fun c6 => ?_) (fun c6 => ?_)
        · replace hD := g_pos c6 hD
          exact hb44 M L _ _ ls hD hw (lv_sub hl [] rfl)
        · replace hD := g_neg c6 hD
          refine lv_iload_n C.1.1 C.1.2.1 dX11_task_39 rfl (lv_at hl 2 rfl) ?_
          refine lv_iconst (v := 2) C.1.1 C.1.2.1 dX11_task_40 (by decide) ?_
          refine lv_icmp_le (tgt := 54) C.1.1 C.1.2.1 dX11_task_41 (by decide) (fun c7 => ?_) (fun c7 => ?_)
          · replace hD := g_pos c7 hD
            refine lv_iload_n C.1.1 C.1.2.1 dX11_task_54 rfl (lv_at hl 2 rfl) ?_
            refine lv_if_ne (tgt := 62) C.1.1 C.1.2.1 dX11_task_55 (by decide) (fun c8 => ?_) (fun c8 => ?_)
            · replace hD := g_neg c8 hD
              refine lv_iload_n C.1.1 C.1.2.1 dX11_task_62 rfl (lv_at hl 2 rfl) ?_
              refine lv_iconst (v := 1) C.1.1 C.1.2.1 dX11_task_63 (by decide) ?_
              refine lv_icmp_ne (tgt := 72) C.1.1 C.1.2.1 dX11_task_64 (by decide) (fun c9 => ?_) (fun c9 => ?_)
              · replace hD := g_neg c9 hD
                refine lv_bipush (v := 10) C.1.1 C.1.2.1 dX11_task_72 (by decide) ?_
                exact hb74 10 M L _ _ ls hD hw (lv_sub hl [0, 1] rfl)
              · replace hD := g_pos c9 hD
                refine lv_bipush (v := 9) C.1.1 C.1.2.1 dX11_task_67 (by decide) ?_
                refine lv_goto (tgt := 74) C.1.1 C.1.2.1 dX11_task_69 (by decide) ?_
                exact hb74 9 M L _ _ ls hD hw (lv_sub hl [0, 1] rfl)
            · replace hD := g_pos c8 hD
              refine lv_iconst (v := 5) C.1.1 C.1.2.1 dX11_task_58 (by decide) ?_
              refine lv_goto (tgt := 74) C.1.1 C.1.2.1 dX11_task_59 (by decide) ?_
              exact hb74 5 M L _ _ ls hD hw (lv_sub hl [0, 1] rfl)
          · replace hD := g_neg c7 hD
            exact hb44 M L _ _ ls hD hw (lv_sub hl [] rfl)
      · replace hD := g_neg c5 hD
        exact hb25 M L _ _ ls hD hw (lv_sub hl [] rfl)

theorem dX11_active_0 : decode cX11_active 0 = .ok (.aload_n 0, 1) := by decide +kernel
theorem dX11_active_1 : decode cX11_active 1 = .ok (.iload_n 1, 1) := by decide +kernel
theorem dX11_active_2 : decode cX11_active 2 = .ok (.invokevirtual 202, 3) := by decide +kernel
theorem dX11_active_5 : decode cX11_active 5 = .ok (.ifCond .eq 23, 3) := by decide +kernel
theorem dX11_active_8 : decode cX11_active 8 = .ok (.iload_n 2, 1) := by decide +kernel
theorem dX11_active_9 : decode cX11_active 9 = .ok (.ifCond .lt 19, 3) := by decide +kernel
theorem dX11_active_12 : decode cX11_active 12 = .ok (.iload_n 2, 1) := by decide +kernel
theorem dX11_active_13 : decode cX11_active 13 = .ok (.aload_n 0, 1) := by decide +kernel
theorem dX11_active_14 : decode cX11_active 14 = .ok (.getfield 20, 3) := by decide +kernel
theorem dX11_active_17 : decode cX11_active 17 = .ok (.getfield 206, 3) := by decide +kernel
theorem dX11_active_20 : decode cX11_active 20 = .ok (.iload_n 1, 1) := by decide +kernel
theorem dX11_active_21 : decode cX11_active 21 = .ok (.aaload, 1) := by decide +kernel
theorem dX11_active_22 : decode cX11_active 22 = .ok (.getfield 210, 3) := by decide +kernel
theorem dX11_active_25 : decode cX11_active 25 = .ok (.if_icmp .le 13, 3) := by decide +kernel
theorem dX11_active_28 : decode cX11_active 28 = .ok (.new 117, 3) := by decide +kernel
theorem dX11_active_31 : decode cX11_active 31 = .ok (.dup, 1) := by decide +kernel
theorem dX11_active_32 : decode cX11_active 32 = .ok (.ldc 215, 2) := by decide +kernel
theorem dX11_active_34 : decode cX11_active 34 = .ok (.invokespecial 121, 3) := by decide +kernel
theorem dX11_active_37 : decode cX11_active 37 = .ok (.athrow, 1) := by decide +kernel
theorem dX11_active_38 : decode cX11_active 38 = .ok (.aload_n 0, 1) := by decide +kernel
theorem dX11_active_39 : decode cX11_active 39 = .ok (.getfield 20, 3) := by decide +kernel
theorem dX11_active_42 : decode cX11_active 42 = .ok (.getfield 206, 3) := by decide +kernel
theorem dX11_active_45 : decode cX11_active 45 = .ok (.iload_n 1, 1) := by decide +kernel
theorem dX11_active_46 : decode cX11_active 46 = .ok (.aaload, 1) := by decide +kernel
theorem dX11_active_47 : decode cX11_active 47 = .ok (.getfield 217, 3) := by decide +kernel
theorem dX11_active_50 : decode cX11_active 50 = .ok (.ifCond .eq 19, 3) := by decide +kernel
theorem dX11_active_53 : decode cX11_active 53 = .ok (.aload_n 0, 1) := by decide +kernel
theorem dX11_active_54 : decode cX11_active 54 = .ok (.getfield 20, 3) := by decide +kernel
theorem dX11_active_57 : decode cX11_active 57 = .ok (.getfield 206, 3) := by decide +kernel
theorem dX11_active_60 : decode cX11_active 60 = .ok (.iload_n 1, 1) := by decide +kernel
theorem dX11_active_61 : decode cX11_active 61 = .ok (.aaload, 1) := by decide +kernel
theorem dX11_active_62 : decode cX11_active 62 = .ok (.iload_n 2, 1) := by decide +kernel
theorem dX11_active_63 : decode cX11_active 63 = .ok (.invokevirtual 220, 3) := by decide +kernel
theorem dX11_active_66 : decode cX11_active 66 = .ok (.goto 5, 3) := by decide +kernel
theorem dX11_active_69 : decode cX11_active 69 = .ok (.bipush (-3), 2) := by decide +kernel
theorem dX11_active_71 : decode cX11_active 71 = .ok (.ireturn, 1) := by decide +kernel
theorem cwX11_active : mw_cwV yX11_active cX11_active 3 ((some .int)) 2 := ⟨⟨wd_1, wd_1858, by decide +kernel⟩, wd_1856, wd_1857⟩
set_option maxHeartbeats 4000000 in
set_option maxRecDepth 100000 in
theorem tX11_active (l : Launch) (G : mwG) (ad : Nat → Nat) (fu : Nat) (a1 : Int32) (a2 : Int32) (M : mwM) (L : mwL) {z0 : Nat × Int32} {M0 : mwM} {L0 : mwL} (hst : l.stackTraces = false) (hD : DX11_active fu a1 a2 M L = some (z0, M0, L0)) : vx_Met l yX11_active (Cond.code yX11_active cX11_active 3 ((some .int)) :: GT) ({ frames := 8, cells := 1, slots := 6, locals := 141 }) (mx_Pre G ad NF TF FF M L [.ref (ad 0), .int a1, .int a2]) (mw_Qi G ad NF TF FF (mx_eqI z0 M0 L0)) (mx_XC G ad NF TF FF z0.1 M0 L0) 1 6 (mw_fr G) := by
  refine mx_enter (by decide) (Nat.le_of_ble_eq_true rfl) ?_
  intro p e s m below meth c ls C KX hr hlocks hex hw hl
  have hw0 := hw
  have hl : lv_has ls 3 [(0, .ref (ad 0)), (1, .int a1), (2, .int a2)] := hl
  have hb28 : ∀ (M : mwM) (L : mwL) (H : Heap) (locs : List Loc) (ls : Array Slot), fX11_active_b28 fu a1 a2 M L = some (z0, M0, L0) → mw_W G ad NF TF FF M L H locs → lv_has ls 3 [] → W p l e ({ frames := 8, cells := 1, slots := 6, locals := 141 }) s m [.ref (ad 0), .int a1, .int a2].toArray below meth c H locs 0 0 (vx_MQ below (mw_Qi G ad NF TF FF (mx_eqI z0 M0 L0)) (mx_XC G ad NF TF FF z0.1 M0 L0) [.ref (ad 0), .int a1, .int a2].toArray s 1 6 (mw_fr G)) (F0 m 28 ls []) := by
    intro M L H locs ls hD hw hl
    unfold fX11_active_b28 at hD
    exact mx_throwS (k := 3) (ik := 117) (is := 215) (ic := 121) hst C KX hw0 hw hex hlocks (by decide) wd_1253 wd_31 (List.mem_of_getElem? (i := 20) rfl) mx_at_3_121 hl.1 dX11_active_28 dX11_active_31 dX11_active_32 dX11_active_34 dX11_active_37 (Nat.le_of_ble_eq_true rfl) (Nat.le_of_ble_eq_true rfl) (Nat.le_of_ble_eq_true rfl) (Nat.le_of_ble_eq_true rfl) (mx_zI hD (by decide)) (Nat.le_of_ble_eq_true rfl) (Nat.le_of_ble_eq_true rfl)
  have hb71 : ∀ (s0 : Int32) (M : mwM) (L : mwL) (H : Heap) (locs : List Loc) (ls : Array Slot), fX11_active_b71 fu a1 a2 s0 M L = some (z0, M0, L0) → mw_W G ad NF TF FF M L H locs → lv_has ls 3 [] → W p l e ({ frames := 8, cells := 1, slots := 6, locals := 141 }) s m [.ref (ad 0), .int a1, .int a2].toArray below meth c H locs 0 0 (vx_MQ below (mw_Qi G ad NF TF FF (mx_eqI z0 M0 L0)) (mx_XC G ad NF TF FF z0.1 M0 L0) [.ref (ad 0), .int a1, .int a2].toArray s 1 6 (mw_fr G)) (F0 m 71 ls [.int s0]) := by
    intro s0 M L H locs ls hD hw hl
    unfold fX11_active_b71 at hD
    refine W.widen (k := 1) (n := 6) (Nat.le_of_ble_eq_true rfl) (Nat.le_of_ble_eq_true rfl) ?_
    exact vx_ret (mr_iret C hr hlocks hw rfl (Option.some.inj hD) dX11_active_71)
  unfold DX11_active at hD
  refine lv_aload_n C.1.1 C.1.2.1 dX11_active_0 rfl (lv_at hl 0 rfl) ?_
  refine lv_iload_n C.1.1 C.1.2.1 dX11_active_1 rfl (lv_at hl 1 rfl) ?_
  obtain ⟨r3, M1, L2, h1, hD⟩ := g_b3 hD
  refine md_cvI (As := [.int a1]) (rest := []) C hw (tX11_hasChart l G ad fu a1 M L h1) kc_11 (by decide) tf_0 wd_1859 cwX11_hasChart ⟨Nat.le_of_ble_eq_true rfl, Nat.le_of_ble_eq_true rfl⟩ rfl hl.1 (Nat.le_of_ble_eq_true rfl) dX11_active_2 rfl rfl ⟨Nat.zero_le _, Nat.zero_le _⟩ rfl (fun H locs hw => ?_)
  refine lv_if_eq (tgt := 28) C.1.1 C.1.2.1 dX11_active_5 (by decide) (fun c4 => ?_) (fun c4 => ?_)
  · replace hD := g_pos c4 hD
    exact hb28 M1 L2 _ _ ls hD hw (lv_sub hl [] rfl)
  · replace hD := g_neg c4 hD
    refine lv_iload_n C.1.1 C.1.2.1 dX11_active_8 rfl (lv_at hl 2 rfl) ?_
    refine lv_if_lt (tgt := 28) C.1.1 C.1.2.1 dX11_active_9 (by decide) (fun c5 => ?_) (fun c5 => ?_)
    · replace hD := g_pos c5 hD
      exact hb28 M1 L2 _ _ ls hD hw (lv_sub hl [] rfl)
    · replace hD := g_neg c5 hD
      refine lv_iload_n C.1.1 C.1.2.1 dX11_active_12 rfl (lv_at hl 2 rfl) ?_
      refine lv_aload_n C.1.1 C.1.2.1 dX11_active_13 rfl (lv_at hl 0 rfl) ?_
      refine mr_getR C hw kc_11 1 (by decide) tf_0 ff_0_1 wd_641 dX11_active_14 (by decide) rfl ?_
      refine mr_getNR C hw kc_1 0 (by decide) tf_3 ff_3_0 nd_513 dX11_active_17 (by decide) rfl ?_
      refine lv_iload_n C.1.1 C.1.2.1 dX11_active_20 rfl (lv_at hl 1 rfl) ?_
      obtain ⟨q6, hD⟩ := g_ck hD
      refine mr_aald C hw (by decide) tf_4 (by decide) (by decide) rfl rfl q6 (fr_4 _ (g_lt q6)) dX11_active_21 ?_
      refine mr_getNI C hw kc_2 7 (Ch_N0 (isCh_of (g_lt q6))) (Ch_T0 (isCh_of (g_lt q6))) nd_459 dX11_active_22 (by decide) rfl ?_
      refine lv_icmp_le (tgt := 38) C.1.1 C.1.2.1 dX11_active_25 (by decide) (fun c7 => ?_) (fun c7 => ?_)
      · replace hD := g_pos c7 hD
        refine lv_aload_n C.1.1 C.1.2.1 dX11_active_38 rfl (lv_at hl 0 rfl) ?_
        refine mr_getR C hw kc_11 1 (by decide) tf_0 ff_0_1 wd_641 dX11_active_39 (by decide) rfl ?_
        refine mr_getNR C hw kc_1 0 (by decide) tf_3 ff_3_0 nd_513 dX11_active_42 (by decide) rfl ?_
        refine lv_iload_n C.1.1 C.1.2.1 dX11_active_45 rfl (lv_at hl 1 rfl) ?_
        obtain ⟨q8, hD⟩ := g_ck hD
        refine mr_aald C hw (by decide) tf_4 (by decide) (by decide) rfl rfl q8 (fr_4 _ (g_lt q8)) dX11_active_46 ?_
        refine mr_getNI C hw kc_2 16 (Ch_N0 (isCh_of (g_lt q8))) (Ch_T0 (isCh_of (g_lt q8))) nd_473 dX11_active_47 (by decide) rfl ?_
        refine lv_if_eq (tgt := 69) C.1.1 C.1.2.1 dX11_active_50 (by decide) (fun c9 => ?_) (fun c9 => ?_)
        · replace hD := g_pos c9 hD
          refine lv_bipush (v := (-3)) C.1.1 C.1.2.1 dX11_active_69 (by decide) ?_
          exact hb71 ((-3)) M1 L2 _ _ ls hD hw (lv_sub hl [] rfl)
        · replace hD := g_neg c9 hD
          refine lv_aload_n C.1.1 C.1.2.1 dX11_active_53 rfl (lv_at hl 0 rfl) ?_
          refine mr_getR C hw kc_11 1 (by decide) tf_0 ff_0_1 wd_641 dX11_active_54 (by decide) rfl ?_
          refine mr_getNR C hw kc_1 0 (by decide) tf_3 ff_3_0 nd_513 dX11_active_57 (by decide) rfl ?_
          refine lv_iload_n C.1.1 C.1.2.1 dX11_active_60 rfl (lv_at hl 1 rfl) ?_
          obtain ⟨q10, hD⟩ := g_ck hD
          refine mr_aald C hw (by decide) tf_4 (by decide) (by decide) rfl rfl q10 (fr_4 _ (g_lt q10)) dX11_active_61 ?_
          refine lv_iload_n C.1.1 C.1.2.1 dX11_active_62 rfl (lv_at hl 2 rfl) ?_
          obtain ⟨r13, M11, L12, h1, hD⟩ := g_b3 hD
          refine md_cvI (As := [.int a2]) (rest := []) C hw (tX2_innermost l G ad fu ((293 + 36 * a1.toNatClampNeg)) a2 M1 L2 h1 (isCh_of (g_lt q10))) kc_2 (Ch_N0 (isCh_of (g_lt q10))) (Ch_T0 (isCh_of (g_lt q10))) wd_1864 cwX2_innermost ⟨Nat.le_of_ble_eq_true rfl, Nat.le_of_ble_eq_true rfl⟩ rfl hl.1 (Nat.le_of_ble_eq_true rfl) dX11_active_63 rfl rfl ⟨Nat.zero_le _, Nat.zero_le _⟩ rfl (fun H locs hw => ?_)
          refine lv_goto (tgt := 71) C.1.1 C.1.2.1 dX11_active_66 (by decide) ?_
          exact hb71 r13 M11 L12 _ _ ls hD hw (lv_sub hl [] rfl)
      · replace hD := g_neg c7 hD
        exact hb28 M1 L2 _ _ ls hD hw (lv_sub hl [] rfl)

theorem dX11_value_0 : decode cX11_value 0 = .ok (.aload_n 0, 1) := by decide +kernel
theorem dX11_value_1 : decode cX11_value 1 = .ok (.iload_n 1, 1) := by decide +kernel
theorem dX11_value_2 : decode cX11_value 2 = .ok (.invokevirtual 202, 3) := by decide +kernel
theorem dX11_value_5 : decode cX11_value 5 = .ok (.ifCond .eq 13, 3) := by decide +kernel
theorem dX11_value_8 : decode cX11_value 8 = .ok (.iload_n 2, 1) := by decide +kernel
theorem dX11_value_9 : decode cX11_value 9 = .ok (.ifCond .lt 9, 3) := by decide +kernel
theorem dX11_value_12 : decode cX11_value 12 = .ok (.iload_n 2, 1) := by decide +kernel
theorem dX11_value_13 : decode cX11_value 13 = .ok (.bipush 32, 2) := by decide +kernel
theorem dX11_value_15 : decode cX11_value 15 = .ok (.if_icmp .lt 13, 3) := by decide +kernel
theorem dX11_value_18 : decode cX11_value 18 = .ok (.new 117, 3) := by decide +kernel
theorem dX11_value_21 : decode cX11_value 21 = .ok (.dup, 1) := by decide +kernel
theorem dX11_value_22 : decode cX11_value 22 = .ok (.ldc 223, 2) := by decide +kernel
theorem dX11_value_24 : decode cX11_value 24 = .ok (.invokespecial 121, 3) := by decide +kernel
theorem dX11_value_27 : decode cX11_value 27 = .ok (.athrow, 1) := by decide +kernel
theorem dX11_value_28 : decode cX11_value 28 = .ok (.aload_n 0, 1) := by decide +kernel
theorem dX11_value_29 : decode cX11_value 29 = .ok (.getfield 20, 3) := by decide +kernel
theorem dX11_value_32 : decode cX11_value 32 = .ok (.getfield 206, 3) := by decide +kernel
theorem dX11_value_35 : decode cX11_value 35 = .ok (.iload_n 1, 1) := by decide +kernel
theorem dX11_value_36 : decode cX11_value 36 = .ok (.aaload, 1) := by decide +kernel
theorem dX11_value_37 : decode cX11_value 37 = .ok (.getfield 225, 3) := by decide +kernel
theorem dX11_value_40 : decode cX11_value 40 = .ok (.iload_n 2, 1) := by decide +kernel
theorem dX11_value_41 : decode cX11_value 41 = .ok (.laload, 1) := by decide +kernel
theorem dX11_value_42 : decode cX11_value 42 = .ok (.lreturn, 1) := by decide +kernel
theorem cwX11_value : mw_cwV yX11_value cX11_value 3 ((some .long)) 2 := ⟨⟨wd_1, wd_1874, by decide +kernel⟩, wd_1872, wd_1873⟩
set_option maxHeartbeats 4000000 in
set_option maxRecDepth 100000 in
theorem tX11_value (l : Launch) (G : mwG) (ad : Nat → Nat) (fu : Nat) (a1 : Int32) (a2 : Int32) (M : mwM) (L : mwL) {z0 : Nat × Int64} {M0 : mwM} {L0 : mwL} (hst : l.stackTraces = false) (hD : DX11_value fu a1 a2 M L = some (z0, M0, L0)) : vx_Met l yX11_value (Cond.code yX11_value cX11_value 3 ((some .long)) :: GT) ({ frames := 8, cells := 1, slots := 6, locals := 141 }) (mx_Pre G ad NF TF FF M L [.ref (ad 0), .int a1, .int a2]) (mw_Ql G ad NF TF FF (mx_eqL z0 M0 L0)) (mx_XC G ad NF TF FF z0.1 M0 L0) 1 6 (mw_fr G) := by
  refine mx_enter (by decide) (Nat.le_of_ble_eq_true rfl) ?_
  intro p e s m below meth c ls C KX hr hlocks hex hw hl
  have hw0 := hw
  have hl : lv_has ls 3 [(0, .ref (ad 0)), (1, .int a1), (2, .int a2)] := hl
  have hb18 : ∀ (M : mwM) (L : mwL) (H : Heap) (locs : List Loc) (ls : Array Slot), fX11_value_b18 fu a1 a2 M L = some (z0, M0, L0) → mw_W G ad NF TF FF M L H locs → lv_has ls 3 [] → W p l e ({ frames := 8, cells := 1, slots := 6, locals := 141 }) s m [.ref (ad 0), .int a1, .int a2].toArray below meth c H locs 0 0 (vx_MQ below (mw_Ql G ad NF TF FF (mx_eqL z0 M0 L0)) (mx_XC G ad NF TF FF z0.1 M0 L0) [.ref (ad 0), .int a1, .int a2].toArray s 1 6 (mw_fr G)) (F0 m 18 ls []) := by
    intro M L H locs ls hD hw hl
    unfold fX11_value_b18 at hD
    exact mx_throwS (k := 3) (ik := 117) (is := 223) (ic := 121) hst C KX hw0 hw hex hlocks (by decide) wd_1253 wd_31 (List.mem_of_getElem? (i := 21) rfl) mx_at_3_121 hl.1 dX11_value_18 dX11_value_21 dX11_value_22 dX11_value_24 dX11_value_27 (Nat.le_of_ble_eq_true rfl) (Nat.le_of_ble_eq_true rfl) (Nat.le_of_ble_eq_true rfl) (Nat.le_of_ble_eq_true rfl) (mx_zI hD (by decide)) (Nat.le_of_ble_eq_true rfl) (Nat.le_of_ble_eq_true rfl)
  unfold DX11_value at hD
  refine lv_aload_n C.1.1 C.1.2.1 dX11_value_0 rfl (lv_at hl 0 rfl) ?_
  refine lv_iload_n C.1.1 C.1.2.1 dX11_value_1 rfl (lv_at hl 1 rfl) ?_
  obtain ⟨r3, M1, L2, h1, hD⟩ := g_b3 hD
  refine md_cvI (As := [.int a1]) (rest := []) C hw (tX11_hasChart l G ad fu a1 M L h1) kc_11 (by decide) tf_0 wd_1859 cwX11_hasChart ⟨Nat.le_of_ble_eq_true rfl, Nat.le_of_ble_eq_true rfl⟩ rfl hl.1 (Nat.le_of_ble_eq_true rfl) dX11_value_2 rfl rfl ⟨Nat.zero_le _, Nat.zero_le _⟩ rfl (fun H locs hw => ?_)
  refine lv_if_eq (tgt := 18) C.1.1 C.1.2.1 dX11_value_5 (by decide) (fun c4 => ?_) (fun c4 => ?_)
  · replace hD := g_pos c4 hD
    exact hb18 M1 L2 _ _ ls hD hw (lv_sub hl [] rfl)
  · replace hD := g_neg c4 hD
    refine lv_iload_n C.1.1 C.1.2.1 dX11_value_8 rfl (lv_at hl 2 rfl) ?_
    refine lv_if_lt (tgt := 18) C.1.1 C.1.2.1 dX11_value_9 (by decide) (fun c5 => ?_) (fun c5 => ?_)
    · replace hD := g_pos c5 hD
      exact hb18 M1 L2 _ _ ls hD hw (lv_sub hl [] rfl)
    · replace hD := g_neg c5 hD
      refine lv_iload_n C.1.1 C.1.2.1 dX11_value_12 rfl (lv_at hl 2 rfl) ?_
      refine lv_bipush (v := 32) C.1.1 C.1.2.1 dX11_value_13 (by decide) ?_
      refine lv_icmp_lt (tgt := 28) C.1.1 C.1.2.1 dX11_value_15 (by decide) (fun c6 => ?_) (fun c6 => ?_)
      · replace hD := g_pos c6 hD
        refine lv_aload_n C.1.1 C.1.2.1 dX11_value_28 rfl (lv_at hl 0 rfl) ?_
        refine mr_getR C hw kc_11 1 (by decide) tf_0 ff_0_1 wd_641 dX11_value_29 (by decide) rfl ?_
        refine mr_getNR C hw kc_1 0 (by decide) tf_3 ff_3_0 nd_513 dX11_value_32 (by decide) rfl ?_
        refine lv_iload_n C.1.1 C.1.2.1 dX11_value_35 rfl (lv_at hl 1 rfl) ?_
        obtain ⟨q7, hD⟩ := g_ck hD
        refine mr_aald C hw (by decide) tf_4 (by decide) (by decide) rfl rfl q7 (fr_4 _ (g_lt q7)) dX11_value_36 ?_
        refine mr_getNR C hw kc_2 3 (Ch_N0 (isCh_of (g_lt q7))) (Ch_T0 (isCh_of (g_lt q7))) (Ch_F0_3 (isCh_of (g_lt q7))) nd_450 dX11_value_37 (by decide) rfl ?_
        refine lv_iload_n C.1.1 C.1.2.1 dX11_value_40 rfl (lv_at hl 2 rfl) ?_
        obtain ⟨q8, hD⟩ := g_ck hD
        refine mr_lald C hw (Ch_N34 (isCh_of (g_lt q7))) (Ch_T34 (isCh_of (g_lt q7))) q8 dX11_value_41 ?_
        refine W.widen (k := 1) (n := 6) (Nat.le_of_ble_eq_true rfl) (Nat.le_of_ble_eq_true rfl) ?_
        exact vx_ret (mr_lret C hr hlocks hw (Option.some.inj hD) dX11_value_42)
      · replace hD := g_neg c6 hD
        exact hb18 M1 L2 _ _ ls hD hw (lv_sub hl [] rfl)

theorem dX11_chart_0 : decode cX11_chart 0 = .ok (.aload_n 0, 1) := by decide +kernel
theorem dX11_chart_1 : decode cX11_chart 1 = .ok (.iload_n 1, 1) := by decide +kernel
theorem dX11_chart_2 : decode cX11_chart 2 = .ok (.invokevirtual 202, 3) := by decide +kernel
theorem dX11_chart_5 : decode cX11_chart 5 = .ok (.ifCond .ne 13, 3) := by decide +kernel
theorem dX11_chart_8 : decode cX11_chart 8 = .ok (.new 117, 3) := by decide +kernel
theorem dX11_chart_11 : decode cX11_chart 11 = .ok (.dup, 1) := by decide +kernel
theorem dX11_chart_12 : decode cX11_chart 12 = .ok (.ldc 229, 2) := by decide +kernel
theorem dX11_chart_14 : decode cX11_chart 14 = .ok (.invokespecial 121, 3) := by decide +kernel
theorem dX11_chart_17 : decode cX11_chart 17 = .ok (.athrow, 1) := by decide +kernel
theorem dX11_chart_18 : decode cX11_chart 18 = .ok (.iload_n 2, 1) := by decide +kernel
theorem dX11_chart_19 : decode cX11_chart 19 = .ok (.ifCond .lt 9, 3) := by decide +kernel
theorem dX11_chart_22 : decode cX11_chart 22 = .ok (.iload_n 2, 1) := by decide +kernel
theorem dX11_chart_23 : decode cX11_chart 23 = .ok (.bipush 7, 2) := by decide +kernel
theorem dX11_chart_25 : decode cX11_chart 25 = .ok (.if_icmp .le 13, 3) := by decide +kernel
theorem dX11_chart_28 : decode cX11_chart 28 = .ok (.new 44, 3) := by decide +kernel
theorem dX11_chart_31 : decode cX11_chart 31 = .ok (.dup, 1) := by decide +kernel
theorem dX11_chart_32 : decode cX11_chart 32 = .ok (.ldc 231, 2) := by decide +kernel
theorem dX11_chart_34 : decode cX11_chart 34 = .ok (.invokespecial 48, 3) := by decide +kernel
theorem dX11_chart_37 : decode cX11_chart 37 = .ok (.athrow, 1) := by decide +kernel
theorem dX11_chart_38 : decode cX11_chart 38 = .ok (.iload_n 2, 1) := by decide +kernel
theorem dX11_chart_39 : decode cX11_chart 39 = .ok (.tableswitch 64 0 2 #[25, 38, 51], 25) := by decide +kernel
theorem dX11_chart_64 : decode cX11_chart 64 = .ok (.aload_n 0, 1) := by decide +kernel
theorem dX11_chart_65 : decode cX11_chart 65 = .ok (.getfield 20, 3) := by decide +kernel
theorem dX11_chart_68 : decode cX11_chart 68 = .ok (.getfield 206, 3) := by decide +kernel
theorem dX11_chart_71 : decode cX11_chart 71 = .ok (.iload_n 1, 1) := by decide +kernel
theorem dX11_chart_72 : decode cX11_chart 72 = .ok (.aaload, 1) := by decide +kernel
theorem dX11_chart_73 : decode cX11_chart 73 = .ok (.getfield 233, 3) := by decide +kernel
theorem dX11_chart_76 : decode cX11_chart 76 = .ok (.ireturn, 1) := by decide +kernel
theorem dX11_chart_77 : decode cX11_chart 77 = .ok (.aload_n 0, 1) := by decide +kernel
theorem dX11_chart_78 : decode cX11_chart 78 = .ok (.getfield 20, 3) := by decide +kernel
theorem dX11_chart_81 : decode cX11_chart 81 = .ok (.getfield 206, 3) := by decide +kernel
theorem dX11_chart_84 : decode cX11_chart 84 = .ok (.iload_n 1, 1) := by decide +kernel
theorem dX11_chart_85 : decode cX11_chart 85 = .ok (.aaload, 1) := by decide +kernel
theorem dX11_chart_86 : decode cX11_chart 86 = .ok (.getfield 236, 3) := by decide +kernel
theorem dX11_chart_89 : decode cX11_chart 89 = .ok (.ireturn, 1) := by decide +kernel
theorem dX11_chart_90 : decode cX11_chart 90 = .ok (.aload_n 0, 1) := by decide +kernel
theorem dX11_chart_91 : decode cX11_chart 91 = .ok (.getfield 20, 3) := by decide +kernel
theorem dX11_chart_94 : decode cX11_chart 94 = .ok (.getfield 206, 3) := by decide +kernel
theorem dX11_chart_97 : decode cX11_chart 97 = .ok (.iload_n 1, 1) := by decide +kernel
theorem dX11_chart_98 : decode cX11_chart 98 = .ok (.aaload, 1) := by decide +kernel
theorem dX11_chart_99 : decode cX11_chart 99 = .ok (.getfield 239, 3) := by decide +kernel
theorem dX11_chart_102 : decode cX11_chart 102 = .ok (.ireturn, 1) := by decide +kernel
theorem dX11_chart_103 : decode cX11_chart 103 = .ok (.aload_n 0, 1) := by decide +kernel
theorem dX11_chart_104 : decode cX11_chart 104 = .ok (.getfield 20, 3) := by decide +kernel
theorem dX11_chart_107 : decode cX11_chart 107 = .ok (.getfield 206, 3) := by decide +kernel
theorem dX11_chart_110 : decode cX11_chart 110 = .ok (.iload_n 1, 1) := by decide +kernel
theorem dX11_chart_111 : decode cX11_chart 111 = .ok (.aaload, 1) := by decide +kernel
theorem dX11_chart_112 : decode cX11_chart 112 = .ok (.iload_n 2, 1) := by decide +kernel
theorem dX11_chart_113 : decode cX11_chart 113 = .ok (.iconst 3, 1) := by decide +kernel
theorem dX11_chart_114 : decode cX11_chart 114 = .ok (.isub, 1) := by decide +kernel
theorem dX11_chart_115 : decode cX11_chart 115 = .ok (.invokevirtual 242, 3) := by decide +kernel
theorem dX11_chart_118 : decode cX11_chart 118 = .ok (.ireturn, 1) := by decide +kernel
theorem cwX11_chart : mw_cwV yX11_chart cX11_chart 3 ((some .int)) 2 := ⟨⟨wd_1, wd_1882, by decide +kernel⟩, wd_1880, wd_1881⟩
set_option maxHeartbeats 4000000 in
set_option maxRecDepth 100000 in
theorem tX11_chart (l : Launch) (G : mwG) (ad : Nat → Nat) (fu : Nat) (a1 : Int32) (a2 : Int32) (M : mwM) (L : mwL) {z0 : Nat × Int32} {M0 : mwM} {L0 : mwL} (hst : l.stackTraces = false) (hD : DX11_chart fu a1 a2 M L = some (z0, M0, L0)) : vx_Met l yX11_chart (Cond.code yX11_chart cX11_chart 3 ((some .int)) :: GT) ({ frames := 8, cells := 1, slots := 6, locals := 141 }) (mx_Pre G ad NF TF FF M L [.ref (ad 0), .int a1, .int a2]) (mw_Qi G ad NF TF FF (mx_eqI z0 M0 L0)) (mx_XC G ad NF TF FF z0.1 M0 L0) 1 6 (mw_fr G) := by
  refine mx_enter (by decide) (Nat.le_of_ble_eq_true rfl) ?_
  intro p e s m below meth c ls C KX hr hlocks hex hw hl
  have hw0 := hw
  have hl : lv_has ls 3 [(0, .ref (ad 0)), (1, .int a1), (2, .int a2)] := hl
  have hb28 : ∀ (M : mwM) (L : mwL) (H : Heap) (locs : List Loc) (ls : Array Slot), fX11_chart_b28 fu a1 a2 M L = some (z0, M0, L0) → mw_W G ad NF TF FF M L H locs → lv_has ls 3 [] → W p l e ({ frames := 8, cells := 1, slots := 6, locals := 141 }) s m [.ref (ad 0), .int a1, .int a2].toArray below meth c H locs 0 0 (vx_MQ below (mw_Qi G ad NF TF FF (mx_eqI z0 M0 L0)) (mx_XC G ad NF TF FF z0.1 M0 L0) [.ref (ad 0), .int a1, .int a2].toArray s 1 6 (mw_fr G)) (F0 m 28 ls []) := by
    intro M L H locs ls hD hw hl
    unfold fX11_chart_b28 at hD
    exact mx_throwS (k := 2) (ik := 44) (is := 231) (ic := 48) hst C KX hw0 hw hex hlocks (by decide) wd_773 wd_25 (List.mem_of_getElem? (i := 23) rfl) mx_at_2_48 hl.1 dX11_chart_28 dX11_chart_31 dX11_chart_32 dX11_chart_34 dX11_chart_37 (Nat.le_of_ble_eq_true rfl) (Nat.le_of_ble_eq_true rfl) (Nat.le_of_ble_eq_true rfl) (Nat.le_of_ble_eq_true rfl) (mx_zI hD (by decide)) (Nat.le_of_ble_eq_true rfl) (Nat.le_of_ble_eq_true rfl)
  unfold DX11_chart at hD
  refine lv_aload_n C.1.1 C.1.2.1 dX11_chart_0 rfl (lv_at hl 0 rfl) ?_
  refine lv_iload_n C.1.1 C.1.2.1 dX11_chart_1 rfl (lv_at hl 1 rfl) ?_
  obtain ⟨r3, M1, L2, h1, hD⟩ := g_b3 hD
  refine md_cvI (As := [.int a1]) (rest := []) C hw (tX11_hasChart l G ad fu a1 M L h1) kc_11 (by decide) tf_0 wd_1859 cwX11_hasChart ⟨Nat.le_of_ble_eq_true rfl, Nat.le_of_ble_eq_true rfl⟩ rfl hl.1 (Nat.le_of_ble_eq_true rfl) dX11_chart_2 rfl rfl ⟨Nat.zero_le _, Nat.zero_le _⟩ rfl (fun H locs hw => ?_)
  refine lv_if_ne (tgt := 18) C.1.1 C.1.2.1 dX11_chart_5 (by decide) (fun c4 => ?_) (fun c4 => ?_)
  · replace hD := g_neg c4 hD
    refine lv_iload_n C.1.1 C.1.2.1 dX11_chart_18 rfl (lv_at hl 2 rfl) ?_
    refine lv_if_lt (tgt := 28) C.1.1 C.1.2.1 dX11_chart_19 (by decide) (fun c5 => ?_) (fun c5 => ?_)
    · replace hD := g_pos c5 hD
      exact hb28 M1 L2 _ _ ls hD hw (lv_sub hl [] rfl)
    · replace hD := g_neg c5 hD
      refine lv_iload_n C.1.1 C.1.2.1 dX11_chart_22 rfl (lv_at hl 2 rfl) ?_
      refine lv_bipush (v := 7) C.1.1 C.1.2.1 dX11_chart_23 (by decide) ?_
      refine lv_icmp_le (tgt := 38) C.1.1 C.1.2.1 dX11_chart_25 (by decide) (fun c6 => ?_) (fun c6 => ?_)
      · replace hD := g_pos c6 hD
        refine lv_iload_n C.1.1 C.1.2.1 dX11_chart_38 rfl (lv_at hl 2 rfl) ?_
        obtain ⟨x7, ex7, hD⟩ := g_let hD
        refine W.eq (g2 := F0 m 39 ls (.int x7 :: [])) (by rw [ex7]) ?_
        by_cases c8 : x7 = 0
        · replace hD := g_pos c8 hD
          refine lv_tableIn (tgt := 64) C.1.1 C.1.2.1 dX11_chart_39 (by rw [c8]; decide) (by rw [c8]; decide) (off := 25) (by rw [c8]; decide) (by decide) ?_
          refine lv_aload_n C.1.1 C.1.2.1 dX11_chart_64 rfl (lv_at hl 0 rfl) ?_
          refine mr_getR C hw kc_11 1 (by decide) tf_0 ff_0_1 wd_641 dX11_chart_65 (by decide) rfl ?_
          refine mr_getNR C hw kc_1 0 (by decide) tf_3 ff_3_0 nd_513 dX11_chart_68 (by decide) rfl ?_
          refine lv_iload_n C.1.1 C.1.2.1 dX11_chart_71 rfl (lv_at hl 1 rfl) ?_
          obtain ⟨q9, hD⟩ := g_ck hD
          refine mr_aald C hw (by decide) tf_4 (by decide) (by decide) rfl rfl q9 (fr_4 _ (g_lt q9)) dX11_chart_72 ?_
          refine mr_getNI C hw kc_2 14 (Ch_N0 (isCh_of (g_lt q9))) (Ch_T0 (isCh_of (g_lt q9))) nd_470 dX11_chart_73 (by decide) rfl ?_
          refine W.widen (k := 1) (n := 6) (Nat.le_of_ble_eq_true rfl) (Nat.le_of_ble_eq_true rfl) ?_
          exact vx_ret (mr_iret C hr hlocks hw rfl (Option.some.inj hD) dX11_chart_76)
        replace hD := g_neg c8 hD
        by_cases c10 : x7 = 1
        · replace hD := g_pos c10 hD
          refine lv_tableIn (tgt := 77) C.1.1 C.1.2.1 dX11_chart_39 (by rw [c10]; decide) (by rw [c10]; decide) (off := 38) (by rw [c10]; decide) (by decide) ?_
          refine lv_aload_n C.1.1 C.1.2.1 dX11_chart_77 rfl (lv_at hl 0 rfl) ?_
          refine mr_getR C hw kc_11 1 (by decide) tf_0 ff_0_1 wd_641 dX11_chart_78 (by decide) rfl ?_
          refine mr_getNR C hw kc_1 0 (by decide) tf_3 ff_3_0 nd_513 dX11_chart_81 (by decide) rfl ?_
          refine lv_iload_n C.1.1 C.1.2.1 dX11_chart_84 rfl (lv_at hl 1 rfl) ?_
          obtain ⟨q11, hD⟩ := g_ck hD
          refine mr_aald C hw (by decide) tf_4 (by decide) (by decide) rfl rfl q11 (fr_4 _ (g_lt q11)) dX11_chart_85 ?_
          refine mr_getNI C hw kc_2 11 (Ch_N0 (isCh_of (g_lt q11))) (Ch_T0 (isCh_of (g_lt q11))) nd_465 dX11_chart_86 (by decide) rfl ?_
          refine W.widen (k := 1) (n := 6) (Nat.le_of_ble_eq_true rfl) (Nat.le_of_ble_eq_true rfl) ?_
          exact vx_ret (mr_iret C hr hlocks hw rfl (Option.some.inj hD) dX11_chart_89)
        replace hD := g_neg c10 hD
        by_cases c12 : x7 = 2
        · replace hD := g_pos c12 hD
          refine lv_tableIn (tgt := 90) C.1.1 C.1.2.1 dX11_chart_39 (by rw [c12]; decide) (by rw [c12]; decide) (off := 51) (by rw [c12]; decide) (by decide) ?_
          refine lv_aload_n C.1.1 C.1.2.1 dX11_chart_90 rfl (lv_at hl 0 rfl) ?_
          refine mr_getR C hw kc_11 1 (by decide) tf_0 ff_0_1 wd_641 dX11_chart_91 (by decide) rfl ?_
          refine mr_getNR C hw kc_1 0 (by decide) tf_3 ff_3_0 nd_513 dX11_chart_94 (by decide) rfl ?_
          refine lv_iload_n C.1.1 C.1.2.1 dX11_chart_97 rfl (lv_at hl 1 rfl) ?_
          obtain ⟨q13, hD⟩ := g_ck hD
          refine mr_aald C hw (by decide) tf_4 (by decide) (by decide) rfl rfl q13 (fr_4 _ (g_lt q13)) dX11_chart_98 ?_
          refine mr_getNI C hw kc_2 13 (Ch_N0 (isCh_of (g_lt q13))) (Ch_T0 (isCh_of (g_lt q13))) nd_468 dX11_chart_99 (by decide) rfl ?_
          refine W.widen (k := 1) (n := 6) (Nat.le_of_ble_eq_true rfl) (Nat.le_of_ble_eq_true rfl) ?_
          exact vx_ret (mr_iret C hr hlocks hw rfl (Option.some.inj hD) dX11_chart_102)
        replace hD := g_neg c12 hD
        have nc8 : ¬ x7.toInt = 0 := fun q => c8 (Int32.toInt_inj.mp (q.trans (by decide)))
        have nc10 : ¬ x7.toInt = 1 := fun q => c10 (Int32.toInt_inj.mp (q.trans (by decide)))
        have nc12 : ¬ x7.toInt = 2 := fun q => c12 (Int32.toInt_inj.mp (q.trans (by decide)))
        refine lv_tableOut (tgt := 103) C.1.1 C.1.2.1 dX11_chart_39 (by omega) (by decide) ?_
        refine lv_aload_n C.1.1 C.1.2.1 dX11_chart_103 rfl (lv_at hl 0 rfl) ?_
        refine mr_getR C hw kc_11 1 (by decide) tf_0 ff_0_1 wd_641 dX11_chart_104 (by decide) rfl ?_
        refine mr_getNR C hw kc_1 0 (by decide) tf_3 ff_3_0 nd_513 dX11_chart_107 (by decide) rfl ?_
        refine lv_iload_n C.1.1 C.1.2.1 dX11_chart_110 rfl (lv_at hl 1 rfl) ?_
        obtain ⟨q14, hD⟩ := g_ck hD
        refine mr_aald C hw (by decide) tf_4 (by decide) (by decide) rfl rfl q14 (fr_4 _ (g_lt q14)) dX11_chart_111 ?_
        refine lv_iload_n C.1.1 C.1.2.1 dX11_chart_112 rfl (lv_at hl 2 rfl) ?_
        refine lv_iconst (v := 3) C.1.1 C.1.2.1 dX11_chart_113 (by decide) ?_
        refine lv_isub C.1.1 C.1.2.1 dX11_chart_114 ?_
        obtain ⟨r17, M15, L16, h1, hD⟩ := g_b3 hD
        refine md_cvI (As := [.int (a2 - 3)]) (rest := []) C hw (tX2_covered l G ad fu ((293 + 36 * a1.toNatClampNeg)) (a2 - 3) M1 L2 h1 (isCh_of (g_lt q14))) kc_2 (Ch_N0 (isCh_of (g_lt q14))) (Ch_T0 (isCh_of (g_lt q14))) wd_1885 cwX2_covered ⟨Nat.le_of_ble_eq_true rfl, Nat.le_of_ble_eq_true rfl⟩ rfl hl.1 (Nat.le_of_ble_eq_true rfl) dX11_chart_115 rfl rfl ⟨Nat.zero_le _, Nat.zero_le _⟩ rfl (fun H locs hw => ?_)
        refine W.widen (k := 1) (n := 6) (Nat.le_of_ble_eq_true rfl) (Nat.le_of_ble_eq_true rfl) ?_
        exact vx_ret (mr_iret C hr hlocks hw rfl (Option.some.inj hD) dX11_chart_118)
      · replace hD := g_neg c6 hD
        exact hb28 M1 L2 _ _ ls hD hw (lv_sub hl [] rfl)
  · replace hD := g_pos c4 hD
    exact mx_throwS (k := 3) (ik := 117) (is := 229) (ic := 121) hst C KX hw0 hw hex hlocks (by decide) wd_1253 wd_31 (List.mem_of_getElem? (i := 22) rfl) mx_at_3_121 hl.1 dX11_chart_8 dX11_chart_11 dX11_chart_12 dX11_chart_14 dX11_chart_17 (Nat.le_of_ble_eq_true rfl) (Nat.le_of_ble_eq_true rfl) (Nat.le_of_ble_eq_true rfl) (Nat.le_of_ble_eq_true rfl) (mx_zI hD (by decide)) (Nat.le_of_ble_eq_true rfl) (Nat.le_of_ble_eq_true rfl)

theorem dX11_trouble_0 : decode cX11_trouble 0 = .ok (.aload_n 0, 1) := by decide +kernel
theorem dX11_trouble_1 : decode cX11_trouble 1 = .ok (.getfield 65, 3) := by decide +kernel
theorem dX11_trouble_4 : decode cX11_trouble 4 = .ok (.ifCond .eq 21, 3) := by decide +kernel
theorem dX11_trouble_7 : decode cX11_trouble 7 = .ok (.iload_n 1, 1) := by decide +kernel
theorem dX11_trouble_8 : decode cX11_trouble 8 = .ok (.ifCond .lt 17, 3) := by decide +kernel
theorem dX11_trouble_11 : decode cX11_trouble 11 = .ok (.iload_n 1, 1) := by decide +kernel
theorem dX11_trouble_12 : decode cX11_trouble 12 = .ok (.aload_n 0, 1) := by decide +kernel
theorem dX11_trouble_13 : decode cX11_trouble 13 = .ok (.getfield 20, 3) := by decide +kernel
theorem dX11_trouble_16 : decode cX11_trouble 16 = .ok (.getfield 108, 3) := by decide +kernel
theorem dX11_trouble_19 : decode cX11_trouble 19 = .ok (.getfield 112, 3) := by decide +kernel
theorem dX11_trouble_22 : decode cX11_trouble 22 = .ok (.if_icmp .lt 13, 3) := by decide +kernel
theorem dX11_trouble_25 : decode cX11_trouble 25 = .ok (.new 117, 3) := by decide +kernel
theorem dX11_trouble_28 : decode cX11_trouble 28 = .ok (.dup, 1) := by decide +kernel
theorem dX11_trouble_29 : decode cX11_trouble 29 = .ok (.ldc 245, 2) := by decide +kernel
theorem dX11_trouble_31 : decode cX11_trouble 31 = .ok (.invokespecial 121, 3) := by decide +kernel
theorem dX11_trouble_34 : decode cX11_trouble 34 = .ok (.athrow, 1) := by decide +kernel
theorem dX11_trouble_35 : decode cX11_trouble 35 = .ok (.iload_n 2, 1) := by decide +kernel
theorem dX11_trouble_36 : decode cX11_trouble 36 = .ok (.ifCond .lt 8, 3) := by decide +kernel
theorem dX11_trouble_39 : decode cX11_trouble 39 = .ok (.iload_n 2, 1) := by decide +kernel
theorem dX11_trouble_40 : decode cX11_trouble 40 = .ok (.iconst 4, 1) := by decide +kernel
theorem dX11_trouble_41 : decode cX11_trouble 41 = .ok (.if_icmp .le 13, 3) := by decide +kernel
theorem dX11_trouble_44 : decode cX11_trouble 44 = .ok (.new 44, 3) := by decide +kernel
theorem dX11_trouble_47 : decode cX11_trouble 47 = .ok (.dup, 1) := by decide +kernel
theorem dX11_trouble_48 : decode cX11_trouble 48 = .ok (.ldc 247, 2) := by decide +kernel
theorem dX11_trouble_50 : decode cX11_trouble 50 = .ok (.invokespecial 48, 3) := by decide +kernel
theorem dX11_trouble_53 : decode cX11_trouble 53 = .ok (.athrow, 1) := by decide +kernel
theorem dX11_trouble_54 : decode cX11_trouble 54 = .ok (.aload_n 0, 1) := by decide +kernel
theorem dX11_trouble_55 : decode cX11_trouble 55 = .ok (.getfield 20, 3) := by decide +kernel
theorem dX11_trouble_58 : decode cX11_trouble 58 = .ok (.getfield 108, 3) := by decide +kernel
theorem dX11_trouble_61 : decode cX11_trouble 61 = .ok (.iload_n 1, 1) := by decide +kernel
theorem dX11_trouble_62 : decode cX11_trouble 62 = .ok (.iload_n 2, 1) := by decide +kernel
theorem dX11_trouble_63 : decode cX11_trouble 63 = .ok (.invokevirtual 249, 3) := by decide +kernel
theorem dX11_trouble_66 : decode cX11_trouble 66 = .ok (.ireturn, 1) := by decide +kernel
theorem cwX11_trouble : mw_cwV yX11_trouble cX11_trouble 3 ((some .int)) 2 := ⟨⟨wd_1, wd_1895, by decide +kernel⟩, wd_1893, wd_1894⟩
set_option maxHeartbeats 4000000 in
set_option maxRecDepth 100000 in
theorem tX11_trouble (l : Launch) (G : mwG) (ad : Nat → Nat) (fu : Nat) (a1 : Int32) (a2 : Int32) (M : mwM) (L : mwL) {z0 : Nat × Int32} {M0 : mwM} {L0 : mwL} (hst : l.stackTraces = false) (hD : DX11_trouble fu a1 a2 M L = some (z0, M0, L0)) : vx_Met l yX11_trouble (Cond.code yX11_trouble cX11_trouble 3 ((some .int)) :: GT) ({ frames := 8, cells := 1, slots := 6, locals := 141 }) (mx_Pre G ad NF TF FF M L [.ref (ad 0), .int a1, .int a2]) (mw_Qi G ad NF TF FF (mx_eqI z0 M0 L0)) (mx_XC G ad NF TF FF z0.1 M0 L0) 1 6 (mw_fr G) := by
  refine mx_enter (by decide) (Nat.le_of_ble_eq_true rfl) ?_
  intro p e s m below meth c ls C KX hr hlocks hex hw hl
  have hw0 := hw
  have hl : lv_has ls 3 [(0, .ref (ad 0)), (1, .int a1), (2, .int a2)] := hl
  have hb25 : ∀ (M : mwM) (L : mwL) (H : Heap) (locs : List Loc) (ls : Array Slot), fX11_trouble_b25 fu a1 a2 M L = some (z0, M0, L0) → mw_W G ad NF TF FF M L H locs → lv_has ls 3 [] → W p l e ({ frames := 8, cells := 1, slots := 6, locals := 141 }) s m [.ref (ad 0), .int a1, .int a2].toArray below meth c H locs 0 0 (vx_MQ below (mw_Qi G ad NF TF FF (mx_eqI z0 M0 L0)) (mx_XC G ad NF TF FF z0.1 M0 L0) [.ref (ad 0), .int a1, .int a2].toArray s 1 6 (mw_fr G)) (F0 m 25 ls []) := by
    intro M L H locs ls hD hw hl
    unfold fX11_trouble_b25 at hD
    exact mx_throwS (k := 3) (ik := 117) (is := 245) (ic := 121) hst C KX hw0 hw hex hlocks (by decide) wd_1253 wd_31 (List.mem_of_getElem? (i := 24) rfl) mx_at_3_121 hl.1 dX11_trouble_25 dX11_trouble_28 dX11_trouble_29 dX11_trouble_31 dX11_trouble_34 (Nat.le_of_ble_eq_true rfl) (Nat.le_of_ble_eq_true rfl) (Nat.le_of_ble_eq_true rfl) (Nat.le_of_ble_eq_true rfl) (mx_zI hD (by decide)) (Nat.le_of_ble_eq_true rfl) (Nat.le_of_ble_eq_true rfl)
  have hb44 : ∀ (M : mwM) (L : mwL) (H : Heap) (locs : List Loc) (ls : Array Slot), fX11_trouble_b44 fu a1 a2 M L = some (z0, M0, L0) → mw_W G ad NF TF FF M L H locs → lv_has ls 3 [] → W p l e ({ frames := 8, cells := 1, slots := 6, locals := 141 }) s m [.ref (ad 0), .int a1, .int a2].toArray below meth c H locs 0 0 (vx_MQ below (mw_Qi G ad NF TF FF (mx_eqI z0 M0 L0)) (mx_XC G ad NF TF FF z0.1 M0 L0) [.ref (ad 0), .int a1, .int a2].toArray s 1 6 (mw_fr G)) (F0 m 44 ls []) := by
    intro M L H locs ls hD hw hl
    unfold fX11_trouble_b44 at hD
    exact mx_throwS (k := 2) (ik := 44) (is := 247) (ic := 48) hst C KX hw0 hw hex hlocks (by decide) wd_773 wd_25 (List.mem_of_getElem? (i := 25) rfl) mx_at_2_48 hl.1 dX11_trouble_44 dX11_trouble_47 dX11_trouble_48 dX11_trouble_50 dX11_trouble_53 (Nat.le_of_ble_eq_true rfl) (Nat.le_of_ble_eq_true rfl) (Nat.le_of_ble_eq_true rfl) (Nat.le_of_ble_eq_true rfl) (mx_zI hD (by decide)) (Nat.le_of_ble_eq_true rfl) (Nat.le_of_ble_eq_true rfl)
  unfold DX11_trouble at hD
  refine lv_aload_n C.1.1 C.1.2.1 dX11_trouble_0 rfl (lv_at hl 0 rfl) ?_
  refine mr_getI C hw kc_11 5 (by decide) tf_0 wd_645 dX11_trouble_1 (by decide) rfl ?_
  refine lv_if_eq (tgt := 25) C.1.1 C.1.2.1 dX11_trouble_4 (by decide) (fun c1 => ?_) (fun c1 => ?_)
  · replace hD := g_pos c1 hD
    exact hb25 M L _ _ ls hD hw (lv_sub hl [] rfl)
  · replace hD := g_neg c1 hD
    refine lv_iload_n C.1.1 C.1.2.1 dX11_trouble_7 rfl (lv_at hl 1 rfl) ?_
    refine lv_if_lt (tgt := 25) C.1.1 C.1.2.1 dX11_trouble_8 (by decide) (fun c2 => ?_) (fun c2 => ?_)
    · replace hD := g_pos c2 hD
      exact hb25 M L _ _ ls hD hw (lv_sub hl [] rfl)
    · replace hD := g_neg c2 hD
      refine lv_iload_n C.1.1 C.1.2.1 dX11_trouble_11 rfl (lv_at hl 1 rfl) ?_
      refine lv_aload_n C.1.1 C.1.2.1 dX11_trouble_12 rfl (lv_at hl 0 rfl) ?_
      refine mr_getR C hw kc_11 1 (by decide) tf_0 ff_0_1 wd_641 dX11_trouble_13 (by decide) rfl ?_
      refine mr_getNR C hw kc_1 5 (by decide) tf_3 ff_3_5 nd_526 dX11_trouble_16 (by decide) rfl ?_
      refine mr_getNI C hw kc_10 2 (by decide) tf_139 nd_332 dX11_trouble_19 (by decide) rfl ?_
      refine lv_icmp_lt (tgt := 35) C.1.1 C.1.2.1 dX11_trouble_22 (by decide) (fun c3 => ?_) (fun c3 => ?_)
      · replace hD := g_pos c3 hD
        refine lv_iload_n C.1.1 C.1.2.1 dX11_trouble_35 rfl (lv_at hl 2 rfl) ?_
        refine lv_if_lt (tgt := 44) C.1.1 C.1.2.1 dX11_trouble_36 (by decide) (fun c4 => ?_) (fun c4 => ?_)
        · replace hD := g_pos c4 hD
          exact hb44 M L _ _ ls hD hw (lv_sub hl [] rfl)
        · replace hD := g_neg c4 hD
          refine lv_iload_n C.1.1 C.1.2.1 dX11_trouble_39 rfl (lv_at hl 2 rfl) ?_
          refine lv_iconst (v := 4) C.1.1 C.1.2.1 dX11_trouble_40 (by decide) ?_
          refine lv_icmp_le (tgt := 54) C.1.1 C.1.2.1 dX11_trouble_41 (by decide) (fun c5 => ?_) (fun c5 => ?_)
          · replace hD := g_pos c5 hD
            refine lv_aload_n C.1.1 C.1.2.1 dX11_trouble_54 rfl (lv_at hl 0 rfl) ?_
            refine mr_getR C hw kc_11 1 (by decide) tf_0 ff_0_1 wd_641 dX11_trouble_55 (by decide) rfl ?_
            refine mr_getNR C hw kc_1 5 (by decide) tf_3 ff_3_5 nd_526 dX11_trouble_58 (by decide) rfl ?_
            refine lv_iload_n C.1.1 C.1.2.1 dX11_trouble_61 rfl (lv_at hl 1 rfl) ?_
            refine lv_iload_n C.1.1 C.1.2.1 dX11_trouble_62 rfl (lv_at hl 2 rfl) ?_
            obtain ⟨r8, M6, L7, h1, hD⟩ := g_b3 hD
            refine md_cvI (As := [.int a1, .int a2]) (rest := []) C hw (tX10_tell l G ad fu a1 a2 M L h1) kc_10 (by decide) tf_139 wd_1898 cwX10_tell ⟨Nat.le_of_ble_eq_true rfl, Nat.le_of_ble_eq_true rfl⟩ rfl hl.1 (Nat.le_of_ble_eq_true rfl) dX11_trouble_63 rfl rfl ⟨Nat.zero_le _, Nat.zero_le _⟩ rfl (fun H locs hw => ?_)
            refine W.widen (k := 1) (n := 6) (Nat.le_of_ble_eq_true rfl) (Nat.le_of_ble_eq_true rfl) ?_
            exact vx_ret (mr_iret C hr hlocks hw rfl (Option.some.inj hD) dX11_trouble_66)
          · replace hD := g_neg c5 hD
            exact hb44 M L _ _ ls hD hw (lv_sub hl [] rfl)
      · replace hD := g_neg c3 hD
        exact hb25 M L _ _ ls hD hw (lv_sub hl [] rfl)

theorem dX11_cycle_0 : decode cX11_cycle 0 = .ok (.aload_n 0, 1) := by decide +kernel
theorem dX11_cycle_1 : decode cX11_cycle 1 = .ok (.getfield 65, 3) := by decide +kernel
theorem dX11_cycle_4 : decode cX11_cycle 4 = .ok (.ifCond .ne 13, 3) := by decide +kernel
theorem dX11_cycle_7 : decode cX11_cycle 7 = .ok (.new 33, 3) := by decide +kernel
theorem dX11_cycle_10 : decode cX11_cycle 10 = .ok (.dup, 1) := by decide +kernel
theorem dX11_cycle_11 : decode cX11_cycle 11 = .ok (.ldc 77, 2) := by decide +kernel
theorem dX11_cycle_13 : decode cX11_cycle 13 = .ok (.invokespecial 37, 3) := by decide +kernel
theorem dX11_cycle_16 : decode cX11_cycle 16 = .ok (.athrow, 1) := by decide +kernel
theorem dX11_cycle_17 : decode cX11_cycle 17 = .ok (.aload_n 0, 1) := by decide +kernel
theorem dX11_cycle_18 : decode cX11_cycle 18 = .ok (.getfield 20, 3) := by decide +kernel
theorem dX11_cycle_21 : decode cX11_cycle 21 = .ok (.getfield 108, 3) := by decide +kernel
theorem dX11_cycle_24 : decode cX11_cycle 24 = .ok (.iload_n 1, 1) := by decide +kernel
theorem dX11_cycle_25 : decode cX11_cycle 25 = .ok (.invokevirtual 252, 3) := by decide +kernel
theorem dX11_cycle_28 : decode cX11_cycle 28 = .ok (.ireturn, 1) := by decide +kernel
theorem cwX11_cycle : mw_cwV yX11_cycle cX11_cycle 2 ((some .int)) 1 := ⟨⟨wd_1, wd_1908, by decide +kernel⟩, wd_1906, wd_1907⟩
set_option maxHeartbeats 4000000 in
set_option maxRecDepth 100000 in
theorem tX11_cycle (l : Launch) (G : mwG) (ad : Nat → Nat) (fu : Nat) (a1 : Int32) (M : mwM) (L : mwL) {z0 : Nat × Int32} {M0 : mwM} {L0 : mwL} (hst : l.stackTraces = false) (hD : DX11_cycle fu a1 M L = some (z0, M0, L0)) : vx_Met l yX11_cycle (Cond.code yX11_cycle cX11_cycle 2 ((some .int)) :: GT) ({ frames := 8, cells := 1, slots := 6, locals := 141 }) (mx_Pre G ad NF TF FF M L [.ref (ad 0), .int a1]) (mw_Qi G ad NF TF FF (mx_eqI z0 M0 L0)) (mx_XC G ad NF TF FF z0.1 M0 L0) 1 6 (mw_fr G) := by
  refine mx_enter (by decide) (Nat.le_of_ble_eq_true rfl) ?_
  intro p e s m below meth c ls C KX hr hlocks hex hw hl
  have hw0 := hw
  have hl : lv_has ls 2 [(0, .ref (ad 0)), (1, .int a1)] := hl
  unfold DX11_cycle at hD
  refine lv_aload_n C.1.1 C.1.2.1 dX11_cycle_0 rfl (lv_at hl 0 rfl) ?_
  refine mr_getI C hw kc_11 5 (by decide) tf_0 wd_645 dX11_cycle_1 (by decide) rfl ?_
  refine lv_if_ne (tgt := 17) C.1.1 C.1.2.1 dX11_cycle_4 (by decide) (fun c1 => ?_) (fun c1 => ?_)
  · replace hD := g_neg c1 hD
    refine lv_aload_n C.1.1 C.1.2.1 dX11_cycle_17 rfl (lv_at hl 0 rfl) ?_
    refine mr_getR C hw kc_11 1 (by decide) tf_0 ff_0_1 wd_641 dX11_cycle_18 (by decide) rfl ?_
    refine mr_getNR C hw kc_1 5 (by decide) tf_3 ff_3_5 nd_526 dX11_cycle_21 (by decide) rfl ?_
    refine lv_iload_n C.1.1 C.1.2.1 dX11_cycle_24 rfl (lv_at hl 1 rfl) ?_
    obtain ⟨r4, M2, L3, h1, hD⟩ := g_b3 hD
    refine md_cvI (As := [.int a1]) (rest := []) C hw (tX10_endCycle l G ad fu a1 M L h1) kc_10 (by decide) tf_139 wd_1909 cwX10_endCycle ⟨Nat.le_of_ble_eq_true rfl, Nat.le_of_ble_eq_true rfl⟩ rfl hl.1 (Nat.le_of_ble_eq_true rfl) dX11_cycle_25 rfl rfl ⟨Nat.zero_le _, Nat.zero_le _⟩ rfl (fun H locs hw => ?_)
    refine W.widen (k := 1) (n := 6) (Nat.le_of_ble_eq_true rfl) (Nat.le_of_ble_eq_true rfl) ?_
    exact vx_ret (mr_iret C hr hlocks hw rfl (Option.some.inj hD) dX11_cycle_28)
  · replace hD := g_pos c1 hD
    exact mx_throwS (k := 1) (ik := 33) (is := 77) (ic := 37) hst C KX hw0 hw hex hlocks (by decide) wd_694 wd_24 (List.mem_of_getElem? (i := 4) rfl) mx_at_1_37 hl.1 dX11_cycle_7 dX11_cycle_10 dX11_cycle_11 dX11_cycle_13 dX11_cycle_16 (Nat.le_of_ble_eq_true rfl) (Nat.le_of_ble_eq_true rfl) (Nat.le_of_ble_eq_true rfl) (Nat.le_of_ble_eq_true rfl) (mx_zI hD (by decide)) (Nat.le_of_ble_eq_true rfl) (Nat.le_of_ble_eq_true rfl)

theorem dX11_counted_0 : decode cX11_counted 0 = .ok (.iload_n 1, 1) := by decide +kernel
theorem dX11_counted_1 : decode cX11_counted 1 = .ok (.ifCond .lt 8, 3) := by decide +kernel
theorem dX11_counted_4 : decode cX11_counted 4 = .ok (.iload_n 1, 1) := by decide +kernel
theorem dX11_counted_5 : decode cX11_counted 5 = .ok (.iconst 4, 1) := by decide +kernel
theorem dX11_counted_6 : decode cX11_counted 6 = .ok (.if_icmp .le 14, 3) := by decide +kernel
theorem dX11_counted_9 : decode cX11_counted 9 = .ok (.new 44, 3) := by decide +kernel
theorem dX11_counted_12 : decode cX11_counted 12 = .ok (.dup, 1) := by decide +kernel
theorem dX11_counted_13 : decode cX11_counted 13 = .ok (.ldc_w 256, 3) := by decide +kernel
theorem dX11_counted_16 : decode cX11_counted 16 = .ok (.invokespecial 48, 3) := by decide +kernel
theorem dX11_counted_19 : decode cX11_counted 19 = .ok (.athrow, 1) := by decide +kernel
theorem dX11_counted_20 : decode cX11_counted 20 = .ok (.aload_n 0, 1) := by decide +kernel
theorem dX11_counted_21 : decode cX11_counted 21 = .ok (.getfield 65, 3) := by decide +kernel
theorem dX11_counted_24 : decode cX11_counted 24 = .ok (.ifCond .eq 15, 3) := by decide +kernel
theorem dX11_counted_27 : decode cX11_counted 27 = .ok (.aload_n 0, 1) := by decide +kernel
theorem dX11_counted_28 : decode cX11_counted 28 = .ok (.getfield 20, 3) := by decide +kernel
theorem dX11_counted_31 : decode cX11_counted 31 = .ok (.getfield 258, 3) := by decide +kernel
theorem dX11_counted_34 : decode cX11_counted 34 = .ok (.iload_n 1, 1) := by decide +kernel
theorem dX11_counted_35 : decode cX11_counted 35 = .ok (.iaload, 1) := by decide +kernel
theorem dX11_counted_36 : decode cX11_counted 36 = .ok (.goto 4, 3) := by decide +kernel
theorem dX11_counted_39 : decode cX11_counted 39 = .ok (.iconst 0, 1) := by decide +kernel
theorem dX11_counted_40 : decode cX11_counted 40 = .ok (.ireturn, 1) := by decide +kernel
theorem cwX11_counted : mw_cwV yX11_counted cX11_counted 2 ((some .int)) 1 := ⟨⟨wd_1, wd_1923, by decide +kernel⟩, wd_1921, wd_1922⟩
set_option maxHeartbeats 4000000 in
set_option maxRecDepth 100000 in
theorem tX11_counted (l : Launch) (G : mwG) (ad : Nat → Nat) (fu : Nat) (a1 : Int32) (M : mwM) (L : mwL) {z0 : Nat × Int32} {M0 : mwM} {L0 : mwL} (hst : l.stackTraces = false) (hD : DX11_counted fu a1 M L = some (z0, M0, L0)) : vx_Met l yX11_counted (Cond.code yX11_counted cX11_counted 2 ((some .int)) :: GT) ({ frames := 8, cells := 1, slots := 6, locals := 141 }) (mx_Pre G ad NF TF FF M L [.ref (ad 0), .int a1]) (mw_Qi G ad NF TF FF (mx_eqI z0 M0 L0)) (mx_XC G ad NF TF FF z0.1 M0 L0) 1 6 (mw_fr G) := by
  refine mx_enter (by decide) (Nat.le_of_ble_eq_true rfl) ?_
  intro p e s m below meth c ls C KX hr hlocks hex hw hl
  have hw0 := hw
  have hl : lv_has ls 2 [(0, .ref (ad 0)), (1, .int a1)] := hl
  have hb9 : ∀ (M : mwM) (L : mwL) (H : Heap) (locs : List Loc) (ls : Array Slot), fX11_counted_b9 fu a1 M L = some (z0, M0, L0) → mw_W G ad NF TF FF M L H locs → lv_has ls 2 [] → W p l e ({ frames := 8, cells := 1, slots := 6, locals := 141 }) s m [.ref (ad 0), .int a1].toArray below meth c H locs 0 0 (vx_MQ below (mw_Qi G ad NF TF FF (mx_eqI z0 M0 L0)) (mx_XC G ad NF TF FF z0.1 M0 L0) [.ref (ad 0), .int a1].toArray s 1 6 (mw_fr G)) (F0 m 9 ls []) := by
    intro M L H locs ls hD hw hl
    unfold fX11_counted_b9 at hD
    exact mx_throwSW (k := 2) (ik := 44) (is := 256) (ic := 48) hst C KX hw0 hw hex hlocks (by decide) wd_773 wd_25 (List.mem_of_getElem? (i := 26) rfl) mx_at_2_48 hl.1 dX11_counted_9 dX11_counted_12 dX11_counted_13 dX11_counted_16 dX11_counted_19 (Nat.le_of_ble_eq_true rfl) (Nat.le_of_ble_eq_true rfl) (Nat.le_of_ble_eq_true rfl) (Nat.le_of_ble_eq_true rfl) (mx_zI hD (by decide)) (Nat.le_of_ble_eq_true rfl) (Nat.le_of_ble_eq_true rfl)
  have hb40 : ∀ (s0 : Int32) (M : mwM) (L : mwL) (H : Heap) (locs : List Loc) (ls : Array Slot), fX11_counted_b40 fu a1 s0 M L = some (z0, M0, L0) → mw_W G ad NF TF FF M L H locs → lv_has ls 2 [] → W p l e ({ frames := 8, cells := 1, slots := 6, locals := 141 }) s m [.ref (ad 0), .int a1].toArray below meth c H locs 0 0 (vx_MQ below (mw_Qi G ad NF TF FF (mx_eqI z0 M0 L0)) (mx_XC G ad NF TF FF z0.1 M0 L0) [.ref (ad 0), .int a1].toArray s 1 6 (mw_fr G)) (F0 m 40 ls [.int s0]) := by
    intro s0 M L H locs ls hD hw hl
    unfold fX11_counted_b40 at hD
    refine W.widen (k := 1) (n := 6) (Nat.le_of_ble_eq_true rfl) (Nat.le_of_ble_eq_true rfl) ?_
    exact vx_ret (mr_iret C hr hlocks hw rfl (Option.some.inj hD) dX11_counted_40)
  unfold DX11_counted at hD
  refine lv_iload_n C.1.1 C.1.2.1 dX11_counted_0 rfl (lv_at hl 1 rfl) ?_
  refine lv_if_lt (tgt := 9) C.1.1 C.1.2.1 dX11_counted_1 (by decide) (fun c1 => ?_) (fun c1 => ?_)
  · replace hD := g_pos c1 hD
    exact hb9 M L _ _ ls hD hw (lv_sub hl [] rfl)
  · replace hD := g_neg c1 hD
    refine lv_iload_n C.1.1 C.1.2.1 dX11_counted_4 rfl (lv_at hl 1 rfl) ?_
    refine lv_iconst (v := 4) C.1.1 C.1.2.1 dX11_counted_5 (by decide) ?_
    refine lv_icmp_le (tgt := 20) C.1.1 C.1.2.1 dX11_counted_6 (by decide) (fun c2 => ?_) (fun c2 => ?_)
    · replace hD := g_pos c2 hD
      refine lv_aload_n C.1.1 C.1.2.1 dX11_counted_20 rfl (lv_at hl 0 rfl) ?_
      refine mr_getI C hw kc_11 5 (by decide) tf_0 wd_645 dX11_counted_21 (by decide) rfl ?_
      refine lv_if_eq (tgt := 39) C.1.1 C.1.2.1 dX11_counted_24 (by decide) (fun c3 => ?_) (fun c3 => ?_)
      · replace hD := g_pos c3 hD
        refine lv_iconst (v := 0) C.1.1 C.1.2.1 dX11_counted_39 (by decide) ?_
        exact hb40 0 M L _ _ ls hD hw (lv_sub hl [] rfl)
      · replace hD := g_neg c3 hD
        refine lv_aload_n C.1.1 C.1.2.1 dX11_counted_27 rfl (lv_at hl 0 rfl) ?_
        refine mr_getR C hw kc_11 1 (by decide) tf_0 ff_0_1 wd_641 dX11_counted_28 (by decide) rfl ?_
        refine mr_getNR C hw kc_1 12 (by decide) tf_3 ff_3_12 nd_538 dX11_counted_31 (by decide) rfl ?_
        refine lv_iload_n C.1.1 C.1.2.1 dX11_counted_34 rfl (lv_at hl 1 rfl) ?_
        obtain ⟨q4, hD⟩ := g_ck hD
        refine mr_iald C hw (by decide) tf_292 q4 dX11_counted_35 ?_
        refine lv_goto (tgt := 40) C.1.1 C.1.2.1 dX11_counted_36 (by decide) ?_
        exact hb40 (M 292 a1.toNatClampNeg) M L _ _ ls hD hw (lv_sub hl [] rfl)
    · replace hD := g_neg c2 hD
      exact hb9 M L _ _ ls hD hw (lv_sub hl [] rfl)

theorem dX11_ask_0 : decode cX11_ask 0 = .ok (.aload_n 0, 1) := by decide +kernel
theorem dX11_ask_1 : decode cX11_ask 1 = .ok (.getfield 65, 3) := by decide +kernel
theorem dX11_ask_4 : decode cX11_ask 4 = .ok (.ifCond .eq 18, 3) := by decide +kernel
theorem dX11_ask_7 : decode cX11_ask 7 = .ok (.iload_n 1, 1) := by decide +kernel
theorem dX11_ask_8 : decode cX11_ask 8 = .ok (.ifCond .lt 14, 3) := by decide +kernel
theorem dX11_ask_11 : decode cX11_ask 11 = .ok (.iload_n 1, 1) := by decide +kernel
theorem dX11_ask_12 : decode cX11_ask 12 = .ok (.aload_n 0, 1) := by decide +kernel
theorem dX11_ask_13 : decode cX11_ask 13 = .ok (.getfield 20, 3) := by decide +kernel
theorem dX11_ask_16 : decode cX11_ask 16 = .ok (.getfield 79, 3) := by decide +kernel
theorem dX11_ask_19 : decode cX11_ask 19 = .ok (.if_icmp .lt 13, 3) := by decide +kernel
theorem dX11_ask_22 : decode cX11_ask 22 = .ok (.new 117, 3) := by decide +kernel
theorem dX11_ask_25 : decode cX11_ask 25 = .ok (.dup, 1) := by decide +kernel
theorem dX11_ask_26 : decode cX11_ask 26 = .ok (.ldc 184, 2) := by decide +kernel
theorem dX11_ask_28 : decode cX11_ask 28 = .ok (.invokespecial 121, 3) := by decide +kernel
theorem dX11_ask_31 : decode cX11_ask 31 = .ok (.athrow, 1) := by decide +kernel
theorem dX11_ask_32 : decode cX11_ask 32 = .ok (.aload_n 0, 1) := by decide +kernel
theorem dX11_ask_33 : decode cX11_ask 33 = .ok (.getfield 261, 3) := by decide +kernel
theorem dX11_ask_36 : decode cX11_ask 36 = .ok (.ifCond .eq 28, 3) := by decide +kernel
theorem dX11_ask_39 : decode cX11_ask 39 = .ok (.aload_n 0, 1) := by decide +kernel
theorem dX11_ask_40 : decode cX11_ask 40 = .ok (.getfield 20, 3) := by decide +kernel
theorem dX11_ask_43 : decode cX11_ask 43 = .ok (.getfield 264, 3) := by decide +kernel
theorem dX11_ask_46 : decode cX11_ask 46 = .ok (.ifCond .ge 18, 3) := by decide +kernel
theorem dX11_ask_49 : decode cX11_ask 49 = .ok (.aload_n 0, 1) := by decide +kernel
theorem dX11_ask_50 : decode cX11_ask 50 = .ok (.getfield 20, 3) := by decide +kernel
theorem dX11_ask_53 : decode cX11_ask 53 = .ok (.getfield 267, 3) := by decide +kernel
theorem dX11_ask_56 : decode cX11_ask 56 = .ok (.getfield 271, 3) := by decide +kernel
theorem dX11_ask_59 : decode cX11_ask 59 = .ok (.bipush 99, 2) := by decide +kernel
theorem dX11_ask_61 : decode cX11_ask 61 = .ok (.if_icmp .lt 14, 3) := by decide +kernel
theorem dX11_ask_64 : decode cX11_ask 64 = .ok (.new 33, 3) := by decide +kernel
theorem dX11_ask_67 : decode cX11_ask 67 = .ok (.dup, 1) := by decide +kernel
theorem dX11_ask_68 : decode cX11_ask 68 = .ok (.ldc_w 276, 3) := by decide +kernel
theorem dX11_ask_71 : decode cX11_ask 71 = .ok (.invokespecial 37, 3) := by decide +kernel
theorem dX11_ask_74 : decode cX11_ask 74 = .ok (.athrow, 1) := by decide +kernel
theorem dX11_ask_75 : decode cX11_ask 75 = .ok (.aload_n 0, 1) := by decide +kernel
theorem dX11_ask_76 : decode cX11_ask 76 = .ok (.getfield 20, 3) := by decide +kernel
theorem dX11_ask_79 : decode cX11_ask 79 = .ok (.getfield 267, 3) := by decide +kernel
theorem dX11_ask_82 : decode cX11_ask 82 = .ok (.iload_n 1, 1) := by decide +kernel
theorem dX11_ask_83 : decode cX11_ask 83 = .ok (.iconst 1, 1) := by decide +kernel
theorem dX11_ask_84 : decode cX11_ask 84 = .ok (.aload_n 0, 1) := by decide +kernel
theorem dX11_ask_85 : decode cX11_ask 85 = .ok (.getfield 21, 3) := by decide +kernel
theorem dX11_ask_88 : decode cX11_ask 88 = .ok (.aload_n 0, 1) := by decide +kernel
theorem dX11_ask_89 : decode cX11_ask 89 = .ok (.getfield 261, 3) := by decide +kernel
theorem dX11_ask_92 : decode cX11_ask 92 = .ok (.invokevirtual 278, 3) := by decide +kernel
theorem dX11_ask_95 : decode cX11_ask 95 = .ok (.aload_n 0, 1) := by decide +kernel
theorem dX11_ask_96 : decode cX11_ask 96 = .ok (.getfield 20, 3) := by decide +kernel
theorem dX11_ask_99 : decode cX11_ask 99 = .ok (.iload_n 1, 1) := by decide +kernel
theorem dX11_ask_100 : decode cX11_ask 100 = .ok (.putfield 264, 3) := by decide +kernel
theorem dX11_ask_103 : decode cX11_ask 103 = .ok (.aload_n 0, 1) := by decide +kernel
theorem dX11_ask_104 : decode cX11_ask 104 = .ok (.getfield 20, 3) := by decide +kernel
theorem dX11_ask_107 : decode cX11_ask 107 = .ok (.iconst 0, 1) := by decide +kernel
theorem dX11_ask_108 : decode cX11_ask 108 = .ok (.putfield 282, 3) := by decide +kernel
theorem dX11_ask_111 : decode cX11_ask 111 = .ok (.aload_n 0, 1) := by decide +kernel
theorem dX11_ask_112 : decode cX11_ask 112 = .ok (.getfield 261, 3) := by decide +kernel
theorem dX11_ask_115 : decode cX11_ask 115 = .ok (.istore_n 2, 1) := by decide +kernel
theorem dX11_ask_116 : decode cX11_ask 116 = .ok (.aload_n 0, 1) := by decide +kernel
theorem dX11_ask_117 : decode cX11_ask 117 = .ok (.iconst 0, 1) := by decide +kernel
theorem dX11_ask_118 : decode cX11_ask 118 = .ok (.putfield 261, 3) := by decide +kernel
theorem dX11_ask_121 : decode cX11_ask 121 = .ok (.iload_n 2, 1) := by decide +kernel
theorem dX11_ask_122 : decode cX11_ask 122 = .ok (.ireturn, 1) := by decide +kernel
theorem cwX11_ask : mw_cwV yX11_ask cX11_ask 3 ((some .int)) 1 := ⟨⟨wd_1, wd_1931, by decide +kernel⟩, wd_1929, wd_1930⟩
set_option maxHeartbeats 4000000 in
set_option maxRecDepth 100000 in
theorem tX11_ask (l : Launch) (G : mwG) (ad : Nat → Nat) (fu : Nat) (a1 : Int32) (M : mwM) (L : mwL) {z0 : Nat × Int32} {M0 : mwM} {L0 : mwL} (hst : l.stackTraces = false) (hD : DX11_ask fu a1 M L = some (z0, M0, L0)) : vx_Met l yX11_ask (Cond.code yX11_ask cX11_ask 3 ((some .int)) :: GT) ({ frames := 8, cells := 1, slots := 6, locals := 141 }) (mx_Pre G ad NF TF FF M L [.ref (ad 0), .int a1]) (mw_Qi G ad NF TF FF (mx_eqI z0 M0 L0)) (mx_XC G ad NF TF FF z0.1 M0 L0) 1 6 (mw_fr G) := by
  refine mx_enter (by decide) (Nat.le_of_ble_eq_true rfl) ?_
  intro p e s m below meth c ls C KX hr hlocks hex hw hl
  have hw0 := hw
  have hl : lv_has ls 3 [(0, .ref (ad 0)), (1, .int a1)] := hl
  have hb22 : ∀ (M : mwM) (L : mwL) (H : Heap) (locs : List Loc) (ls : Array Slot), fX11_ask_b22 fu a1 M L = some (z0, M0, L0) → mw_W G ad NF TF FF M L H locs → lv_has ls 3 [] → W p l e ({ frames := 8, cells := 1, slots := 6, locals := 141 }) s m [.ref (ad 0), .int a1].toArray below meth c H locs 0 0 (vx_MQ below (mw_Qi G ad NF TF FF (mx_eqI z0 M0 L0)) (mx_XC G ad NF TF FF z0.1 M0 L0) [.ref (ad 0), .int a1].toArray s 1 6 (mw_fr G)) (F0 m 22 ls []) := by
    intro M L H locs ls hD hw hl
    unfold fX11_ask_b22 at hD
    exact mx_throwS (k := 3) (ik := 117) (is := 184) (ic := 121) hst C KX hw0 hw hex hlocks (by decide) wd_1253 wd_31 (List.mem_of_getElem? (i := 16) rfl) mx_at_3_121 hl.1 dX11_ask_22 dX11_ask_25 dX11_ask_26 dX11_ask_28 dX11_ask_31 (Nat.le_of_ble_eq_true rfl) (Nat.le_of_ble_eq_true rfl) (Nat.le_of_ble_eq_true rfl) (Nat.le_of_ble_eq_true rfl) (mx_zI hD (by decide)) (Nat.le_of_ble_eq_true rfl) (Nat.le_of_ble_eq_true rfl)
  have hb64 : ∀ (M : mwM) (L : mwL) (H : Heap) (locs : List Loc) (ls : Array Slot), fX11_ask_b64 fu a1 M L = some (z0, M0, L0) → mw_W G ad NF TF FF M L H locs → lv_has ls 3 [] → W p l e ({ frames := 8, cells := 1, slots := 6, locals := 141 }) s m [.ref (ad 0), .int a1].toArray below meth c H locs 0 0 (vx_MQ below (mw_Qi G ad NF TF FF (mx_eqI z0 M0 L0)) (mx_XC G ad NF TF FF z0.1 M0 L0) [.ref (ad 0), .int a1].toArray s 1 6 (mw_fr G)) (F0 m 64 ls []) := by
    intro M L H locs ls hD hw hl
    unfold fX11_ask_b64 at hD
    exact mx_throwSW (k := 1) (ik := 33) (is := 276) (ic := 37) hst C KX hw0 hw hex hlocks (by decide) wd_694 wd_24 (List.mem_of_getElem? (i := 27) rfl) mx_at_1_37 hl.1 dX11_ask_64 dX11_ask_67 dX11_ask_68 dX11_ask_71 dX11_ask_74 (Nat.le_of_ble_eq_true rfl) (Nat.le_of_ble_eq_true rfl) (Nat.le_of_ble_eq_true rfl) (Nat.le_of_ble_eq_true rfl) (mx_zI hD (by decide)) (Nat.le_of_ble_eq_true rfl) (Nat.le_of_ble_eq_true rfl)
  unfold DX11_ask at hD
  refine lv_aload_n C.1.1 C.1.2.1 dX11_ask_0 rfl (lv_at hl 0 rfl) ?_
  refine mr_getI C hw kc_11 5 (by decide) tf_0 wd_645 dX11_ask_1 (by decide) rfl ?_
  refine lv_if_eq (tgt := 22) C.1.1 C.1.2.1 dX11_ask_4 (by decide) (fun c1 => ?_) (fun c1 => ?_)
  · replace hD := g_pos c1 hD
    exact hb22 M L _ _ ls hD hw (lv_sub hl [] rfl)
  · replace hD := g_neg c1 hD
    refine lv_iload_n C.1.1 C.1.2.1 dX11_ask_7 rfl (lv_at hl 1 rfl) ?_
    refine lv_if_lt (tgt := 22) C.1.1 C.1.2.1 dX11_ask_8 (by decide) (fun c2 => ?_) (fun c2 => ?_)
    · replace hD := g_pos c2 hD
      exact hb22 M L _ _ ls hD hw (lv_sub hl [] rfl)
    · replace hD := g_neg c2 hD
      refine lv_iload_n C.1.1 C.1.2.1 dX11_ask_11 rfl (lv_at hl 1 rfl) ?_
      refine lv_aload_n C.1.1 C.1.2.1 dX11_ask_12 rfl (lv_at hl 0 rfl) ?_
      refine mr_getR C hw kc_11 1 (by decide) tf_0 ff_0_1 wd_641 dX11_ask_13 (by decide) rfl ?_
      refine mr_getNI C hw kc_1 13 (by decide) tf_3 nd_541 dX11_ask_16 (by decide) rfl ?_
      refine lv_icmp_lt (tgt := 32) C.1.1 C.1.2.1 dX11_ask_19 (by decide) (fun c3 => ?_) (fun c3 => ?_)
      · replace hD := g_pos c3 hD
        refine lv_aload_n C.1.1 C.1.2.1 dX11_ask_32 rfl (lv_at hl 0 rfl) ?_
        refine mr_getI C hw kc_11 3 (by decide) tf_0 wd_643 dX11_ask_33 (by decide) rfl ?_
        refine lv_if_eq (tgt := 64) C.1.1 C.1.2.1 dX11_ask_36 (by decide) (fun c4 => ?_) (fun c4 => ?_)
        · replace hD := g_pos c4 hD
          exact hb64 M L _ _ ls hD hw (lv_sub hl [] rfl)
        · replace hD := g_neg c4 hD
          refine lv_aload_n C.1.1 C.1.2.1 dX11_ask_39 rfl (lv_at hl 0 rfl) ?_
          refine mr_getR C hw kc_11 1 (by decide) tf_0 ff_0_1 wd_641 dX11_ask_40 (by decide) rfl ?_
          refine mr_getNI C hw kc_1 17 (by decide) tf_3 nd_550 dX11_ask_43 (by decide) rfl ?_
          refine lv_if_ge (tgt := 64) C.1.1 C.1.2.1 dX11_ask_46 (by decide) (fun c5 => ?_) (fun c5 => ?_)
          · replace hD := g_pos c5 hD
            exact hb64 M L _ _ ls hD hw (lv_sub hl [] rfl)
          · replace hD := g_neg c5 hD
            refine lv_aload_n C.1.1 C.1.2.1 dX11_ask_49 rfl (lv_at hl 0 rfl) ?_
            refine mr_getR C hw kc_11 1 (by decide) tf_0 ff_0_1 wd_641 dX11_ask_50 (by decide) rfl ?_
            refine mr_getNR C hw kc_1 6 (by decide) tf_3 ff_3_6 nd_529 dX11_ask_53 (by decide) rfl ?_
            refine mr_getNI C hw kc_9 5 (by decide) tf_154 nd_369 dX11_ask_56 (by decide) rfl ?_
            refine lv_bipush (v := 99) C.1.1 C.1.2.1 dX11_ask_59 (by decide) ?_
            refine lv_icmp_lt (tgt := 75) C.1.1 C.1.2.1 dX11_ask_61 (by decide) (fun c6 => ?_) (fun c6 => ?_)
            · replace hD := g_pos c6 hD
              refine lv_aload_n C.1.1 C.1.2.1 dX11_ask_75 rfl (lv_at hl 0 rfl) ?_
              refine mr_getR C hw kc_11 1 (by decide) tf_0 ff_0_1 wd_641 dX11_ask_76 (by decide) rfl ?_
              refine mr_getNR C hw kc_1 6 (by decide) tf_3 ff_3_6 nd_529 dX11_ask_79 (by decide) rfl ?_
              refine lv_iload_n C.1.1 C.1.2.1 dX11_ask_82 rfl (lv_at hl 1 rfl) ?_
              refine lv_iconst (v := 1) C.1.1 C.1.2.1 dX11_ask_83 (by decide) ?_
              refine lv_aload_n C.1.1 C.1.2.1 dX11_ask_84 rfl (lv_at hl 0 rfl) ?_
              refine mr_getR C hw kc_11 2 (by decide) tf_0 ff_0_2 wd_642 dX11_ask_85 (by decide) rfl ?_
              refine lv_aload_n C.1.1 C.1.2.1 dX11_ask_88 rfl (lv_at hl 0 rfl) ?_
              refine mr_getI C hw kc_11 3 (by decide) tf_0 wd_643 dX11_ask_89 (by decide) rfl ?_
              obtain ⟨M7, L8, h1, hD⟩ := g_b2 hD
              refine md_cvV (As := [.int a1, .int 1, .ref (ad 731), .int (M 0 3)]) (rest := []) C hw (tX9_make l G ad fu a1 1 731 100 (M 0 3) M L h1 (by decide) tf_731) kc_9 (by decide) tf_154 wd_1933 cwX9_make ⟨Nat.le_of_ble_eq_true rfl, Nat.le_of_ble_eq_true rfl⟩ rfl hl.1 (Nat.le_of_ble_eq_true rfl) dX11_ask_92 rfl rfl ⟨Nat.zero_le _, Nat.zero_le _⟩ rfl (fun H locs hw => ?_)
              refine lv_aload_n C.1.1 C.1.2.1 dX11_ask_95 rfl (lv_at hl 0 rfl) ?_
              refine mr_getR C hw kc_11 1 (by decide) tf_0 ff_0_1 wd_641 dX11_ask_96 (by decide) rfl ?_
              refine lv_iload_n C.1.1 C.1.2.1 dX11_ask_99 rfl (lv_at hl 1 rfl) ?_
              obtain ⟨M9, eM9, hD⟩ := g_let hD
              refine mr_putNI C hw kc_1 17 (by decide) tf_3 nd_550 dX11_ask_100 (by decide) rfl rfl rfl rfl (fun H locs hw => ?_)
              replace hw : mw_W G ad NF TF FF M9 L8 H locs := by rw [eM9]; exact hw
              refine lv_aload_n C.1.1 C.1.2.1 dX11_ask_103 rfl (lv_at hl 0 rfl) ?_
              refine mr_getR C hw kc_11 1 (by decide) tf_0 ff_0_1 wd_641 dX11_ask_104 (by decide) rfl ?_
              refine lv_iconst (v := 0) C.1.1 C.1.2.1 dX11_ask_107 (by decide) ?_
              obtain ⟨M10, eM10, hD⟩ := g_let hD
              refine mr_putNI C hw kc_1 18 (by decide) tf_3 nd_552 dX11_ask_108 (by decide) rfl rfl rfl rfl (fun H locs hw => ?_)
              replace hw : mw_W G ad NF TF FF M10 L8 H locs := by rw [eM10]; exact hw
              refine lv_aload_n C.1.1 C.1.2.1 dX11_ask_111 rfl (lv_at hl 0 rfl) ?_
              refine mr_getI C hw kc_11 3 (by decide) tf_0 wd_643 dX11_ask_112 (by decide) rfl ?_
              obtain ⟨x11, ex11, hD⟩ := g_let hD
              refine W.eq (g2 := F0 m 115 ls (.int x11 :: [])) (by rw [ex11]) ?_
              refine lv_istore_n (lv' := [(2, .int x11), (0, .ref (ad 0)), (1, .int a1)]) C.1.1 C.1.2.1 dX11_ask_115 rfl hl (by decide) rfl (fun ls hl => ?_)
              refine lv_aload_n C.1.1 C.1.2.1 dX11_ask_116 rfl (lv_at hl 1 rfl) ?_
              refine lv_iconst (v := 0) C.1.1 C.1.2.1 dX11_ask_117 (by decide) ?_
              obtain ⟨M12, eM12, hD⟩ := g_let hD
              refine mr_putI C hw kc_11 3 (by decide) tf_0 wd_643 dX11_ask_118 (by decide) rfl rfl rfl rfl (fun H locs hw => ?_)
              replace hw : mw_W G ad NF TF FF M12 L8 H locs := by rw [eM12]; exact hw
              refine lv_iload_n C.1.1 C.1.2.1 dX11_ask_121 rfl (lv_at hl 0 rfl) ?_
              refine W.widen (k := 1) (n := 6) (Nat.le_of_ble_eq_true rfl) (Nat.le_of_ble_eq_true rfl) ?_
              exact vx_ret (mr_iret C hr hlocks hw rfl (Option.some.inj hD) dX11_ask_122)
            · replace hD := g_neg c6 hD
              exact hb64 M L _ _ ls hD hw (lv_sub hl [] rfl)
      · replace hD := g_neg c3 hD
        exact hb22 M L _ _ ls hD hw (lv_sub hl [] rfl)

theorem dX11_answer_0 : decode cX11_answer 0 = .ok (.iload_n 1, 1) := by decide +kernel
theorem dX11_answer_1 : decode cX11_answer 1 = .ok (.ifCond .lt 11, 3) := by decide +kernel
theorem dX11_answer_4 : decode cX11_answer 4 = .ok (.iload_n 1, 1) := by decide +kernel
theorem dX11_answer_5 : decode cX11_answer 5 = .ok (.aload_n 0, 1) := by decide +kernel
theorem dX11_answer_6 : decode cX11_answer 6 = .ok (.invokevirtual 285, 3) := by decide +kernel
theorem dX11_answer_9 : decode cX11_answer 9 = .ok (.if_icmp .lt 14, 3) := by decide +kernel
theorem dX11_answer_12 : decode cX11_answer 12 = .ok (.new 117, 3) := by decide +kernel
theorem dX11_answer_15 : decode cX11_answer 15 = .ok (.dup, 1) := by decide +kernel
theorem dX11_answer_16 : decode cX11_answer 16 = .ok (.ldc_w 289, 3) := by decide +kernel
theorem dX11_answer_19 : decode cX11_answer 19 = .ok (.invokespecial 121, 3) := by decide +kernel
theorem dX11_answer_22 : decode cX11_answer 22 = .ok (.athrow, 1) := by decide +kernel
theorem dX11_answer_23 : decode cX11_answer 23 = .ok (.aload_n 0, 1) := by decide +kernel
theorem dX11_answer_24 : decode cX11_answer 24 = .ok (.getfield 20, 3) := by decide +kernel
theorem dX11_answer_27 : decode cX11_answer 27 = .ok (.getfield 267, 3) := by decide +kernel
theorem dX11_answer_30 : decode cX11_answer 30 = .ok (.getfield 291, 3) := by decide +kernel
theorem dX11_answer_33 : decode cX11_answer 33 = .ok (.aload_n 0, 1) := by decide +kernel
theorem dX11_answer_34 : decode cX11_answer 34 = .ok (.getfield 20, 3) := by decide +kernel
theorem dX11_answer_37 : decode cX11_answer 37 = .ok (.getfield 282, 3) := by decide +kernel
theorem dX11_answer_40 : decode cX11_answer 40 = .ok (.aaload, 1) := by decide +kernel
theorem dX11_answer_41 : decode cX11_answer 41 = .ok (.iload_n 1, 1) := by decide +kernel
theorem dX11_answer_42 : decode cX11_answer 42 = .ok (.iaload, 1) := by decide +kernel
theorem dX11_answer_43 : decode cX11_answer 43 = .ok (.ireturn, 1) := by decide +kernel
theorem cwX11_answer : mw_cwV yX11_answer cX11_answer 2 ((some .int)) 1 := ⟨⟨wd_1, wd_1940, by decide +kernel⟩, wd_1938, wd_1939⟩
set_option maxHeartbeats 4000000 in
set_option maxRecDepth 100000 in
theorem tX11_answer (l : Launch) (G : mwG) (ad : Nat → Nat) (fu : Nat) (a1 : Int32) (M : mwM) (L : mwL) {z0 : Nat × Int32} {M0 : mwM} {L0 : mwL} (hst : l.stackTraces = false) (hD : DX11_answer fu a1 M L = some (z0, M0, L0)) : vx_Met l yX11_answer (Cond.code yX11_answer cX11_answer 2 ((some .int)) :: GT) ({ frames := 8, cells := 1, slots := 6, locals := 141 }) (mx_Pre G ad NF TF FF M L [.ref (ad 0), .int a1]) (mw_Qi G ad NF TF FF (mx_eqI z0 M0 L0)) (mx_XC G ad NF TF FF z0.1 M0 L0) 1 6 (mw_fr G) := by
  refine mx_enter (by decide) (Nat.le_of_ble_eq_true rfl) ?_
  intro p e s m below meth c ls C KX hr hlocks hex hw hl
  have hw0 := hw
  have hl : lv_has ls 2 [(0, .ref (ad 0)), (1, .int a1)] := hl
  have hb12 : ∀ (M : mwM) (L : mwL) (H : Heap) (locs : List Loc) (ls : Array Slot), fX11_answer_b12 fu a1 M L = some (z0, M0, L0) → mw_W G ad NF TF FF M L H locs → lv_has ls 2 [] → W p l e ({ frames := 8, cells := 1, slots := 6, locals := 141 }) s m [.ref (ad 0), .int a1].toArray below meth c H locs 0 0 (vx_MQ below (mw_Qi G ad NF TF FF (mx_eqI z0 M0 L0)) (mx_XC G ad NF TF FF z0.1 M0 L0) [.ref (ad 0), .int a1].toArray s 1 6 (mw_fr G)) (F0 m 12 ls []) := by
    intro M L H locs ls hD hw hl
    unfold fX11_answer_b12 at hD
    exact mx_throwSW (k := 3) (ik := 117) (is := 289) (ic := 121) hst C KX hw0 hw hex hlocks (by decide) wd_1253 wd_31 (List.mem_of_getElem? (i := 28) rfl) mx_at_3_121 hl.1 dX11_answer_12 dX11_answer_15 dX11_answer_16 dX11_answer_19 dX11_answer_22 (Nat.le_of_ble_eq_true rfl) (Nat.le_of_ble_eq_true rfl) (Nat.le_of_ble_eq_true rfl) (Nat.le_of_ble_eq_true rfl) (mx_zI hD (by decide)) (Nat.le_of_ble_eq_true rfl) (Nat.le_of_ble_eq_true rfl)
  unfold DX11_answer at hD
  refine lv_iload_n C.1.1 C.1.2.1 dX11_answer_0 rfl (lv_at hl 1 rfl) ?_
  refine lv_if_lt (tgt := 12) C.1.1 C.1.2.1 dX11_answer_1 (by decide) (fun c1 => ?_) (fun c1 => ?_)
  · replace hD := g_pos c1 hD
    exact hb12 M L _ _ ls hD hw (lv_sub hl [] rfl)
  · replace hD := g_neg c1 hD
    refine lv_iload_n C.1.1 C.1.2.1 dX11_answer_4 rfl (lv_at hl 1 rfl) ?_
    refine lv_aload_n C.1.1 C.1.2.1 dX11_answer_5 rfl (lv_at hl 0 rfl) ?_
    obtain ⟨r4, M2, L3, h1, hD⟩ := g_b3 hD
    refine md_cvI (As := []) (rest := [.int a1]) C hw (tX11_answerLength l G ad fu M L h1) kc_11 (by decide) tf_0 wd_679 cwX11_answerLength ⟨Nat.le_of_ble_eq_true rfl, Nat.le_of_ble_eq_true rfl⟩ rfl hl.1 (Nat.le_of_ble_eq_true rfl) dX11_answer_6 rfl rfl ⟨Nat.zero_le _, Nat.zero_le _⟩ rfl (fun H locs hw => ?_)
    refine lv_icmp_lt (tgt := 23) C.1.1 C.1.2.1 dX11_answer_9 (by decide) (fun c5 => ?_) (fun c5 => ?_)
    · replace hD := g_pos c5 hD
      refine lv_aload_n C.1.1 C.1.2.1 dX11_answer_23 rfl (lv_at hl 0 rfl) ?_
      refine mr_getR C hw kc_11 1 (by decide) tf_0 ff_0_1 wd_641 dX11_answer_24 (by decide) rfl ?_
      refine mr_getNR C hw kc_1 6 (by decide) tf_3 ff_3_6 nd_529 dX11_answer_27 (by decide) rfl ?_
      refine mr_getNR C hw kc_9 1 (by decide) tf_154 ff_154_1 nd_363 dX11_answer_30 (by decide) rfl ?_
      refine lv_aload_n C.1.1 C.1.2.1 dX11_answer_33 rfl (lv_at hl 0 rfl) ?_
      refine mr_getR C hw kc_11 1 (by decide) tf_0 ff_0_1 wd_641 dX11_answer_34 (by decide) rfl ?_
      refine mr_getNI C hw kc_1 18 (by decide) tf_3 nd_552 dX11_answer_37 (by decide) rfl ?_
      obtain ⟨q6, hD⟩ := g_ck hD
      refine mr_aald C hw (by decide) tf_161 (by decide) (by decide) rfl rfl q6 (fr_161 _ (g_lt q6)).1 dX11_answer_40 ?_
      refine lv_iload_n C.1.1 C.1.2.1 dX11_answer_41 rfl (lv_at hl 1 rfl) ?_
      obtain ⟨q7, hD⟩ := g_ck hD
      refine mr_iald C hw (fr_161 _ (g_lt q6)).2.2 (fr_161 _ (g_lt q6)).2.1 q7 dX11_answer_42 ?_
      refine W.widen (k := 1) (n := 6) (Nat.le_of_ble_eq_true rfl) (Nat.le_of_ble_eq_true rfl) ?_
      exact vx_ret (mr_iret C hr hlocks hw rfl (Option.some.inj hD) dX11_answer_43)
    · replace hD := g_neg c5 hD
      exact hb12 M2 L3 _ _ ls hD hw (lv_sub hl [] rfl)
