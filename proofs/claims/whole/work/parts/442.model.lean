theorem dX19_system_0 : decode cX19_system 0 = .ok (.aload_n 0, 1) := by decide +kernel
theorem dX19_system_1 : decode cX19_system 1 = .ok (.aload_n 0, 1) := by decide +kernel
theorem dX19_system_2 : decode cX19_system 2 = .ok (.getfield 627, 3) := by decide +kernel
theorem dX19_system_5 : decode cX19_system 5 = .ok (.bipush 16, 2) := by decide +kernel
theorem dX19_system_7 : decode cX19_system 7 = .ok (.if_icmp .ne 7, 3) := by decide +kernel
theorem dX19_system_10 : decode cX19_system 10 = .ok (.iconst 1, 1) := by decide +kernel
theorem dX19_system_11 : decode cX19_system 11 = .ok (.goto 4, 3) := by decide +kernel
theorem dX19_system_14 : decode cX19_system 14 = .ok (.iconst 0, 1) := by decide +kernel
theorem dX19_system_15 : decode cX19_system 15 = .ok (.putfield 289, 3) := by decide +kernel
theorem dX19_system_18 : decode cX19_system 18 = .ok (.aload_n 0, 1) := by decide +kernel
theorem dX19_system_19 : decode cX19_system 19 = .ok (.getfield 289, 3) := by decide +kernel
theorem dX19_system_22 : decode cX19_system 22 = .ok (.ifCond .le 5, 3) := by decide +kernel
theorem dX19_system_25 : decode cX19_system 25 = .ok (.iconst 0, 1) := by decide +kernel
theorem dX19_system_26 : decode cX19_system 26 = .ok (.ireturn, 1) := by decide +kernel
theorem dX19_system_27 : decode cX19_system 27 = .ok (.aload_n 0, 1) := by decide +kernel
theorem dX19_system_28 : decode cX19_system 28 = .ok (.dup, 1) := by decide +kernel
theorem dX19_system_29 : decode cX19_system 29 = .ok (.getfield 627, 3) := by decide +kernel
theorem dX19_system_32 : decode cX19_system 32 = .ok (.iconst 1, 1) := by decide +kernel
theorem dX19_system_33 : decode cX19_system 33 = .ok (.iadd, 1) := by decide +kernel
theorem dX19_system_34 : decode cX19_system 34 = .ok (.putfield 627, 3) := by decide +kernel
theorem dX19_system_37 : decode cX19_system 37 = .ok (.aload_n 0, 1) := by decide +kernel
theorem dX19_system_38 : decode cX19_system 38 = .ok (.iconst 0, 1) := by decide +kernel
theorem dX19_system_39 : decode cX19_system 39 = .ok (.putfield 630, 3) := by decide +kernel
theorem dX19_system_42 : decode cX19_system 42 = .ok (.aload_n 0, 1) := by decide +kernel
theorem dX19_system_43 : decode cX19_system 43 = .ok (.iconst 0, 1) := by decide +kernel
theorem dX19_system_44 : decode cX19_system 44 = .ok (.putfield 634, 3) := by decide +kernel
theorem dX19_system_47 : decode cX19_system 47 = .ok (.aload_n 0, 1) := by decide +kernel
theorem dX19_system_48 : decode cX19_system 48 = .ok (.iconst 0, 1) := by decide +kernel
theorem dX19_system_49 : decode cX19_system 49 = .ok (.putfield 347, 3) := by decide +kernel
theorem dX19_system_52 : decode cX19_system 52 = .ok (.aload_n 0, 1) := by decide +kernel
theorem dX19_system_53 : decode cX19_system 53 = .ok (.iconst 0, 1) := by decide +kernel
theorem dX19_system_54 : decode cX19_system 54 = .ok (.putfield 435, 3) := by decide +kernel
theorem dX19_system_57 : decode cX19_system 57 = .ok (.aload_n 0, 1) := by decide +kernel
theorem dX19_system_58 : decode cX19_system 58 = .ok (.iconst 0, 1) := by decide +kernel
theorem dX19_system_59 : decode cX19_system 59 = .ok (.putfield 546, 3) := by decide +kernel
theorem dX19_system_62 : decode cX19_system 62 = .ok (.aload_n 0, 1) := by decide +kernel
theorem dX19_system_63 : decode cX19_system 63 = .ok (.iconst 0, 1) := by decide +kernel
theorem dX19_system_64 : decode cX19_system 64 = .ok (.putfield 448, 3) := by decide +kernel
theorem dX19_system_67 : decode cX19_system 67 = .ok (.aload_n 0, 1) := by decide +kernel
theorem dX19_system_68 : decode cX19_system 68 = .ok (.iconst 0, 1) := by decide +kernel
theorem dX19_system_69 : decode cX19_system 69 = .ok (.putfield 456, 3) := by decide +kernel
theorem dX19_system_72 : decode cX19_system 72 = .ok (.aload_n 0, 1) := by decide +kernel
theorem dX19_system_73 : decode cX19_system 73 = .ok (.iconst 0, 1) := by decide +kernel
theorem dX19_system_74 : decode cX19_system 74 = .ok (.putfield 541, 3) := by decide +kernel
theorem dX19_system_77 : decode cX19_system 77 = .ok (.aload_n 0, 1) := by decide +kernel
theorem dX19_system_78 : decode cX19_system 78 = .ok (.iconst 0, 1) := by decide +kernel
theorem dX19_system_79 : decode cX19_system 79 = .ok (.putfield 555, 3) := by decide +kernel
theorem dX19_system_82 : decode cX19_system 82 = .ok (.aload_n 0, 1) := by decide +kernel
theorem dX19_system_83 : decode cX19_system 83 = .ok (.iconst 0, 1) := by decide +kernel
theorem dX19_system_84 : decode cX19_system 84 = .ok (.putfield 558, 3) := by decide +kernel
theorem dX19_system_87 : decode cX19_system 87 = .ok (.aload_n 0, 1) := by decide +kernel
theorem dX19_system_88 : decode cX19_system 88 = .ok (.iconst 0, 1) := by decide +kernel
theorem dX19_system_89 : decode cX19_system 89 = .ok (.putfield 568, 3) := by decide +kernel
theorem dX19_system_92 : decode cX19_system 92 = .ok (.aload_n 0, 1) := by decide +kernel
theorem dX19_system_93 : decode cX19_system 93 = .ok (.getfield 205, 3) := by decide +kernel
theorem dX19_system_96 : decode cX19_system 96 = .ok (.bipush 8, 2) := by decide +kernel
theorem dX19_system_98 : decode cX19_system 98 = .ok (.invokevirtual 636, 3) := by decide +kernel
theorem dX19_system_101 : decode cX19_system 101 = .ok (.aload_n 0, 1) := by decide +kernel
theorem dX19_system_102 : decode cX19_system 102 = .ok (.aload_n 0, 1) := by decide +kernel
theorem dX19_system_103 : decode cX19_system 103 = .ok (.invokevirtual 637, 3) := by decide +kernel
theorem dX19_system_106 : decode cX19_system 106 = .ok (.ifCond .eq 21, 3) := by decide +kernel
theorem dX19_system_109 : decode cX19_system 109 = .ok (.aload_n 0, 1) := by decide +kernel
theorem dX19_system_110 : decode cX19_system 110 = .ok (.invokevirtual 640, 3) := by decide +kernel
theorem dX19_system_113 : decode cX19_system 113 = .ok (.ifCond .eq 14, 3) := by decide +kernel
theorem dX19_system_116 : decode cX19_system 116 = .ok (.aload_n 0, 1) := by decide +kernel
theorem dX19_system_117 : decode cX19_system 117 = .ok (.invokevirtual 643, 3) := by decide +kernel
theorem dX19_system_120 : decode cX19_system 120 = .ok (.ifCond .eq 7, 3) := by decide +kernel
theorem dX19_system_123 : decode cX19_system 123 = .ok (.iconst 1, 1) := by decide +kernel
theorem dX19_system_124 : decode cX19_system 124 = .ok (.goto 4, 3) := by decide +kernel
theorem dX19_system_127 : decode cX19_system 127 = .ok (.iconst 0, 1) := by decide +kernel
theorem dX19_system_128 : decode cX19_system 128 = .ok (.putfield 630, 3) := by decide +kernel
theorem dX19_system_131 : decode cX19_system 131 = .ok (.aload_n 0, 1) := by decide +kernel
theorem dX19_system_132 : decode cX19_system 132 = .ok (.getfield 630, 3) := by decide +kernel
theorem dX19_system_135 : decode cX19_system 135 = .ok (.ifCond .eq 5, 3) := by decide +kernel
theorem dX19_system_138 : decode cX19_system 138 = .ok (.iconst 0, 1) := by decide +kernel
theorem dX19_system_139 : decode cX19_system 139 = .ok (.ireturn, 1) := by decide +kernel
theorem dX19_system_140 : decode cX19_system 140 = .ok (.aload_n 0, 1) := by decide +kernel
theorem dX19_system_141 : decode cX19_system 141 = .ok (.aload_n 0, 1) := by decide +kernel
theorem dX19_system_142 : decode cX19_system 142 = .ok (.getfield 302, 3) := by decide +kernel
theorem dX19_system_145 : decode cX19_system 145 = .ok (.putfield 634, 3) := by decide +kernel
theorem dX19_system_148 : decode cX19_system 148 = .ok (.aload_n 0, 1) := by decide +kernel
theorem dX19_system_149 : decode cX19_system 149 = .ok (.getfield 299, 3) := by decide +kernel
theorem dX19_system_152 : decode cX19_system 152 = .ok (.ireturn, 1) := by decide +kernel
theorem cwX19_system : mw_cwV yX19_system cX19_system 1 ((some .int)) 0 := ⟨⟨wd_13, wd_3136, by decide +kernel⟩, wd_3134, wd_3135⟩
set_option maxHeartbeats 4000000 in
set_option maxRecDepth 100000 in
theorem tX19_system (l : Launch) (G : mwG) (ad : Nat → Nat) (fu : Nat) (M : mwM) (L : mwL) {r0 : Int32} {M0 : mwM} {L0 : mwL} (hD : DX19_system fu M L = some (r0, M0, L0)) : Met l yX19_system (Cond.code yX19_system cX19_system 1 ((some .int)) :: GT) ({ frames := 9, cells := 0, slots := 0, locals := 230 }) (mw_Pre G ad NF TF FF M L [.ref (ad 732)]) (mw_Qi G ad NF TF FF (mw_eqI r0 M0 L0)) 0 0 (mw_fr G) := by
  refine mw_enter (by decide) (Nat.le_of_ble_eq_true rfl) ?_
  intro p e s m below meth c ls C hr hlocks hnm hw hl
  have hl : lv_has ls 1 [(0, .ref (ad 732))] := hl
  have hb128 : ∀ (s1 : Int32) (M : mwM) (L : mwL) (H : Heap) (locs : List Loc) (ls : Array Slot), fX19_system_b128 fu s1 M L = some (r0, M0, L0) → mw_W G ad NF TF FF M L H locs → lv_has ls 1 [(0, .ref (ad 732))] → W p l e ({ frames := 9, cells := 0, slots := 0, locals := 230 }) s m [.ref (ad 732)].toArray below meth c H locs 0 0 (MQ below (mw_Qi G ad NF TF FF (mw_eqI r0 M0 L0)) [.ref (ad 732)].toArray s 0 0 (mw_fr G)) (F0 m 128 ls [.int s1, .ref (ad 732)]) := by
    intro s1 M L H locs ls hD hw hl
    unfold fX19_system_b128 at hD
    obtain ⟨z29, hD⟩ := g_zz hD
    obtain ⟨M30, eM30, hD⟩ := g_let hD
    refine mr_putI C hw kc_19 4 (by decide) tf_732 wd_2785 dX19_system_128 (by decide) rfl rfl (nz_zz z29) (ft_zz z29) (fun H locs hw => ?_)
    replace hw : mw_W G ad NF TF FF M30 L H locs := by rw [eM30]; exact hw
    refine lv_aload_n C.1.1 C.1.2.1 dX19_system_131 rfl (lv_at hl 0 rfl) ?_
    refine mr_getI C hw kc_19 4 (by decide) tf_732 wd_2785 dX19_system_132 (by decide) rfl ?_
    refine lv_if_eq (tgt := 140) C.1.1 C.1.2.1 dX19_system_135 (by decide) (fun c31 => ?_) (fun c31 => ?_)
    · replace hD := g_pos c31 hD
      refine lv_aload_n C.1.1 C.1.2.1 dX19_system_140 rfl (lv_at hl 0 rfl) ?_
      refine lv_aload_n C.1.1 C.1.2.1 dX19_system_141 rfl (lv_at hl 0 rfl) ?_
      refine mr_getI C hw kc_19 12 (by decide) tf_732 wd_2793 dX19_system_142 (by decide) rfl ?_
      obtain ⟨M32, eM32, hD⟩ := g_let hD
      refine mr_putI C hw kc_19 5 (by decide) tf_732 wd_2786 dX19_system_145 (by decide) rfl rfl rfl rfl (fun H locs hw => ?_)
      replace hw : mw_W G ad NF TF FF M32 L H locs := by rw [eM32]; exact hw
      refine lv_aload_n C.1.1 C.1.2.1 dX19_system_148 rfl (lv_at hl 0 rfl) ?_
      refine mr_getI C hw kc_19 11 (by decide) tf_732 wd_2792 dX19_system_149 (by decide) rfl ?_
      exact mr_iret C hr hlocks hw rfl (Option.some.inj hD) dX19_system_152
    · replace hD := g_neg c31 hD
      refine lv_iconst (v := 0) C.1.1 C.1.2.1 dX19_system_138 (by decide) ?_
      exact mr_iret C hr hlocks hw rfl (Option.some.inj hD) dX19_system_139
  have hb127 : ∀ (M : mwM) (L : mwL) (H : Heap) (locs : List Loc) (ls : Array Slot), fX19_system_b127 fu M L = some (r0, M0, L0) → mw_W G ad NF TF FF M L H locs → lv_has ls 1 [(0, .ref (ad 732))] → W p l e ({ frames := 9, cells := 0, slots := 0, locals := 230 }) s m [.ref (ad 732)].toArray below meth c H locs 0 0 (MQ below (mw_Qi G ad NF TF FF (mw_eqI r0 M0 L0)) [.ref (ad 732)].toArray s 0 0 (mw_fr G)) (F0 m 127 ls [.ref (ad 732)]) := by
    intro M L H locs ls hD hw hl
    unfold fX19_system_b127 at hD
    refine lv_iconst (v := 0) C.1.1 C.1.2.1 dX19_system_127 (by decide) ?_
    exact hb128 0 M L _ _ ls hD hw (lv_sub hl [0] rfl)
  have hb15 : ∀ (s1 : Int32) (M : mwM) (L : mwL) (H : Heap) (locs : List Loc) (ls : Array Slot), fX19_system_b15 fu s1 M L = some (r0, M0, L0) → mw_W G ad NF TF FF M L H locs → lv_has ls 1 [(0, .ref (ad 732))] → W p l e ({ frames := 9, cells := 0, slots := 0, locals := 230 }) s m [.ref (ad 732)].toArray below meth c H locs 0 0 (MQ below (mw_Qi G ad NF TF FF (mw_eqI r0 M0 L0)) [.ref (ad 732)].toArray s 0 0 (mw_fr G)) (F0 m 15 ls [.int s1, .ref (ad 732)]) := by
    intro s1 M L H locs ls hD hw hl
    unfold fX19_system_b15 at hD
    obtain ⟨M1, eM1, hD⟩ := g_let hD
    refine mr_putI C hw kc_19 0 (by decide) tf_732 wd_2781 dX19_system_15 (by decide) rfl rfl rfl rfl (fun H locs hw => ?_)
    replace hw : mw_W G ad NF TF FF M1 L H locs := by rw [eM1]; exact hw
    refine lv_aload_n C.1.1 C.1.2.1 dX19_system_18 rfl (lv_at hl 0 rfl) ?_
    refine mr_getI C hw kc_19 0 (by decide) tf_732 wd_2781 dX19_system_19 (by decide) rfl ?_
    refine lv_if_le (tgt := 27) C.1.1 C.1.2.1 dX19_system_22 (by decide) (fun c2 => ?_) (fun c2 => ?_)
    · replace hD := g_pos c2 hD
      refine lv_aload_n C.1.1 C.1.2.1 dX19_system_27 rfl (lv_at hl 0 rfl) ?_
      refine lv_dup C.1.1 C.1.2.1 dX19_system_28 rfl ?_
      refine mr_getI C hw kc_19 3 (by decide) tf_732 wd_2784 dX19_system_29 (by decide) rfl ?_
      refine lv_iconst (v := 1) C.1.1 C.1.2.1 dX19_system_32 (by decide) ?_
      refine lv_iadd C.1.1 C.1.2.1 dX19_system_33 ?_
      obtain ⟨M3, eM3, hD⟩ := g_let hD
      refine mr_putI C hw kc_19 3 (by decide) tf_732 wd_2784 dX19_system_34 (by decide) rfl rfl rfl rfl (fun H locs hw => ?_)
      replace hw : mw_W G ad NF TF FF M3 L H locs := by rw [eM3]; exact hw
      refine lv_aload_n C.1.1 C.1.2.1 dX19_system_37 rfl (lv_at hl 0 rfl) ?_
      refine lv_iconst (v := 0) C.1.1 C.1.2.1 dX19_system_38 (by decide) ?_
      obtain ⟨M4, eM4, hD⟩ := g_let hD
      refine mr_putI C hw kc_19 4 (by decide) tf_732 wd_2785 dX19_system_39 (by decide) rfl rfl (by decide +kernel) (by decide +kernel) (fun H locs hw => ?_)
      replace hw : mw_W G ad NF TF FF M4 L H locs := by rw [eM4]; exact hw
      refine lv_aload_n C.1.1 C.1.2.1 dX19_system_42 rfl (lv_at hl 0 rfl) ?_
      refine lv_iconst (v := 0) C.1.1 C.1.2.1 dX19_system_43 (by decide) ?_
      obtain ⟨M5, eM5, hD⟩ := g_let hD
      refine mr_putI C hw kc_19 5 (by decide) tf_732 wd_2786 dX19_system_44 (by decide) rfl rfl rfl rfl (fun H locs hw => ?_)
      replace hw : mw_W G ad NF TF FF M5 L H locs := by rw [eM5]; exact hw
      refine lv_aload_n C.1.1 C.1.2.1 dX19_system_47 rfl (lv_at hl 0 rfl) ?_
      refine lv_iconst (v := 0) C.1.1 C.1.2.1 dX19_system_48 (by decide) ?_
      obtain ⟨M6, eM6, hD⟩ := g_let hD
      refine mr_putI C hw kc_19 14 (by decide) tf_732 wd_2795 dX19_system_49 (by decide) rfl rfl rfl rfl (fun H locs hw => ?_)
      replace hw : mw_W G ad NF TF FF M6 L H locs := by rw [eM6]; exact hw
      refine lv_aload_n C.1.1 C.1.2.1 dX19_system_52 rfl (lv_at hl 0 rfl) ?_
      refine lv_iconst (v := 0) C.1.1 C.1.2.1 dX19_system_53 (by decide) ?_
      obtain ⟨M7, eM7, hD⟩ := g_let hD
      refine mr_putI C hw kc_19 19 (by decide) tf_732 wd_2800 dX19_system_54 (by decide) rfl rfl rfl rfl (fun H locs hw => ?_)
      replace hw : mw_W G ad NF TF FF M7 L H locs := by rw [eM7]; exact hw
      refine lv_aload_n C.1.1 C.1.2.1 dX19_system_57 rfl (lv_at hl 0 rfl) ?_
      refine lv_iconst (v := 0) C.1.1 C.1.2.1 dX19_system_58 (by decide) ?_
      obtain ⟨M8, eM8, hD⟩ := g_let hD
      refine mr_putI C hw kc_19 20 (by decide) tf_732 wd_2801 dX19_system_59 (by decide) rfl rfl rfl rfl (fun H locs hw => ?_)
      replace hw : mw_W G ad NF TF FF M8 L H locs := by rw [eM8]; exact hw
      refine lv_aload_n C.1.1 C.1.2.1 dX19_system_62 rfl (lv_at hl 0 rfl) ?_
      refine lv_iconst (v := 0) C.1.1 C.1.2.1 dX19_system_63 (by decide) ?_
      obtain ⟨M9, eM9, hD⟩ := g_let hD
      refine mr_putI C hw kc_19 24 (by decide) tf_732 wd_2805 dX19_system_64 (by decide) rfl rfl rfl rfl (fun H locs hw => ?_)
      replace hw : mw_W G ad NF TF FF M9 L H locs := by rw [eM9]; exact hw
      refine lv_aload_n C.1.1 C.1.2.1 dX19_system_67 rfl (lv_at hl 0 rfl) ?_
      refine lv_iconst (v := 0) C.1.1 C.1.2.1 dX19_system_68 (by decide) ?_
      obtain ⟨M10, eM10, hD⟩ := g_let hD
      refine mr_putI C hw kc_19 33 (by decide) tf_732 wd_2814 dX19_system_69 (by decide) rfl rfl rfl rfl (fun H locs hw => ?_)
      replace hw : mw_W G ad NF TF FF M10 L H locs := by rw [eM10]; exact hw
      refine lv_aload_n C.1.1 C.1.2.1 dX19_system_72 rfl (lv_at hl 0 rfl) ?_
      refine lv_iconst (v := 0) C.1.1 C.1.2.1 dX19_system_73 (by decide) ?_
      obtain ⟨M11, eM11, hD⟩ := g_let hD
      refine mr_putI C hw kc_19 45 (by decide) tf_732 wd_2826 dX19_system_74 (by decide) rfl rfl rfl rfl (fun H locs hw => ?_)
      replace hw : mw_W G ad NF TF FF M11 L H locs := by rw [eM11]; exact hw
      refine lv_aload_n C.1.1 C.1.2.1 dX19_system_77 rfl (lv_at hl 0 rfl) ?_
      refine lv_iconst (v := 0) C.1.1 C.1.2.1 dX19_system_78 (by decide) ?_
      obtain ⟨M12, eM12, hD⟩ := g_let hD
      refine mr_putI C hw kc_19 55 (by decide) tf_732 wd_2836 dX19_system_79 (by decide) rfl rfl rfl rfl (fun H locs hw => ?_)
      replace hw : mw_W G ad NF TF FF M12 L H locs := by rw [eM12]; exact hw
      refine lv_aload_n C.1.1 C.1.2.1 dX19_system_82 rfl (lv_at hl 0 rfl) ?_
      refine lv_iconst (v := 0) C.1.1 C.1.2.1 dX19_system_83 (by decide) ?_
      obtain ⟨M13, eM13, hD⟩ := g_let hD
      refine mr_putI C hw kc_19 62 (by decide) tf_732 wd_2843 dX19_system_84 (by decide) rfl rfl rfl rfl (fun H locs hw => ?_)
      replace hw : mw_W G ad NF TF FF M13 L H locs := by rw [eM13]; exact hw
      refine lv_aload_n C.1.1 C.1.2.1 dX19_system_87 rfl (lv_at hl 0 rfl) ?_
      refine lv_iconst (v := 0) C.1.1 C.1.2.1 dX19_system_88 (by decide) ?_
      obtain ⟨M14, eM14, hD⟩ := g_let hD
      refine mr_putI C hw kc_19 67 (by decide) tf_732 wd_2848 dX19_system_89 (by decide) rfl rfl rfl rfl (fun H locs hw => ?_)
      replace hw : mw_W G ad NF TF FF M14 L H locs := by rw [eM14]; exact hw
      refine lv_aload_n C.1.1 C.1.2.1 dX19_system_92 rfl (lv_at hl 0 rfl) ?_
      refine mr_getR C hw kc_19 80 (by decide) tf_732 ff_732_80 wd_2861 dX19_system_93 (by decide) rfl ?_
      refine lv_bipush (v := 8) C.1.1 C.1.2.1 dX19_system_96 (by decide) ?_
      obtain ⟨M15, L16, h1, hD⟩ := g_b2 hD
      refine md_cvV (As := [.int 8]) (rest := []) C hw (tX18_anew l G ad fu 8 M14 L h1) kc_18 (by decide) tf_902 wd_3137 cwX18_anew ⟨Nat.le_of_ble_eq_true rfl, Nat.le_of_ble_eq_true rfl⟩ rfl hl.1 (Nat.le_of_ble_eq_true rfl) dX19_system_98 rfl rfl ⟨Nat.zero_le _, Nat.zero_le _⟩ rfl (fun H locs hw => ?_)
      refine lv_aload_n C.1.1 C.1.2.1 dX19_system_101 rfl (lv_at hl 0 rfl) ?_
      refine lv_aload_n C.1.1 C.1.2.1 dX19_system_102 rfl (lv_at hl 0 rfl) ?_
      obtain ⟨r19, M17, L18, h1, hD⟩ := g_b3 hD
      refine md_cvI (As := []) (rest := [.ref (ad 732)]) C hw (tX19_read l G ad fu M15 L16 h1) kc_19 (by decide) tf_732 wd_3141 cwX19_read ⟨Nat.le_of_ble_eq_true rfl, Nat.le_of_ble_eq_true rfl⟩ rfl hl.1 (Nat.le_of_ble_eq_true rfl) dX19_system_103 rfl rfl ⟨Nat.zero_le _, Nat.zero_le _⟩ rfl (fun H locs hw => ?_)
      refine lv_if_eq (tgt := 127) C.1.1 C.1.2.1 dX19_system_106 (by decide) (fun c20 => ?_) (fun c20 => ?_)
      · replace hD := g_pos c20 hD
        exact hb127 M17 L18 _ _ ls hD hw (lv_sub hl [0] rfl)
      · replace hD := g_neg c20 hD
        refine lv_aload_n C.1.1 C.1.2.1 dX19_system_109 rfl (lv_at hl 0 rfl) ?_
        obtain ⟨r23, M21, L22, h1, hD⟩ := g_b3 hD
        refine md_cvI (As := []) (rest := [.ref (ad 732)]) C hw (tX19_join l G ad fu M17 L18 h1) kc_19 (by decide) tf_732 wd_3391 cwX19_join ⟨Nat.le_of_ble_eq_true rfl, Nat.le_of_ble_eq_true rfl⟩ rfl hl.1 (Nat.le_of_ble_eq_true rfl) dX19_system_110 rfl rfl ⟨Nat.zero_le _, Nat.zero_le _⟩ rfl (fun H locs hw => ?_)
        refine lv_if_eq (tgt := 127) C.1.1 C.1.2.1 dX19_system_113 (by decide) (fun c24 => ?_) (fun c24 => ?_)
        · replace hD := g_pos c24 hD
          exact hb127 M21 L22 _ _ ls hD hw (lv_sub hl [0] rfl)
        · replace hD := g_neg c24 hD
          refine lv_aload_n C.1.1 C.1.2.1 dX19_system_116 rfl (lv_at hl 0 rfl) ?_
          obtain ⟨r27, M25, L26, h1, hD⟩ := g_b3 hD
          refine md_cvI (As := []) (rest := [.ref (ad 732)]) C hw (tX19_build l G ad fu M21 L22 h1) kc_19 (by decide) tf_732 wd_3491 cwX19_build ⟨Nat.le_of_ble_eq_true rfl, Nat.le_of_ble_eq_true rfl⟩ rfl hl.1 (Nat.le_of_ble_eq_true rfl) dX19_system_117 rfl rfl ⟨Nat.zero_le _, Nat.zero_le _⟩ rfl (fun H locs hw => ?_)
          refine lv_if_eq (tgt := 127) C.1.1 C.1.2.1 dX19_system_120 (by decide) (fun c28 => ?_) (fun c28 => ?_)
          · replace hD := g_pos c28 hD
            exact hb127 M25 L26 _ _ ls hD hw (lv_sub hl [0] rfl)
          · replace hD := g_neg c28 hD
            refine lv_iconst (v := 1) C.1.1 C.1.2.1 dX19_system_123 (by decide) ?_
            refine lv_goto (tgt := 128) C.1.1 C.1.2.1 dX19_system_124 (by decide) ?_
            exact hb128 1 M25 L26 _ _ ls hD hw (lv_sub hl [0] rfl)
    · replace hD := g_neg c2 hD
      refine lv_iconst (v := 0) C.1.1 C.1.2.1 dX19_system_25 (by decide) ?_
      exact mr_iret C hr hlocks hw rfl (Option.some.inj hD) dX19_system_26
  unfold DX19_system at hD
  refine lv_aload_n C.1.1 C.1.2.1 dX19_system_0 rfl (lv_at hl 0 rfl) ?_
  refine lv_aload_n C.1.1 C.1.2.1 dX19_system_1 rfl (lv_at hl 0 rfl) ?_
  refine mr_getI C hw kc_19 3 (by decide) tf_732 wd_2784 dX19_system_2 (by decide) rfl ?_
  refine lv_bipush (v := 16) C.1.1 C.1.2.1 dX19_system_5 (by decide) ?_
  refine lv_icmp_ne (tgt := 14) C.1.1 C.1.2.1 dX19_system_7 (by decide) (fun c33 => ?_) (fun c33 => ?_)
  · replace hD := g_neg c33 hD
    refine lv_iconst (v := 0) C.1.1 C.1.2.1 dX19_system_14 (by decide) ?_
    exact hb15 0 M L _ _ ls hD hw (lv_sub hl [0] rfl)
  · replace hD := g_pos c33 hD
    refine lv_iconst (v := 1) C.1.1 C.1.2.1 dX19_system_10 (by decide) ?_
    refine lv_goto (tgt := 15) C.1.1 C.1.2.1 dX19_system_11 (by decide) ?_
    exact hb15 1 M L _ _ ls hD hw (lv_sub hl [0] rfl)

theorem dX19_put_0 : decode cX19_put 0 = .ok (.aload_n 0, 1) := by decide +kernel
theorem dX19_put_1 : decode cX19_put 1 = .ok (.getfield 184, 3) := by decide +kernel
theorem dX19_put_4 : decode cX19_put 4 = .ok (.iload_n 1, 1) := by decide +kernel
theorem dX19_put_5 : decode cX19_put 5 = .ok (.iload_n 2, 1) := by decide +kernel
theorem dX19_put_6 : decode cX19_put 6 = .ok (.iconst 0, 1) := by decide +kernel
theorem dX19_put_7 : decode cX19_put 7 = .ok (.bipush 8, 2) := by decide +kernel
theorem dX19_put_9 : decode cX19_put 9 = .ok (.invokevirtual 646, 3) := by decide +kernel
theorem dX19_put_12 : decode cX19_put 12 = .ok (.istore 4, 2) := by decide +kernel
theorem dX19_put_14 : decode cX19_put 14 = .ok (.aload_n 0, 1) := by decide +kernel
theorem dX19_put_15 : decode cX19_put 15 = .ok (.getfield 184, 3) := by decide +kernel
theorem dX19_put_18 : decode cX19_put 18 = .ok (.invokevirtual 649, 3) := by decide +kernel
theorem dX19_put_21 : decode cX19_put 21 = .ok (.ifCond .le 15, 3) := by decide +kernel
theorem dX19_put_24 : decode cX19_put 24 = .ok (.aload_n 0, 1) := by decide +kernel
theorem dX19_put_25 : decode cX19_put 25 = .ok (.getfield 273, 3) := by decide +kernel
theorem dX19_put_28 : decode cX19_put 28 = .ok (.iconst 0, 1) := by decide +kernel
theorem dX19_put_29 : decode cX19_put 29 = .ok (.dup2, 1) := by decide +kernel
theorem dX19_put_30 : decode cX19_put 30 = .ok (.iaload, 1) := by decide +kernel
theorem dX19_put_31 : decode cX19_put 31 = .ok (.iconst 1, 1) := by decide +kernel
theorem dX19_put_32 : decode cX19_put 32 = .ok (.iadd, 1) := by decide +kernel
theorem dX19_put_33 : decode cX19_put 33 = .ok (.iastore, 1) := by decide +kernel
theorem dX19_put_34 : decode cX19_put 34 = .ok (.iconst 0, 1) := by decide +kernel
theorem dX19_put_35 : decode cX19_put 35 = .ok (.ireturn, 1) := by decide +kernel
theorem dX19_put_36 : decode cX19_put 36 = .ok (.iconst 0, 1) := by decide +kernel
theorem dX19_put_37 : decode cX19_put 37 = .ok (.istore 5, 2) := by decide +kernel
theorem dX19_put_39 : decode cX19_put 39 = .ok (.iload 5, 2) := by decide +kernel
theorem dX19_put_41 : decode cX19_put 41 = .ok (.bipush 8, 2) := by decide +kernel
theorem dX19_put_43 : decode cX19_put 43 = .ok (.if_icmp .ge 27, 3) := by decide +kernel
theorem dX19_put_46 : decode cX19_put 46 = .ok (.aload_n 0, 1) := by decide +kernel
theorem dX19_put_47 : decode cX19_put 47 = .ok (.getfield 184, 3) := by decide +kernel
theorem dX19_put_50 : decode cX19_put 50 = .ok (.iload 4, 2) := by decide +kernel
theorem dX19_put_52 : decode cX19_put 52 = .ok (.iload 5, 2) := by decide +kernel
theorem dX19_put_54 : decode cX19_put 54 = .ok (.aload_n 0, 1) := by decide +kernel
theorem dX19_put_55 : decode cX19_put 55 = .ok (.getfield 230, 3) := by decide +kernel
theorem dX19_put_58 : decode cX19_put 58 = .ok (.iload 5, 2) := by decide +kernel
theorem dX19_put_60 : decode cX19_put 60 = .ok (.iaload, 1) := by decide +kernel
theorem dX19_put_61 : decode cX19_put 61 = .ok (.invokevirtual 652, 3) := by decide +kernel
theorem dX19_put_64 : decode cX19_put 64 = .ok (.iinc 5 1, 3) := by decide +kernel
theorem dX19_put_67 : decode cX19_put 67 = .ok (.goto (-28), 3) := by decide +kernel
theorem dX19_put_70 : decode cX19_put 70 = .ok (.iload_n 3, 1) := by decide +kernel
theorem dX19_put_71 : decode cX19_put 71 = .ok (.ifCond .le 33, 3) := by decide +kernel
theorem dX19_put_74 : decode cX19_put 74 = .ok (.aload_n 0, 1) := by decide +kernel
theorem dX19_put_75 : decode cX19_put 75 = .ok (.getfield 239, 3) := by decide +kernel
theorem dX19_put_78 : decode cX19_put 78 = .ok (.aload_n 0, 1) := by decide +kernel
theorem dX19_put_79 : decode cX19_put 79 = .ok (.getfield 606, 3) := by decide +kernel
theorem dX19_put_82 : decode cX19_put 82 = .ok (.iload_n 3, 1) := by decide +kernel
theorem dX19_put_83 : decode cX19_put 83 = .ok (.iastore, 1) := by decide +kernel
theorem dX19_put_84 : decode cX19_put 84 = .ok (.aload_n 0, 1) := by decide +kernel
theorem dX19_put_85 : decode cX19_put 85 = .ok (.getfield 242, 3) := by decide +kernel
theorem dX19_put_88 : decode cX19_put 88 = .ok (.aload_n 0, 1) := by decide +kernel
theorem dX19_put_89 : decode cX19_put 89 = .ok (.getfield 606, 3) := by decide +kernel
theorem dX19_put_92 : decode cX19_put 92 = .ok (.iload_n 2, 1) := by decide +kernel
theorem dX19_put_93 : decode cX19_put 93 = .ok (.iastore, 1) := by decide +kernel
theorem dX19_put_94 : decode cX19_put 94 = .ok (.aload_n 0, 1) := by decide +kernel
theorem dX19_put_95 : decode cX19_put 95 = .ok (.dup, 1) := by decide +kernel
theorem dX19_put_96 : decode cX19_put 96 = .ok (.getfield 606, 3) := by decide +kernel
theorem dX19_put_99 : decode cX19_put 99 = .ok (.iconst 1, 1) := by decide +kernel
theorem dX19_put_100 : decode cX19_put 100 = .ok (.iadd, 1) := by decide +kernel
theorem dX19_put_101 : decode cX19_put 101 = .ok (.putfield 606, 3) := by decide +kernel
theorem dX19_put_104 : decode cX19_put 104 = .ok (.iconst 1, 1) := by decide +kernel
theorem dX19_put_105 : decode cX19_put 105 = .ok (.ireturn, 1) := by decide +kernel
theorem cwX19_put : mw_cwV yX19_put cX19_put 6 ((some .boolean)) 3 := ⟨⟨wd_13, wd_3617, by decide +kernel⟩, wd_3616, sl_227⟩
set_option maxHeartbeats 4000000 in
set_option maxRecDepth 100000 in
theorem tX19_put (l : Launch) (G : mwG) (ad : Nat → Nat) (fu : Nat) (a1 : Int32) (a2 : Int32) (a3 : Int32) (M : mwM) (L : mwL) {r0 : Int32} {M0 : mwM} {L0 : mwL} (hD : DX19_put fu a1 a2 a3 M L = some (r0, M0, L0)) : Met l yX19_put (Cond.code yX19_put cX19_put 6 ((some .boolean)) :: GT) ({ frames := 2, cells := 0, slots := 0, locals := 47 }) (mw_Pre G ad NF TF FF M L [.ref (ad 732), .int a1, .int a2, .int a3]) (mw_Qi G ad NF TF FF (mw_eqI r0 M0 L0)) 0 0 (mw_fr G) := by
  refine mw_enter (by decide) (Nat.le_of_ble_eq_true rfl) ?_
  intro p e s m below meth c ls C hr hlocks hnm hw hl
  have hl : lv_has ls 6 [(0, .ref (ad 732)), (1, .int a1), (2, .int a2), (3, .int a3)] := hl
  have hb104 : ∀ (M : mwM) (L : mwL) (H : Heap) (locs : List Loc) (ls : Array Slot), fX19_put_b104 fu a1 a2 a3 M L = some (r0, M0, L0) → mw_W G ad NF TF FF M L H locs → lv_has ls 6 [] → W p l e ({ frames := 2, cells := 0, slots := 0, locals := 47 }) s m [.ref (ad 732), .int a1, .int a2, .int a3].toArray below meth c H locs 0 0 (MQ below (mw_Qi G ad NF TF FF (mw_eqI r0 M0 L0)) [.ref (ad 732), .int a1, .int a2, .int a3].toArray s 0 0 (mw_fr G)) (F0 m 104 ls []) := by
    intro M L H locs ls hD hw hl
    unfold fX19_put_b104 at hD
    refine lv_iconst (v := 1) C.1.1 C.1.2.1 dX19_put_104 (by decide) ?_
    exact mr_iret C hr hlocks hw (by decide +kernel) (Option.some.inj hD) dX19_put_105
  have hh39 : ∀ (f : Nat) (v4 : Int32) (v5 : Int32) (M : mwM) (L : mwL) (H : Heap) (locs : List Loc) (ls : Array Slot), fX19_put_h39 fu a1 a2 a3 f (v4, v5, M, L) = some (r0, M0, L0) → mw_W G ad NF TF FF M L H locs → lv_has ls 6 [(0, .ref (ad 732)), (2, .int a2), (3, .int a3), (4, .int v4), (5, .int v5)] → W p l e ({ frames := 2, cells := 0, slots := 0, locals := 47 }) s m [.ref (ad 732), .int a1, .int a2, .int a3].toArray below meth c H locs 0 0 (MQ below (mw_Qi G ad NF TF FF (mw_eqI r0 M0 L0)) [.ref (ad 732), .int a1, .int a2, .int a3].toArray s 0 0 (mw_fr G)) (F0 m 39 ls []) := by
    intro f
    induction f with
    | zero => intro v4 v5 M L H locs ls hD; cases hD
    | succ f39 ih39 =>
      intro v4 v5 M L H locs ls hD hw hl
      replace hD : fX19_put_i39 fu a1 a2 a3 (fX19_put_h39 fu a1 a2 a3 f39) v4 v5 M L = some (r0, M0, L0) := hD
      unfold fX19_put_i39 at hD
      refine lv_iload C.1.1 C.1.2.1 dX19_put_39 (lv_at hl 4 rfl) ?_
      refine lv_bipush (v := 8) C.1.1 C.1.2.1 dX19_put_41 (by decide) ?_
      refine lv_icmp_ge (tgt := 70) C.1.1 C.1.2.1 dX19_put_43 (by decide) (fun c1 => ?_) (fun c1 => ?_)
      · replace hD := g_pos c1 hD
        refine lv_iload_n C.1.1 C.1.2.1 dX19_put_70 rfl (lv_at hl 2 rfl) ?_
        refine lv_if_le (tgt := 104) C.1.1 C.1.2.1 dX19_put_71 (by decide) (fun c2 => ?_) (fun c2 => ?_)
        · replace hD := g_pos c2 hD
          exact hb104 M L _ _ ls hD hw (lv_sub hl [] rfl)
        · replace hD := g_neg c2 hD
          refine lv_aload_n C.1.1 C.1.2.1 dX19_put_74 rfl (lv_at hl 0 rfl) ?_
          refine mr_getR C hw kc_19 92 (by decide) tf_732 ff_732_92 wd_2873 dX19_put_75 (by decide) rfl ?_
          refine lv_aload_n C.1.1 C.1.2.1 dX19_put_78 rfl (lv_at hl 0 rfl) ?_
          refine mr_getI C hw kc_19 91 (by decide) tf_732 wd_2872 dX19_put_79 (by decide) rfl ?_
          refine lv_iload_n C.1.1 C.1.2.1 dX19_put_82 rfl (lv_at hl 2 rfl) ?_
          obtain ⟨q3, hD⟩ := g_ck hD
          obtain ⟨M4, eM4, hD⟩ := g_let hD
          refine mr_iast C hw (by decide) tf_929 q3 dX19_put_83 (fun H locs hw => ?_)
          replace hw : mw_W G ad NF TF FF M4 L H locs := by rw [eM4]; exact hw
          refine lv_aload_n C.1.1 C.1.2.1 dX19_put_84 rfl (lv_at hl 0 rfl) ?_
          refine mr_getR C hw kc_19 93 (by decide) tf_732 ff_732_93 wd_2874 dX19_put_85 (by decide) rfl ?_
          refine lv_aload_n C.1.1 C.1.2.1 dX19_put_88 rfl (lv_at hl 0 rfl) ?_
          refine mr_getI C hw kc_19 91 (by decide) tf_732 wd_2872 dX19_put_89 (by decide) rfl ?_
          refine lv_iload_n C.1.1 C.1.2.1 dX19_put_92 rfl (lv_at hl 1 rfl) ?_
          obtain ⟨q5, hD⟩ := g_ck hD
          obtain ⟨M6, eM6, hD⟩ := g_let hD
          refine mr_iast C hw (by decide) tf_930 q5 dX19_put_93 (fun H locs hw => ?_)
          replace hw : mw_W G ad NF TF FF M6 L H locs := by rw [eM6]; exact hw
          refine lv_aload_n C.1.1 C.1.2.1 dX19_put_94 rfl (lv_at hl 0 rfl) ?_
          refine lv_dup C.1.1 C.1.2.1 dX19_put_95 rfl ?_
          refine mr_getI C hw kc_19 91 (by decide) tf_732 wd_2872 dX19_put_96 (by decide) rfl ?_
          refine lv_iconst (v := 1) C.1.1 C.1.2.1 dX19_put_99 (by decide) ?_
          refine lv_iadd C.1.1 C.1.2.1 dX19_put_100 ?_
          obtain ⟨M7, eM7, hD⟩ := g_let hD
          refine mr_putI C hw kc_19 91 (by decide) tf_732 wd_2872 dX19_put_101 (by decide) rfl rfl rfl rfl (fun H locs hw => ?_)
          replace hw : mw_W G ad NF TF FF M7 L H locs := by rw [eM7]; exact hw
          exact hb104 M7 L _ _ ls hD hw (lv_sub hl [] rfl)
      · replace hD := g_neg c1 hD
        refine lv_aload_n C.1.1 C.1.2.1 dX19_put_46 rfl (lv_at hl 0 rfl) ?_
        refine mr_getR C hw kc_19 77 (by decide) tf_732 ff_732_77 wd_2858 dX19_put_47 (by decide) rfl ?_
        refine lv_iload C.1.1 C.1.2.1 dX19_put_50 (lv_at hl 3 rfl) ?_
        refine lv_iload C.1.1 C.1.2.1 dX19_put_52 (lv_at hl 4 rfl) ?_
        refine lv_aload_n C.1.1 C.1.2.1 dX19_put_54 rfl (lv_at hl 0 rfl) ?_
        refine mr_getR C hw kc_19 87 (by decide) tf_732 ff_732_87 wd_2868 dX19_put_55 (by decide) rfl ?_
        refine lv_iload C.1.1 C.1.2.1 dX19_put_58 (lv_at hl 4 rfl) ?_
        obtain ⟨q8, hD⟩ := g_ck hD
        refine mr_iald C hw (by decide) tf_926 q8 dX19_put_60 ?_
        obtain ⟨M9, L10, h1, hD⟩ := g_b2 hD
        refine md_cvV (As := [.int v4, .int v5, .int (M 926 v5.toNatClampNeg)]) (rest := []) C hw (tX12_octet l G ad fu v4 v5 (M 926 v5.toNatClampNeg) M L h1) kc_12 (by decide) tf_821 wd_3631 cwX12_octet ⟨Nat.le_of_ble_eq_true rfl, Nat.le_of_ble_eq_true rfl⟩ rfl hl.1 (Nat.le_of_ble_eq_true rfl) dX19_put_61 rfl rfl ⟨Nat.zero_le _, Nat.zero_le _⟩ rfl (fun H locs hw => ?_)
        obtain ⟨x11, ex11, hD⟩ := g_let hD
        refine lv_iinc (v := x11) (lv' := [(5, .int x11), (0, .ref (ad 732)), (2, .int a2), (3, .int a3), (4, .int v4)]) C.1.1 C.1.2.1 dX19_put_64 hl (k := 4) rfl (by rw [ex11]; rfl) (by decide) rfl (fun ls hl => ?_)
        refine lv_goto (tgt := 39) C.1.1 C.1.2.1 dX19_put_67 (by decide) ?_
        exact ih39 v4 x11 M9 L10 _ _ ls hD hw (lv_sub hl [1, 2, 3, 4, 0] rfl)
  unfold DX19_put at hD
  refine lv_aload_n C.1.1 C.1.2.1 dX19_put_0 rfl (lv_at hl 0 rfl) ?_
  refine mr_getR C hw kc_19 77 (by decide) tf_732 ff_732_77 wd_2858 dX19_put_1 (by decide) rfl ?_
  refine lv_iload_n C.1.1 C.1.2.1 dX19_put_4 rfl (lv_at hl 1 rfl) ?_
  refine lv_iload_n C.1.1 C.1.2.1 dX19_put_5 rfl (lv_at hl 2 rfl) ?_
  refine lv_iconst (v := 0) C.1.1 C.1.2.1 dX19_put_6 (by decide) ?_
  refine lv_bipush (v := 8) C.1.1 C.1.2.1 dX19_put_7 (by decide) ?_
  obtain ⟨r14, M12, L13, h1, hD⟩ := g_b3 hD
  refine md_cvI (As := [.int a1, .int a2, .int 0, .int 8]) (rest := []) C hw (tX12_send l G ad fu a1 a2 0 8 M L h1) kc_12 (by decide) tf_821 wd_3618 cwX12_send ⟨Nat.le_of_ble_eq_true rfl, Nat.le_of_ble_eq_true rfl⟩ rfl hl.1 (Nat.le_of_ble_eq_true rfl) dX19_put_9 rfl rfl ⟨Nat.zero_le _, Nat.zero_le _⟩ rfl (fun H locs hw => ?_)
  refine lv_istore (lv' := [(4, .int r14), (0, .ref (ad 732)), (1, .int a1), (2, .int a2), (3, .int a3)]) C.1.1 C.1.2.1 dX19_put_12 hl (by decide) rfl (fun ls hl => ?_)
  refine lv_aload_n C.1.1 C.1.2.1 dX19_put_14 rfl (lv_at hl 1 rfl) ?_
  refine mr_getR C hw kc_19 77 (by decide) tf_732 ff_732_77 wd_2858 dX19_put_15 (by decide) rfl ?_
  obtain ⟨r17, M15, L16, h1, hD⟩ := g_b3 hD
  refine md_cvI (As := []) (rest := []) C hw (tX12_thrown l G ad fu M12 L13 h1) kc_12 (by decide) tf_821 wd_3627 cwX12_thrown ⟨Nat.le_of_ble_eq_true rfl, Nat.le_of_ble_eq_true rfl⟩ rfl hl.1 (Nat.le_of_ble_eq_true rfl) dX19_put_18 rfl rfl ⟨Nat.zero_le _, Nat.zero_le _⟩ rfl (fun H locs hw => ?_)
  refine lv_if_le (tgt := 36) C.1.1 C.1.2.1 dX19_put_21 (by decide) (fun c18 => ?_) (fun c18 => ?_)
  · replace hD := g_pos c18 hD
    refine lv_iconst (v := 0) C.1.1 C.1.2.1 dX19_put_36 (by decide) ?_
    refine lv_istore (lv' := [(5, .int 0), (4, .int r14), (0, .ref (ad 732)), (1, .int a1), (2, .int a2), (3, .int a3)]) C.1.1 C.1.2.1 dX19_put_37 hl (by decide) rfl (fun ls hl => ?_)
    exact hh39 fu r14 0 M15 L16 _ _ ls hD hw (lv_sub hl [2, 4, 5, 1, 0] rfl)
  · replace hD := g_neg c18 hD
    refine lv_aload_n C.1.1 C.1.2.1 dX19_put_24 rfl (lv_at hl 1 rfl) ?_
    refine mr_getR C hw kc_19 109 (by decide) tf_732 ff_732_109 wd_2890 dX19_put_25 (by decide) rfl ?_
    refine lv_iconst (v := 0) C.1.1 C.1.2.1 dX19_put_28 (by decide) ?_
    refine lv_dup2_11 C.1.1 C.1.2.1 dX19_put_29 rfl rfl ?_
    refine mr_iald C hw (by decide) tf_939 (show vp_in 0 5 from by unfold vp_in; decide) dX19_put_30 ?_
    refine lv_iconst (v := 1) C.1.1 C.1.2.1 dX19_put_31 (by decide) ?_
    refine lv_iadd C.1.1 C.1.2.1 dX19_put_32 ?_
    obtain ⟨M21, eM21, hD⟩ := g_let hD
    refine mr_iast C hw (by decide) tf_939 (show vp_in 0 5 from by unfold vp_in; decide) dX19_put_33 (fun H locs hw => ?_)
    replace hw : mw_W G ad NF TF FF M21 L16 H locs := by rw [eM21]; exact hw
    refine lv_iconst (v := 0) C.1.1 C.1.2.1 dX19_put_34 (by decide) ?_
    exact mr_iret C hr hlocks hw (by decide +kernel) (Option.some.inj hD) dX19_put_35

theorem dX19_codeOf_0 : decode cX19_codeOf 0 = .ok (.aload_n 0, 1) := by decide +kernel
theorem dX19_codeOf_1 : decode cX19_codeOf 1 = .ok (.getfield 191, 3) := by decide +kernel
theorem dX19_codeOf_4 : decode cX19_codeOf 4 = .ok (.aload_n 0, 1) := by decide +kernel
theorem dX19_codeOf_5 : decode cX19_codeOf 5 = .ok (.getfield 165, 3) := by decide +kernel
theorem dX19_codeOf_8 : decode cX19_codeOf 8 = .ok (.iload_n 1, 1) := by decide +kernel
theorem dX19_codeOf_9 : decode cX19_codeOf 9 = .ok (.iaload, 1) := by decide +kernel
theorem dX19_codeOf_10 : decode cX19_codeOf 10 = .ok (.i2b, 1) := by decide +kernel
theorem dX19_codeOf_11 : decode cX19_codeOf 11 = .ok (.invokevirtual 656, 3) := by decide +kernel
theorem dX19_codeOf_14 : decode cX19_codeOf 14 = .ok (.iconst 0, 1) := by decide +kernel
theorem dX19_codeOf_15 : decode cX19_codeOf 15 = .ok (.istore 4, 2) := by decide +kernel
theorem dX19_codeOf_17 : decode cX19_codeOf 17 = .ok (.iload 4, 2) := by decide +kernel
theorem dX19_codeOf_19 : decode cX19_codeOf 19 = .ok (.bipush 8, 2) := by decide +kernel
theorem dX19_codeOf_21 : decode cX19_codeOf 21 = .ok (.if_icmp .ge 28, 3) := by decide +kernel
theorem dX19_codeOf_24 : decode cX19_codeOf 24 = .ok (.aload_n 0, 1) := by decide +kernel
theorem dX19_codeOf_25 : decode cX19_codeOf 25 = .ok (.getfield 191, 3) := by decide +kernel
theorem dX19_codeOf_28 : decode cX19_codeOf 28 = .ok (.lload_n 2, 1) := by decide +kernel
theorem dX19_codeOf_29 : decode cX19_codeOf 29 = .ok (.bipush 56, 2) := by decide +kernel
theorem dX19_codeOf_31 : decode cX19_codeOf 31 = .ok (.bipush 8, 2) := by decide +kernel
theorem dX19_codeOf_33 : decode cX19_codeOf 33 = .ok (.iload 4, 2) := by decide +kernel
theorem dX19_codeOf_35 : decode cX19_codeOf 35 = .ok (.imul, 1) := by decide +kernel
theorem dX19_codeOf_36 : decode cX19_codeOf 36 = .ok (.isub, 1) := by decide +kernel
theorem dX19_codeOf_37 : decode cX19_codeOf 37 = .ok (.lshr, 1) := by decide +kernel
theorem dX19_codeOf_38 : decode cX19_codeOf 38 = .ok (.l2i, 1) := by decide +kernel
theorem dX19_codeOf_39 : decode cX19_codeOf 39 = .ok (.i2b, 1) := by decide +kernel
theorem dX19_codeOf_40 : decode cX19_codeOf 40 = .ok (.invokevirtual 656, 3) := by decide +kernel
theorem dX19_codeOf_43 : decode cX19_codeOf 43 = .ok (.iinc 4 1, 3) := by decide +kernel
theorem dX19_codeOf_46 : decode cX19_codeOf 46 = .ok (.goto (-29), 3) := by decide +kernel
theorem dX19_codeOf_49 : decode cX19_codeOf 49 = .ok (.iconst 0, 1) := by decide +kernel
theorem dX19_codeOf_50 : decode cX19_codeOf 50 = .ok (.istore 4, 2) := by decide +kernel
theorem dX19_codeOf_52 : decode cX19_codeOf 52 = .ok (.iload 4, 2) := by decide +kernel
theorem dX19_codeOf_54 : decode cX19_codeOf 54 = .ok (.iconst 3, 1) := by decide +kernel
theorem dX19_codeOf_55 : decode cX19_codeOf 55 = .ok (.if_icmp .ge 24, 3) := by decide +kernel
theorem dX19_codeOf_58 : decode cX19_codeOf 58 = .ok (.aload_n 0, 1) := by decide +kernel
theorem dX19_codeOf_59 : decode cX19_codeOf 59 = .ok (.getfield 191, 3) := by decide +kernel
theorem dX19_codeOf_62 : decode cX19_codeOf 62 = .ok (.aload_n 0, 1) := by decide +kernel
theorem dX19_codeOf_63 : decode cX19_codeOf 63 = .ok (.getfield 230, 3) := by decide +kernel
theorem dX19_codeOf_66 : decode cX19_codeOf 66 = .ok (.iload 4, 2) := by decide +kernel
theorem dX19_codeOf_68 : decode cX19_codeOf 68 = .ok (.iaload, 1) := by decide +kernel
theorem dX19_codeOf_69 : decode cX19_codeOf 69 = .ok (.i2b, 1) := by decide +kernel
theorem dX19_codeOf_70 : decode cX19_codeOf 70 = .ok (.invokevirtual 656, 3) := by decide +kernel
theorem dX19_codeOf_73 : decode cX19_codeOf 73 = .ok (.iinc 4 1, 3) := by decide +kernel
theorem dX19_codeOf_76 : decode cX19_codeOf 76 = .ok (.goto (-24), 3) := by decide +kernel
theorem dX19_codeOf_79 : decode cX19_codeOf 79 = .ok (.aload_n 0, 1) := by decide +kernel
theorem dX19_codeOf_80 : decode cX19_codeOf 80 = .ok (.getfield 191, 3) := by decide +kernel
theorem dX19_codeOf_83 : decode cX19_codeOf 83 = .ok (.aload_n 0, 1) := by decide +kernel
theorem dX19_codeOf_84 : decode cX19_codeOf 84 = .ok (.getfield 162, 3) := by decide +kernel
theorem dX19_codeOf_87 : decode cX19_codeOf 87 = .ok (.iload_n 1, 1) := by decide +kernel
theorem dX19_codeOf_88 : decode cX19_codeOf 88 = .ok (.iaload, 1) := by decide +kernel
theorem dX19_codeOf_89 : decode cX19_codeOf 89 = .ok (.bipush 32, 2) := by decide +kernel
theorem dX19_codeOf_91 : decode cX19_codeOf 91 = .ok (.invokevirtual 659, 3) := by decide +kernel
theorem dX19_codeOf_94 : decode cX19_codeOf 94 = .ok (.istore 4, 2) := by decide +kernel
theorem dX19_codeOf_96 : decode cX19_codeOf 96 = .ok (.return_, 1) := by decide +kernel
theorem cwX19_codeOf : mw_cwV yX19_codeOf cX19_codeOf 5 (none) 2 := ⟨⟨wd_13, wd_3577, by decide +kernel⟩, wd_3576, sl_220⟩
set_option maxHeartbeats 4000000 in
set_option maxRecDepth 100000 in
theorem tX19_codeOf (l : Launch) (G : mwG) (ad : Nat → Nat) (fu : Nat) (a1 : Int32) (a2 : Int64) (M : mwM) (L : mwL) {M0 : mwM} {L0 : mwL} (hD : DX19_codeOf fu a1 a2 M L = some (M0, L0)) : Met l yX19_codeOf (Cond.code yX19_codeOf cX19_codeOf 5 (none) :: GT) ({ frames := 5, cells := 0, slots := 0, locals := 126 }) (mw_Pre G ad NF TF FF M L [.ref (ad 732), .int a1, .long a2]) (mw_Qv G ad NF TF FF (mw_eqV M0 L0)) 0 0 (mw_fr G) := by
  refine mw_enter (by decide) (Nat.le_of_ble_eq_true rfl) ?_
  intro p e s m below meth c ls C hr hlocks hnm hw hl
  have hl : lv_has ls 5 [(0, .ref (ad 732)), (1, .int a1), (2, .long a2)] := hl
  have hh52 : ∀ (f : Nat) (v4 : Int32) (M : mwM) (L : mwL) (H : Heap) (locs : List Loc) (ls : Array Slot), fX19_codeOf_h52 fu a1 a2 f (v4, M, L) = some (M0, L0) → mw_W G ad NF TF FF M L H locs → lv_has ls 5 [(0, .ref (ad 732)), (1, .int a1), (4, .int v4)] → W p l e ({ frames := 5, cells := 0, slots := 0, locals := 126 }) s m [.ref (ad 732), .int a1, .long a2].toArray below meth c H locs 0 0 (MQ below (mw_Qv G ad NF TF FF (mw_eqV M0 L0)) [.ref (ad 732), .int a1, .long a2].toArray s 0 0 (mw_fr G)) (F0 m 52 ls []) := by
    intro f
    induction f with
    | zero => intro v4 M L H locs ls hD; cases hD
    | succ f52 ih52 =>
      intro v4 M L H locs ls hD hw hl
      replace hD : fX19_codeOf_i52 fu a1 a2 (fX19_codeOf_h52 fu a1 a2 f52) v4 M L = some (M0, L0) := hD
      unfold fX19_codeOf_i52 at hD
      refine lv_iload C.1.1 C.1.2.1 dX19_codeOf_52 (lv_at hl 2 rfl) ?_
      refine lv_iconst (v := 3) C.1.1 C.1.2.1 dX19_codeOf_54 (by decide) ?_
      refine lv_icmp_ge (tgt := 79) C.1.1 C.1.2.1 dX19_codeOf_55 (by decide) (fun c5 => ?_) (fun c5 => ?_)
      · replace hD := g_pos c5 hD
        refine lv_aload_n C.1.1 C.1.2.1 dX19_codeOf_79 rfl (lv_at hl 0 rfl) ?_
        refine mr_getR C hw kc_19 78 (by decide) tf_732 ff_732_78 wd_2859 dX19_codeOf_80 (by decide) rfl ?_
        refine lv_aload_n C.1.1 C.1.2.1 dX19_codeOf_83 rfl (lv_at hl 0 rfl) ?_
        refine mr_getR C hw kc_19 72 (by decide) tf_732 ff_732_72 wd_2853 dX19_codeOf_84 (by decide) rfl ?_
        refine lv_iload_n C.1.1 C.1.2.1 dX19_codeOf_87 rfl (lv_at hl 1 rfl) ?_
        obtain ⟨q6, hD⟩ := g_ck hD
        refine mr_iald C hw (by decide) tf_783 q6 dX19_codeOf_88 ?_
        refine lv_bipush (v := 32) C.1.1 C.1.2.1 dX19_codeOf_89 (by decide) ?_
        obtain ⟨r9, M7, L8, h1, hD⟩ := g_b3 hD
        refine md_cvI (As := [.int (M 783 a1.toNatClampNeg), .int 32]) (rest := []) C hw (tX14_code l G ad fu (M 783 a1.toNatClampNeg) 32 M L h1) kc_14 (by decide) tf_854 wd_3582 cwX14_code ⟨Nat.le_of_ble_eq_true rfl, Nat.le_of_ble_eq_true rfl⟩ rfl hl.1 (Nat.le_of_ble_eq_true rfl) dX19_codeOf_91 rfl rfl ⟨Nat.zero_le _, Nat.zero_le _⟩ rfl (fun H locs hw => ?_)
        refine lv_istore (lv' := [(4, .int r9), (0, .ref (ad 732)), (1, .int a1)]) C.1.1 C.1.2.1 dX19_codeOf_94 hl (by decide) rfl (fun ls hl => ?_)
        exact mr_vret C hr hlocks hw (Option.some.inj hD) dX19_codeOf_96
      · replace hD := g_neg c5 hD
        refine lv_aload_n C.1.1 C.1.2.1 dX19_codeOf_58 rfl (lv_at hl 0 rfl) ?_
        refine mr_getR C hw kc_19 78 (by decide) tf_732 ff_732_78 wd_2859 dX19_codeOf_59 (by decide) rfl ?_
        refine lv_aload_n C.1.1 C.1.2.1 dX19_codeOf_62 rfl (lv_at hl 0 rfl) ?_
        refine mr_getR C hw kc_19 87 (by decide) tf_732 ff_732_87 wd_2868 dX19_codeOf_63 (by decide) rfl ?_
        refine lv_iload C.1.1 C.1.2.1 dX19_codeOf_66 (lv_at hl 2 rfl) ?_
        obtain ⟨q10, hD⟩ := g_ck hD
        refine mr_iald C hw (by decide) tf_926 q10 dX19_codeOf_68 ?_
        refine lv_i2b C.1.1 C.1.2.1 dX19_codeOf_69 rfl ?_
        obtain ⟨M11, L12, h1, hD⟩ := g_b2 hD
        refine md_cvV (As := [.int ((M 926 v4.toNatClampNeg).toInt8.toInt32)]) (rest := []) C hw (tX14_octet l G ad fu ((M 926 v4.toNatClampNeg).toInt8.toInt32) M L h1) kc_14 (by decide) tf_854 wd_3578 cwX14_octet ⟨Nat.le_of_ble_eq_true rfl, Nat.le_of_ble_eq_true rfl⟩ rfl hl.1 (Nat.le_of_ble_eq_true rfl) dX19_codeOf_70 rfl rfl ⟨Nat.zero_le _, Nat.zero_le _⟩ rfl (fun H locs hw => ?_)
        obtain ⟨x13, ex13, hD⟩ := g_let hD
        refine lv_iinc (v := x13) (lv' := [(4, .int x13), (0, .ref (ad 732)), (1, .int a1)]) C.1.1 C.1.2.1 dX19_codeOf_73 hl (k := 2) rfl (by rw [ex13]; rfl) (by decide) rfl (fun ls hl => ?_)
        refine lv_goto (tgt := 52) C.1.1 C.1.2.1 dX19_codeOf_76 (by decide) ?_
        exact ih52 x13 M11 L12 _ _ ls hD hw (lv_sub hl [1, 2, 0] rfl)
  have hh17 : ∀ (f : Nat) (v4 : Int32) (M : mwM) (L : mwL) (H : Heap) (locs : List Loc) (ls : Array Slot), fX19_codeOf_h17 fu a1 a2 f (v4, M, L) = some (M0, L0) → mw_W G ad NF TF FF M L H locs → lv_has ls 5 [(0, .ref (ad 732)), (1, .int a1), (2, .long a2), (4, .int v4)] → W p l e ({ frames := 5, cells := 0, slots := 0, locals := 126 }) s m [.ref (ad 732), .int a1, .long a2].toArray below meth c H locs 0 0 (MQ below (mw_Qv G ad NF TF FF (mw_eqV M0 L0)) [.ref (ad 732), .int a1, .long a2].toArray s 0 0 (mw_fr G)) (F0 m 17 ls []) := by
    intro f
    induction f with
    | zero => intro v4 M L H locs ls hD; cases hD
    | succ f17 ih17 =>
      intro v4 M L H locs ls hD hw hl
      replace hD : fX19_codeOf_i17 fu a1 a2 (fX19_codeOf_h17 fu a1 a2 f17) v4 M L = some (M0, L0) := hD
      unfold fX19_codeOf_i17 at hD
      refine lv_iload C.1.1 C.1.2.1 dX19_codeOf_17 (lv_at hl 3 rfl) ?_
      refine lv_bipush (v := 8) C.1.1 C.1.2.1 dX19_codeOf_19 (by decide) ?_
      refine lv_icmp_ge (tgt := 49) C.1.1 C.1.2.1 dX19_codeOf_21 (by decide) (fun c1 => ?_) (fun c1 => ?_)
      · replace hD := g_pos c1 hD
        refine lv_iconst (v := 0) C.1.1 C.1.2.1 dX19_codeOf_49 (by decide) ?_
        refine lv_istore (lv' := [(4, .int 0), (0, .ref (ad 732)), (1, .int a1), (2, .long a2)]) C.1.1 C.1.2.1 dX19_codeOf_50 hl (by decide) rfl (fun ls hl => ?_)
        exact hh52 fu 0 M L _ _ ls hD hw (lv_sub hl [1, 2, 0] rfl)
      · replace hD := g_neg c1 hD
        refine lv_aload_n C.1.1 C.1.2.1 dX19_codeOf_24 rfl (lv_at hl 0 rfl) ?_
        refine mr_getR C hw kc_19 78 (by decide) tf_732 ff_732_78 wd_2859 dX19_codeOf_25 (by decide) rfl ?_
        refine lv_lload_n C.1.1 C.1.2.1 dX19_codeOf_28 rfl (lv_at hl 2 rfl) ?_
        refine lv_bipush (v := 56) C.1.1 C.1.2.1 dX19_codeOf_29 (by decide) ?_
        refine lv_bipush (v := 8) C.1.1 C.1.2.1 dX19_codeOf_31 (by decide) ?_
        refine lv_iload C.1.1 C.1.2.1 dX19_codeOf_33 (lv_at hl 3 rfl) ?_
        refine lv_imul C.1.1 C.1.2.1 dX19_codeOf_35 ?_
        refine lv_isub C.1.1 C.1.2.1 dX19_codeOf_36 ?_
        refine lv_lshr C.1.1 C.1.2.1 dX19_codeOf_37 rfl ?_
        refine lv_l2i C.1.1 C.1.2.1 dX19_codeOf_38 rfl ?_
        refine lv_i2b C.1.1 C.1.2.1 dX19_codeOf_39 rfl ?_
        obtain ⟨M2, L3, h1, hD⟩ := g_b2 hD
        refine md_cvV (As := [.int (((a2 >>> ((56 - (8 * v4)).toInt64 &&& 63)).toInt32).toInt8.toInt32)]) (rest := []) C hw (tX14_octet l G ad fu (((a2 >>> ((56 - (8 * v4)).toInt64 &&& 63)).toInt32).toInt8.toInt32) M L h1) kc_14 (by decide) tf_854 wd_3578 cwX14_octet ⟨Nat.le_of_ble_eq_true rfl, Nat.le_of_ble_eq_true rfl⟩ rfl hl.1 (Nat.le_of_ble_eq_true rfl) dX19_codeOf_40 rfl rfl ⟨Nat.zero_le _, Nat.zero_le _⟩ rfl (fun H locs hw => ?_)
        obtain ⟨x4, ex4, hD⟩ := g_let hD
        refine lv_iinc (v := x4) (lv' := [(4, .int x4), (0, .ref (ad 732)), (1, .int a1), (2, .long a2)]) C.1.1 C.1.2.1 dX19_codeOf_43 hl (k := 3) rfl (by rw [ex4]; rfl) (by decide) rfl (fun ls hl => ?_)
        refine lv_goto (tgt := 17) C.1.1 C.1.2.1 dX19_codeOf_46 (by decide) ?_
        exact ih17 x4 M2 L3 _ _ ls hD hw (lv_sub hl [1, 2, 3, 0] rfl)
  unfold DX19_codeOf at hD
  refine lv_aload_n C.1.1 C.1.2.1 dX19_codeOf_0 rfl (lv_at hl 0 rfl) ?_
  refine mr_getR C hw kc_19 78 (by decide) tf_732 ff_732_78 wd_2859 dX19_codeOf_1 (by decide) rfl ?_
  refine lv_aload_n C.1.1 C.1.2.1 dX19_codeOf_4 rfl (lv_at hl 0 rfl) ?_
  refine mr_getR C hw kc_19 73 (by decide) tf_732 ff_732_73 wd_2854 dX19_codeOf_5 (by decide) rfl ?_
  refine lv_iload_n C.1.1 C.1.2.1 dX19_codeOf_8 rfl (lv_at hl 1 rfl) ?_
  obtain ⟨q14, hD⟩ := g_ck hD
  refine mr_iald C hw (by decide) tf_784 q14 dX19_codeOf_9 ?_
  refine lv_i2b C.1.1 C.1.2.1 dX19_codeOf_10 rfl ?_
  obtain ⟨M15, L16, h1, hD⟩ := g_b2 hD
  refine md_cvV (As := [.int ((M 784 a1.toNatClampNeg).toInt8.toInt32)]) (rest := []) C hw (tX14_octet l G ad fu ((M 784 a1.toNatClampNeg).toInt8.toInt32) M L h1) kc_14 (by decide) tf_854 wd_3578 cwX14_octet ⟨Nat.le_of_ble_eq_true rfl, Nat.le_of_ble_eq_true rfl⟩ rfl hl.1 (Nat.le_of_ble_eq_true rfl) dX19_codeOf_11 rfl rfl ⟨Nat.zero_le _, Nat.zero_le _⟩ rfl (fun H locs hw => ?_)
  refine lv_iconst (v := 0) C.1.1 C.1.2.1 dX19_codeOf_14 (by decide) ?_
  refine lv_istore (lv' := [(4, .int 0), (0, .ref (ad 732)), (1, .int a1), (2, .long a2)]) C.1.1 C.1.2.1 dX19_codeOf_15 hl (by decide) rfl (fun ls hl => ?_)
  exact hh17 fu 0 M15 L16 _ _ ls hD hw (lv_sub hl [1, 2, 3, 0] rfl)

theorem dX19_send_0 : decode cX19_send 0 = .ok (.aload_n 0, 1) := by decide +kernel
theorem dX19_send_1 : decode cX19_send 1 = .ok (.getfield 211, 3) := by decide +kernel
theorem dX19_send_4 : decode cX19_send 4 = .ok (.aload_n 0, 1) := by decide +kernel
theorem dX19_send_5 : decode cX19_send 5 = .ok (.getfield 153, 3) := by decide +kernel
theorem dX19_send_8 : decode cX19_send 8 = .ok (.iload_n 1, 1) := by decide +kernel
theorem dX19_send_9 : decode cX19_send 9 = .ok (.iaload, 1) := by decide +kernel
theorem dX19_send_10 : decode cX19_send 10 = .ok (.aaload, 1) := by decide +kernel
theorem dX19_send_11 : decode cX19_send 11 = .ok (.astore_n 2, 1) := by decide +kernel
theorem dX19_send_12 : decode cX19_send 12 = .ok (.iconst 0, 1) := by decide +kernel
theorem dX19_send_13 : decode cX19_send 13 = .ok (.istore_n 3, 1) := by decide +kernel
theorem dX19_send_14 : decode cX19_send 14 = .ok (.iload_n 3, 1) := by decide +kernel
theorem dX19_send_15 : decode cX19_send 15 = .ok (.aload_n 0, 1) := by decide +kernel
theorem dX19_send_16 : decode cX19_send 16 = .ok (.getfield 541, 3) := by decide +kernel
theorem dX19_send_19 : decode cX19_send 19 = .ok (.if_icmp .ge 49, 3) := by decide +kernel
theorem dX19_send_22 : decode cX19_send 22 = .ok (.aload_n 0, 1) := by decide +kernel
theorem dX19_send_23 : decode cX19_send 23 = .ok (.getfield 113, 3) := by decide +kernel
theorem dX19_send_26 : decode cX19_send 26 = .ok (.iload_n 3, 1) := by decide +kernel
theorem dX19_send_27 : decode cX19_send 27 = .ok (.iaload, 1) := by decide +kernel
theorem dX19_send_28 : decode cX19_send 28 = .ok (.iload_n 1, 1) := by decide +kernel
theorem dX19_send_29 : decode cX19_send 29 = .ok (.if_icmp .ne 33, 3) := by decide +kernel
theorem dX19_send_32 : decode cX19_send 32 = .ok (.aload_n 2, 1) := by decide +kernel
theorem dX19_send_33 : decode cX19_send 33 = .ok (.aload_n 0, 1) := by decide +kernel
theorem dX19_send_34 : decode cX19_send 34 = .ok (.getfield 110, 3) := by decide +kernel
theorem dX19_send_37 : decode cX19_send 37 = .ok (.iload_n 3, 1) := by decide +kernel
theorem dX19_send_38 : decode cX19_send 38 = .ok (.iaload, 1) := by decide +kernel
theorem dX19_send_39 : decode cX19_send 39 = .ok (.aload_n 0, 1) := by decide +kernel
theorem dX19_send_40 : decode cX19_send 40 = .ok (.getfield 217, 3) := by decide +kernel
theorem dX19_send_43 : decode cX19_send 43 = .ok (.aload_n 0, 1) := by decide +kernel
theorem dX19_send_44 : decode cX19_send 44 = .ok (.getfield 97, 3) := by decide +kernel
theorem dX19_send_47 : decode cX19_send 47 = .ok (.iload_n 3, 1) := by decide +kernel
theorem dX19_send_48 : decode cX19_send 48 = .ok (.iaload, 1) := by decide +kernel
theorem dX19_send_49 : decode cX19_send 49 = .ok (.aaload, 1) := by decide +kernel
theorem dX19_send_50 : decode cX19_send 50 = .ok (.aload_n 0, 1) := by decide +kernel
theorem dX19_send_51 : decode cX19_send 51 = .ok (.getfield 100, 3) := by decide +kernel
theorem dX19_send_54 : decode cX19_send 54 = .ok (.iload_n 3, 1) := by decide +kernel
theorem dX19_send_55 : decode cX19_send 55 = .ok (.iaload, 1) := by decide +kernel
theorem dX19_send_56 : decode cX19_send 56 = .ok (.invokevirtual 661, 3) := by decide +kernel
theorem dX19_send_59 : decode cX19_send 59 = .ok (.invokevirtual 665, 3) := by decide +kernel
theorem dX19_send_62 : decode cX19_send 62 = .ok (.iinc 3 1, 3) := by decide +kernel
theorem dX19_send_65 : decode cX19_send 65 = .ok (.goto (-51), 3) := by decide +kernel
theorem dX19_send_68 : decode cX19_send 68 = .ok (.aload_n 0, 1) := by decide +kernel
theorem dX19_send_69 : decode cX19_send 69 = .ok (.getfield 162, 3) := by decide +kernel
theorem dX19_send_72 : decode cX19_send 72 = .ok (.iload_n 1, 1) := by decide +kernel
theorem dX19_send_73 : decode cX19_send 73 = .ok (.iaload, 1) := by decide +kernel
theorem dX19_send_74 : decode cX19_send 74 = .ok (.ifCond .le 7, 3) := by decide +kernel
theorem dX19_send_77 : decode cX19_send 77 = .ok (.iconst 3, 1) := by decide +kernel
theorem dX19_send_78 : decode cX19_send 78 = .ok (.goto 5, 3) := by decide +kernel
theorem dX19_send_81 : decode cX19_send 81 = .ok (.bipush 8, 2) := by decide +kernel
theorem dX19_send_83 : decode cX19_send 83 = .ok (.istore_n 3, 1) := by decide +kernel
theorem dX19_send_84 : decode cX19_send 84 = .ok (.iconst 0, 1) := by decide +kernel
theorem dX19_send_85 : decode cX19_send 85 = .ok (.istore 4, 2) := by decide +kernel
theorem dX19_send_87 : decode cX19_send 87 = .ok (.iload 4, 2) := by decide +kernel
theorem dX19_send_89 : decode cX19_send 89 = .ok (.bipush 8, 2) := by decide +kernel
theorem dX19_send_91 : decode cX19_send 91 = .ok (.if_icmp .ge 42, 3) := by decide +kernel
theorem dX19_send_94 : decode cX19_send 94 = .ok (.aload_n 0, 1) := by decide +kernel
theorem dX19_send_95 : decode cX19_send 95 = .ok (.getfield 230, 3) := by decide +kernel
theorem dX19_send_98 : decode cX19_send 98 = .ok (.iload 4, 2) := by decide +kernel
theorem dX19_send_100 : decode cX19_send 100 = .ok (.iload 4, 2) := by decide +kernel
theorem dX19_send_102 : decode cX19_send 102 = .ok (.iload_n 3, 1) := by decide +kernel
theorem dX19_send_103 : decode cX19_send 103 = .ok (.if_icmp .ge 22, 3) := by decide +kernel
theorem dX19_send_106 : decode cX19_send 106 = .ok (.aload_n 2, 1) := by decide +kernel
theorem dX19_send_107 : decode cX19_send 107 = .ok (.aload_n 0, 1) := by decide +kernel
theorem dX19_send_108 : decode cX19_send 108 = .ok (.getfield 156, 3) := by decide +kernel
theorem dX19_send_111 : decode cX19_send 111 = .ok (.iload_n 1, 1) := by decide +kernel
theorem dX19_send_112 : decode cX19_send 112 = .ok (.iaload, 1) := by decide +kernel
theorem dX19_send_113 : decode cX19_send 113 = .ok (.iload 4, 2) := by decide +kernel
theorem dX19_send_115 : decode cX19_send 115 = .ok (.invokevirtual 669, 3) := by decide +kernel
theorem dX19_send_118 : decode cX19_send 118 = .ok (.sipush 255, 3) := by decide +kernel
theorem dX19_send_121 : decode cX19_send 121 = .ok (.iand, 1) := by decide +kernel
theorem dX19_send_122 : decode cX19_send 122 = .ok (.goto 4, 3) := by decide +kernel
theorem dX19_send_125 : decode cX19_send 125 = .ok (.iconst 0, 1) := by decide +kernel
theorem dX19_send_126 : decode cX19_send 126 = .ok (.iastore, 1) := by decide +kernel
theorem dX19_send_127 : decode cX19_send 127 = .ok (.iinc 4 1, 3) := by decide +kernel
theorem dX19_send_130 : decode cX19_send 130 = .ok (.goto (-43), 3) := by decide +kernel
theorem dX19_send_133 : decode cX19_send 133 = .ok (.aload_n 0, 1) := by decide +kernel
theorem dX19_send_134 : decode cX19_send 134 = .ok (.getfield 168, 3) := by decide +kernel
theorem dX19_send_137 : decode cX19_send 137 = .ok (.iload_n 1, 1) := by decide +kernel
theorem dX19_send_138 : decode cX19_send 138 = .ok (.dup2, 1) := by decide +kernel
theorem dX19_send_139 : decode cX19_send 139 = .ok (.iaload, 1) := by decide +kernel
theorem dX19_send_140 : decode cX19_send 140 = .ok (.iconst 1, 1) := by decide +kernel
theorem dX19_send_141 : decode cX19_send 141 = .ok (.iadd, 1) := by decide +kernel
theorem dX19_send_142 : decode cX19_send 142 = .ok (.iastore, 1) := by decide +kernel
theorem dX19_send_143 : decode cX19_send 143 = .ok (.aload_n 0, 1) := by decide +kernel
theorem dX19_send_144 : decode cX19_send 144 = .ok (.getfield 162, 3) := by decide +kernel
theorem dX19_send_147 : decode cX19_send 147 = .ok (.iload_n 1, 1) := by decide +kernel
theorem dX19_send_148 : decode cX19_send 148 = .ok (.iaload, 1) := by decide +kernel
theorem dX19_send_149 : decode cX19_send 149 = .ok (.ifCond .le 68, 3) := by decide +kernel
theorem dX19_send_152 : decode cX19_send 152 = .ok (.aload_n 0, 1) := by decide +kernel
theorem dX19_send_153 : decode cX19_send 153 = .ok (.getfield 230, 3) := by decide +kernel
theorem dX19_send_156 : decode cX19_send 156 = .ok (.iconst 3, 1) := by decide +kernel
theorem dX19_send_157 : decode cX19_send 157 = .ok (.aload_n 0, 1) := by decide +kernel
theorem dX19_send_158 : decode cX19_send 158 = .ok (.getfield 168, 3) := by decide +kernel
theorem dX19_send_161 : decode cX19_send 161 = .ok (.iload_n 1, 1) := by decide +kernel
theorem dX19_send_162 : decode cX19_send 162 = .ok (.iaload, 1) := by decide +kernel
theorem dX19_send_163 : decode cX19_send 163 = .ok (.sipush 255, 3) := by decide +kernel
theorem dX19_send_166 : decode cX19_send 166 = .ok (.iand, 1) := by decide +kernel
theorem dX19_send_167 : decode cX19_send 167 = .ok (.iastore, 1) := by decide +kernel
theorem dX19_send_168 : decode cX19_send 168 = .ok (.aload_n 0, 1) := by decide +kernel
theorem dX19_send_169 : decode cX19_send 169 = .ok (.iload_n 1, 1) := by decide +kernel
theorem dX19_send_170 : decode cX19_send 170 = .ok (.aload_n 0, 1) := by decide +kernel
theorem dX19_send_171 : decode cX19_send 171 = .ok (.getfield 168, 3) := by decide +kernel
theorem dX19_send_174 : decode cX19_send 174 = .ok (.iload_n 1, 1) := by decide +kernel
theorem dX19_send_175 : decode cX19_send 175 = .ok (.iaload, 1) := by decide +kernel
theorem dX19_send_176 : decode cX19_send 176 = .ok (.i2l, 1) := by decide +kernel
theorem dX19_send_177 : decode cX19_send 177 = .ok (.invokevirtual 672, 3) := by decide +kernel
theorem dX19_send_180 : decode cX19_send 180 = .ok (.iconst 0, 1) := by decide +kernel
theorem dX19_send_181 : decode cX19_send 181 = .ok (.istore 4, 2) := by decide +kernel
theorem dX19_send_183 : decode cX19_send 183 = .ok (.iload 4, 2) := by decide +kernel
theorem dX19_send_185 : decode cX19_send 185 = .ok (.iconst 4, 1) := by decide +kernel
theorem dX19_send_186 : decode cX19_send 186 = .ok (.if_icmp .ge 31, 3) := by decide +kernel
theorem dX19_send_189 : decode cX19_send 189 = .ok (.aload_n 0, 1) := by decide +kernel
theorem dX19_send_190 : decode cX19_send 190 = .ok (.getfield 230, 3) := by decide +kernel
theorem dX19_send_193 : decode cX19_send 193 = .ok (.iconst 4, 1) := by decide +kernel
theorem dX19_send_194 : decode cX19_send 194 = .ok (.iload 4, 2) := by decide +kernel
theorem dX19_send_196 : decode cX19_send 196 = .ok (.iadd, 1) := by decide +kernel
theorem dX19_send_197 : decode cX19_send 197 = .ok (.aload_n 0, 1) := by decide +kernel
theorem dX19_send_198 : decode cX19_send 198 = .ok (.getfield 191, 3) := by decide +kernel
theorem dX19_send_201 : decode cX19_send 201 = .ok (.iload 4, 2) := by decide +kernel
theorem dX19_send_203 : decode cX19_send 203 = .ok (.invokevirtual 675, 3) := by decide +kernel
theorem dX19_send_206 : decode cX19_send 206 = .ok (.sipush 255, 3) := by decide +kernel
theorem dX19_send_209 : decode cX19_send 209 = .ok (.iand, 1) := by decide +kernel
theorem dX19_send_210 : decode cX19_send 210 = .ok (.iastore, 1) := by decide +kernel
theorem dX19_send_211 : decode cX19_send 211 = .ok (.iinc 4 1, 3) := by decide +kernel
theorem dX19_send_214 : decode cX19_send 214 = .ok (.goto (-31), 3) := by decide +kernel
theorem dX19_send_217 : decode cX19_send 217 = .ok (.aload_n 0, 1) := by decide +kernel
theorem dX19_send_218 : decode cX19_send 218 = .ok (.aload_n 0, 1) := by decide +kernel
theorem dX19_send_219 : decode cX19_send 219 = .ok (.getfield 150, 3) := by decide +kernel
theorem dX19_send_222 : decode cX19_send 222 = .ok (.iload_n 1, 1) := by decide +kernel
theorem dX19_send_223 : decode cX19_send 223 = .ok (.iaload, 1) := by decide +kernel
theorem dX19_send_224 : decode cX19_send 224 = .ok (.bipush 64, 2) := by decide +kernel
theorem dX19_send_226 : decode cX19_send 226 = .ok (.bipush 8, 2) := by decide +kernel
theorem dX19_send_228 : decode cX19_send 228 = .ok (.aload_n 0, 1) := by decide +kernel
theorem dX19_send_229 : decode cX19_send 229 = .ok (.getfield 165, 3) := by decide +kernel
theorem dX19_send_232 : decode cX19_send 232 = .ok (.iload_n 1, 1) := by decide +kernel
theorem dX19_send_233 : decode cX19_send 233 = .ok (.iaload, 1) := by decide +kernel
theorem dX19_send_234 : decode cX19_send 234 = .ok (.imul, 1) := by decide +kernel
theorem dX19_send_235 : decode cX19_send 235 = .ok (.iadd, 1) := by decide +kernel
theorem dX19_send_236 : decode cX19_send 236 = .ok (.iconst 0, 1) := by decide +kernel
theorem dX19_send_237 : decode cX19_send 237 = .ok (.invokevirtual 679, 3) := by decide +kernel
theorem dX19_send_240 : decode cX19_send 240 = .ok (.istore 4, 2) := by decide +kernel
theorem dX19_send_242 : decode cX19_send 242 = .ok (.return_, 1) := by decide +kernel
theorem cwX19_send : mw_cwV yX19_send cX19_send 5 (none) 1 := ⟨⟨wd_13, wd_3549, by decide +kernel⟩, wd_3548, sl_216⟩
set_option maxHeartbeats 4000000 in
set_option maxRecDepth 100000 in
theorem tX19_send (l : Launch) (G : mwG) (ad : Nat → Nat) (fu : Nat) (a1 : Int32) (M : mwM) (L : mwL) {M0 : mwM} {L0 : mwL} (hD : DX19_send fu a1 M L = some (M0, L0)) : Met l yX19_send (Cond.code yX19_send cX19_send 5 (none) :: GT) ({ frames := 6, cells := 0, slots := 0, locals := 150 }) (mw_Pre G ad NF TF FF M L [.ref (ad 732), .int a1]) (mw_Qv G ad NF TF FF (mw_eqV M0 L0)) 0 0 (mw_fr G) := by
  refine mw_enter (by decide) (Nat.le_of_ble_eq_true rfl) ?_
  intro p e s m below meth c ls C hr hlocks hnm hw hl
  have hl : lv_has ls 5 [(0, .ref (ad 732)), (1, .int a1)] := hl
  have hb217 : ∀ (M : mwM) (L : mwL) (H : Heap) (locs : List Loc) (ls : Array Slot), fX19_send_b217 fu a1 M L = some (M0, L0) → mw_W G ad NF TF FF M L H locs → lv_has ls 5 [(0, .ref (ad 732)), (1, .int a1)] → W p l e ({ frames := 6, cells := 0, slots := 0, locals := 150 }) s m [.ref (ad 732), .int a1].toArray below meth c H locs 0 0 (MQ below (mw_Qv G ad NF TF FF (mw_eqV M0 L0)) [.ref (ad 732), .int a1].toArray s 0 0 (mw_fr G)) (F0 m 217 ls []) := by
    intro M L H locs ls hD hw hl
    unfold fX19_send_b217 at hD
    refine lv_aload_n C.1.1 C.1.2.1 dX19_send_217 rfl (lv_at hl 0 rfl) ?_
    refine lv_aload_n C.1.1 C.1.2.1 dX19_send_218 rfl (lv_at hl 0 rfl) ?_
    refine mr_getR C hw kc_19 68 (by decide) tf_732 ff_732_68 wd_2849 dX19_send_219 (by decide) rfl ?_
    refine lv_iload_n C.1.1 C.1.2.1 dX19_send_222 rfl (lv_at hl 1 rfl) ?_
    obtain ⟨q43, hD⟩ := g_ck hD
    refine mr_iald C hw (by decide) tf_779 q43 dX19_send_223 ?_
    refine lv_bipush (v := 64) C.1.1 C.1.2.1 dX19_send_224 (by decide) ?_
    refine lv_bipush (v := 8) C.1.1 C.1.2.1 dX19_send_226 (by decide) ?_
    refine lv_aload_n C.1.1 C.1.2.1 dX19_send_228 rfl (lv_at hl 0 rfl) ?_
    refine mr_getR C hw kc_19 73 (by decide) tf_732 ff_732_73 wd_2854 dX19_send_229 (by decide) rfl ?_
    refine lv_iload_n C.1.1 C.1.2.1 dX19_send_232 rfl (lv_at hl 1 rfl) ?_
    obtain ⟨q44, hD⟩ := g_ck hD
    refine mr_iald C hw (by decide) tf_784 q44 dX19_send_233 ?_
    refine lv_imul C.1.1 C.1.2.1 dX19_send_234 ?_
    refine lv_iadd C.1.1 C.1.2.1 dX19_send_235 ?_
    refine lv_iconst (v := 0) C.1.1 C.1.2.1 dX19_send_236 (by decide) ?_
    obtain ⟨r47, M45, L46, h1, hD⟩ := g_b3 hD
    refine md_cvI (As := [.int (M 779 a1.toNatClampNeg), .int (64 + (8 * (M 784 a1.toNatClampNeg))), .int 0]) (rest := []) C hw (tX19_put l G ad fu (M 779 a1.toNatClampNeg) (64 + (8 * (M 784 a1.toNatClampNeg))) 0 M L h1) kc_19 (by decide) tf_732 wd_3614 cwX19_put ⟨Nat.le_of_ble_eq_true rfl, Nat.le_of_ble_eq_true rfl⟩ rfl hl.1 (Nat.le_of_ble_eq_true rfl) dX19_send_237 rfl rfl ⟨Nat.zero_le _, Nat.zero_le _⟩ rfl (fun H locs hw => ?_)
    refine lv_istore (lv' := [(4, .int r47), (0, .ref (ad 732)), (1, .int a1)]) C.1.1 C.1.2.1 dX19_send_240 hl (by decide) rfl (fun ls hl => ?_)
    exact mr_vret C hr hlocks hw (Option.some.inj hD) dX19_send_242
  have hh183 : ∀ (f : Nat) (v4 : Int32) (M : mwM) (L : mwL) (H : Heap) (locs : List Loc) (ls : Array Slot), fX19_send_h183 fu a1 f (v4, M, L) = some (M0, L0) → mw_W G ad NF TF FF M L H locs → lv_has ls 5 [(0, .ref (ad 732)), (1, .int a1), (4, .int v4)] → W p l e ({ frames := 6, cells := 0, slots := 0, locals := 150 }) s m [.ref (ad 732), .int a1].toArray below meth c H locs 0 0 (MQ below (mw_Qv G ad NF TF FF (mw_eqV M0 L0)) [.ref (ad 732), .int a1].toArray s 0 0 (mw_fr G)) (F0 m 183 ls []) := by
    intro f
    induction f with
    | zero => intro v4 M L H locs ls hD; cases hD
    | succ f183 ih183 =>
      intro v4 M L H locs ls hD hw hl
      replace hD : fX19_send_i183 fu a1 (fX19_send_h183 fu a1 f183) v4 M L = some (M0, L0) := hD
      unfold fX19_send_i183 at hD
      refine lv_iload C.1.1 C.1.2.1 dX19_send_183 (lv_at hl 2 rfl) ?_
      refine lv_iconst (v := 4) C.1.1 C.1.2.1 dX19_send_185 (by decide) ?_
      refine lv_icmp_ge (tgt := 217) C.1.1 C.1.2.1 dX19_send_186 (by decide) (fun c36 => ?_) (fun c36 => ?_)
      · replace hD := g_pos c36 hD
        exact hb217 M L _ _ ls hD hw (lv_sub hl [0, 1] rfl)
      · replace hD := g_neg c36 hD
        refine lv_aload_n C.1.1 C.1.2.1 dX19_send_189 rfl (lv_at hl 0 rfl) ?_
        refine mr_getR C hw kc_19 87 (by decide) tf_732 ff_732_87 wd_2868 dX19_send_190 (by decide) rfl ?_
        refine lv_iconst (v := 4) C.1.1 C.1.2.1 dX19_send_193 (by decide) ?_
        refine lv_iload C.1.1 C.1.2.1 dX19_send_194 (lv_at hl 2 rfl) ?_
        refine lv_iadd C.1.1 C.1.2.1 dX19_send_196 ?_
        refine lv_aload_n C.1.1 C.1.2.1 dX19_send_197 rfl (lv_at hl 0 rfl) ?_
        refine mr_getR C hw kc_19 78 (by decide) tf_732 ff_732_78 wd_2859 dX19_send_198 (by decide) rfl ?_
        refine lv_iload C.1.1 C.1.2.1 dX19_send_201 (lv_at hl 2 rfl) ?_
        obtain ⟨r39, M37, L38, h1, hD⟩ := g_b3 hD
        refine md_cvI (As := [.int v4]) (rest := [.int (4 + v4), .ref (ad 926)]) C hw (tX14_out l G ad fu v4 M L h1) kc_14 (by decide) tf_854 wd_3610 cwX14_out ⟨Nat.le_of_ble_eq_true rfl, Nat.le_of_ble_eq_true rfl⟩ rfl hl.1 (Nat.le_of_ble_eq_true rfl) dX19_send_203 rfl rfl ⟨Nat.zero_le _, Nat.zero_le _⟩ rfl (fun H locs hw => ?_)
        refine lv_sipush (v := 255) C.1.1 C.1.2.1 dX19_send_206 (by decide) ?_
        refine lv_iand C.1.1 C.1.2.1 dX19_send_209 ?_
        obtain ⟨q40, hD⟩ := g_ck hD
        obtain ⟨M41, eM41, hD⟩ := g_let hD
        refine mr_iast C hw (by decide) tf_926 q40 dX19_send_210 (fun H locs hw => ?_)
        replace hw : mw_W G ad NF TF FF M41 L38 H locs := by rw [eM41]; exact hw
        obtain ⟨x42, ex42, hD⟩ := g_let hD
        refine lv_iinc (v := x42) (lv' := [(4, .int x42), (0, .ref (ad 732)), (1, .int a1)]) C.1.1 C.1.2.1 dX19_send_211 hl (k := 2) rfl (by rw [ex42]; rfl) (by decide) rfl (fun ls hl => ?_)
        refine lv_goto (tgt := 183) C.1.1 C.1.2.1 dX19_send_214 (by decide) ?_
        exact ih183 x42 M41 L38 _ _ ls hD hw (lv_sub hl [1, 2, 0] rfl)
  have hh87 : ∀ (f : Nat) (v2 : Nat) (v3 : Int32) (v4 : Int32) (M : mwM) (L : mwL) (H : Heap) (locs : List Loc) (ls : Array Slot), fX19_send_h87 fu a1 f (v2, v3, v4, M, L) = some (M0, L0) → isMp v2 → mw_W G ad NF TF FF M L H locs → lv_has ls 5 [(0, .ref (ad 732)), (1, .int a1), (2, .ref (ad v2)), (3, .int v3), (4, .int v4)] → W p l e ({ frames := 6, cells := 0, slots := 0, locals := 150 }) s m [.ref (ad 732), .int a1].toArray below meth c H locs 0 0 (MQ below (mw_Qv G ad NF TF FF (mw_eqV M0 L0)) [.ref (ad 732), .int a1].toArray s 0 0 (mw_fr G)) (F0 m 87 ls []) := by
    intro f
    induction f with
    | zero => intro v2 v3 v4 M L H locs ls hD; cases hD
    | succ f87 ih87 =>
      intro v2 v3 v4 M L H locs ls hD hv2 hw hl
      replace hD : fX19_send_i87 fu a1 (fX19_send_h87 fu a1 f87) v2 v3 v4 M L = some (M0, L0) := hD
      have hb126 : ∀ (v2 : Nat) (v3 : Int32) (v4 : Int32) (s1 : Int32) (s2 : Int32) (M : mwM) (L : mwL) (H : Heap) (locs : List Loc) (ls : Array Slot), fX19_send_b126 fu a1 (fX19_send_h87 fu a1 f87) v2 v3 v4 s1 s2 M L = some (M0, L0) → isMp v2 → mw_W G ad NF TF FF M L H locs → lv_has ls 5 [(0, .ref (ad 732)), (1, .int a1), (2, .ref (ad v2)), (3, .int v3), (4, .int v4)] → W p l e ({ frames := 6, cells := 0, slots := 0, locals := 150 }) s m [.ref (ad 732), .int a1].toArray below meth c H locs 0 0 (MQ below (mw_Qv G ad NF TF FF (mw_eqV M0 L0)) [.ref (ad 732), .int a1].toArray s 0 0 (mw_fr G)) (F0 m 126 ls [.int s2, .int s1, .ref (ad 926)]) := by
        intro v2 v3 v4 s1 s2 M L H locs ls hD hv2 hw hl
        unfold fX19_send_b126 at hD
        obtain ⟨q33, hD⟩ := g_ck hD
        obtain ⟨M34, eM34, hD⟩ := g_let hD
        refine mr_iast C hw (by decide) tf_926 q33 dX19_send_126 (fun H locs hw => ?_)
        replace hw : mw_W G ad NF TF FF M34 L H locs := by rw [eM34]; exact hw
        obtain ⟨x35, ex35, hD⟩ := g_let hD
        refine lv_iinc (v := x35) (lv' := [(4, .int x35), (0, .ref (ad 732)), (1, .int a1), (2, .ref (ad v2)), (3, .int v3)]) C.1.1 C.1.2.1 dX19_send_127 hl (k := 4) rfl (by rw [ex35]; rfl) (by decide) rfl (fun ls hl => ?_)
        refine lv_goto (tgt := 87) C.1.1 C.1.2.1 dX19_send_130 (by decide) ?_
        exact ih87 v2 v3 x35 M34 L _ _ ls hD hv2 hw (lv_sub hl [1, 2, 3, 4, 0] rfl)
      unfold fX19_send_i87 at hD
      refine lv_iload C.1.1 C.1.2.1 dX19_send_87 (lv_at hl 4 rfl) ?_
      refine lv_bipush (v := 8) C.1.1 C.1.2.1 dX19_send_89 (by decide) ?_
      refine lv_icmp_ge (tgt := 133) C.1.1 C.1.2.1 dX19_send_91 (by decide) (fun c16 => ?_) (fun c16 => ?_)
      · replace hD := g_pos c16 hD
        refine lv_aload_n C.1.1 C.1.2.1 dX19_send_133 rfl (lv_at hl 0 rfl) ?_
        refine mr_getR C hw kc_19 74 (by decide) tf_732 ff_732_74 wd_2855 dX19_send_134 (by decide) rfl ?_
        refine lv_iload_n C.1.1 C.1.2.1 dX19_send_137 rfl (lv_at hl 1 rfl) ?_
        refine lv_dup2_11 C.1.1 C.1.2.1 dX19_send_138 rfl rfl ?_
        obtain ⟨q17, hD⟩ := g_ck hD
        refine mr_iald C hw (by decide) tf_785 q17 dX19_send_139 ?_
        refine lv_iconst (v := 1) C.1.1 C.1.2.1 dX19_send_140 (by decide) ?_
        refine lv_iadd C.1.1 C.1.2.1 dX19_send_141 ?_
        obtain ⟨q18, hD⟩ := g_ck hD
        obtain ⟨M19, eM19, hD⟩ := g_let hD
        refine mr_iast C hw (by decide) tf_785 q18 dX19_send_142 (fun H locs hw => ?_)
        replace hw : mw_W G ad NF TF FF M19 L H locs := by rw [eM19]; exact hw
        refine lv_aload_n C.1.1 C.1.2.1 dX19_send_143 rfl (lv_at hl 0 rfl) ?_
        refine mr_getR C hw kc_19 72 (by decide) tf_732 ff_732_72 wd_2853 dX19_send_144 (by decide) rfl ?_
        refine lv_iload_n C.1.1 C.1.2.1 dX19_send_147 rfl (lv_at hl 1 rfl) ?_
        obtain ⟨q20, hD⟩ := g_ck hD
        refine mr_iald C hw (by decide) tf_783 q20 dX19_send_148 ?_
        refine lv_if_le (tgt := 217) C.1.1 C.1.2.1 dX19_send_149 (by decide) (fun c21 => ?_) (fun c21 => ?_)
        · replace hD := g_pos c21 hD
          exact hb217 M19 L _ _ ls hD hw (lv_sub hl [0, 1] rfl)
        · replace hD := g_neg c21 hD
          refine lv_aload_n C.1.1 C.1.2.1 dX19_send_152 rfl (lv_at hl 0 rfl) ?_
          refine mr_getR C hw kc_19 87 (by decide) tf_732 ff_732_87 wd_2868 dX19_send_153 (by decide) rfl ?_
          refine lv_iconst (v := 3) C.1.1 C.1.2.1 dX19_send_156 (by decide) ?_
          refine lv_aload_n C.1.1 C.1.2.1 dX19_send_157 rfl (lv_at hl 0 rfl) ?_
          refine mr_getR C hw kc_19 74 (by decide) tf_732 ff_732_74 wd_2855 dX19_send_158 (by decide) rfl ?_
          refine lv_iload_n C.1.1 C.1.2.1 dX19_send_161 rfl (lv_at hl 1 rfl) ?_
          obtain ⟨q22, hD⟩ := g_ck hD
          refine mr_iald C hw (by decide) tf_785 q22 dX19_send_162 ?_
          refine lv_sipush (v := 255) C.1.1 C.1.2.1 dX19_send_163 (by decide) ?_
          refine lv_iand C.1.1 C.1.2.1 dX19_send_166 ?_
          obtain ⟨M24, eM24, hD⟩ := g_let hD
          refine mr_iast C hw (by decide) tf_926 (show vp_in 3 8 from by unfold vp_in; decide) dX19_send_167 (fun H locs hw => ?_)
          replace hw : mw_W G ad NF TF FF M24 L H locs := by rw [eM24]; exact hw
          refine lv_aload_n C.1.1 C.1.2.1 dX19_send_168 rfl (lv_at hl 0 rfl) ?_
          refine lv_iload_n C.1.1 C.1.2.1 dX19_send_169 rfl (lv_at hl 1 rfl) ?_
          refine lv_aload_n C.1.1 C.1.2.1 dX19_send_170 rfl (lv_at hl 0 rfl) ?_
          refine mr_getR C hw kc_19 74 (by decide) tf_732 ff_732_74 wd_2855 dX19_send_171 (by decide) rfl ?_
          refine lv_iload_n C.1.1 C.1.2.1 dX19_send_174 rfl (lv_at hl 1 rfl) ?_
          obtain ⟨q25, hD⟩ := g_ck hD
          refine mr_iald C hw (by decide) tf_785 q25 dX19_send_175 ?_
          refine lv_i2l C.1.1 C.1.2.1 dX19_send_176 rfl ?_
          obtain ⟨M26, L27, h1, hD⟩ := g_b2 hD
          refine md_cvV (As := [.int a1, .long ((M24 785 a1.toNatClampNeg).toInt64)]) (rest := []) C hw (tX19_codeOf l G ad fu a1 ((M24 785 a1.toNatClampNeg).toInt64) M24 L h1) kc_19 (by decide) tf_732 wd_3574 cwX19_codeOf ⟨Nat.le_of_ble_eq_true rfl, Nat.le_of_ble_eq_true rfl⟩ rfl hl.1 (Nat.le_of_ble_eq_true rfl) dX19_send_177 rfl rfl ⟨Nat.zero_le _, Nat.zero_le _⟩ rfl (fun H locs hw => ?_)
          refine lv_iconst (v := 0) C.1.1 C.1.2.1 dX19_send_180 (by decide) ?_
          refine lv_istore (lv' := [(4, .int 0), (0, .ref (ad 732)), (1, .int a1), (2, .ref (ad v2)), (3, .int v3)]) C.1.1 C.1.2.1 dX19_send_181 hl (by decide) rfl (fun ls hl => ?_)
          exact hh183 fu 0 M26 L27 _ _ ls hD hw (lv_sub hl [1, 2, 0] rfl)
      · replace hD := g_neg c16 hD
        refine lv_aload_n C.1.1 C.1.2.1 dX19_send_94 rfl (lv_at hl 0 rfl) ?_
        refine mr_getR C hw kc_19 87 (by decide) tf_732 ff_732_87 wd_2868 dX19_send_95 (by decide) rfl ?_
        refine lv_iload C.1.1 C.1.2.1 dX19_send_98 (lv_at hl 4 rfl) ?_
        refine lv_iload C.1.1 C.1.2.1 dX19_send_100 (lv_at hl 4 rfl) ?_
        refine lv_iload_n C.1.1 C.1.2.1 dX19_send_102 rfl (lv_at hl 3 rfl) ?_
        refine lv_icmp_ge (tgt := 125) C.1.1 C.1.2.1 dX19_send_103 (by decide) (fun c28 => ?_) (fun c28 => ?_)
        · replace hD := g_pos c28 hD
          refine lv_iconst (v := 0) C.1.1 C.1.2.1 dX19_send_125 (by decide) ?_
          exact hb126 v2 v3 v4 v4 0 M L _ _ ls hD hv2 hw (lv_sub hl [0, 1, 2, 3, 4] rfl)
        · replace hD := g_neg c28 hD
          refine lv_aload_n C.1.1 C.1.2.1 dX19_send_106 rfl (lv_at hl 2 rfl) ?_
          refine lv_aload_n C.1.1 C.1.2.1 dX19_send_107 rfl (lv_at hl 0 rfl) ?_
          refine mr_getR C hw kc_19 70 (by decide) tf_732 ff_732_70 wd_2851 dX19_send_108 (by decide) rfl ?_
          refine lv_iload_n C.1.1 C.1.2.1 dX19_send_111 rfl (lv_at hl 1 rfl) ?_
          obtain ⟨q29, hD⟩ := g_ck hD
          refine mr_iald C hw (by decide) tf_781 q29 dX19_send_112 ?_
          refine lv_iload C.1.1 C.1.2.1 dX19_send_113 (lv_at hl 4 rfl) ?_
          obtain ⟨r32, M30, L31, h1, hD⟩ := g_b3 hD
          refine md_cvI (As := [.int (M 781 a1.toNatClampNeg), .int v4]) (rest := [.int v4, .ref (ad 926)]) C hw (tX16_octet l G ad fu v2 (M 781 a1.toNatClampNeg) v4 M L h1 hv2) kc_16 (Mp_N0 hv2) (Mp_T0 hv2) wd_3566 cwX16_octet ⟨Nat.le_of_ble_eq_true rfl, Nat.le_of_ble_eq_true rfl⟩ rfl hl.1 (Nat.le_of_ble_eq_true rfl) dX19_send_115 rfl rfl ⟨Nat.zero_le _, Nat.zero_le _⟩ rfl (fun H locs hw => ?_)
          refine lv_sipush (v := 255) C.1.1 C.1.2.1 dX19_send_118 (by decide) ?_
          refine lv_iand C.1.1 C.1.2.1 dX19_send_121 ?_
          refine lv_goto (tgt := 126) C.1.1 C.1.2.1 dX19_send_122 (by decide) ?_
          exact hb126 v2 v3 v4 v4 (r32 &&& 255) M30 L31 _ _ ls hD hv2 hw (lv_sub hl [0, 1, 2, 3, 4] rfl)
  have hb83 : ∀ (v2 : Nat) (s0 : Int32) (M : mwM) (L : mwL) (H : Heap) (locs : List Loc) (ls : Array Slot), fX19_send_b83 fu a1 v2 s0 M L = some (M0, L0) → isMp v2 → mw_W G ad NF TF FF M L H locs → lv_has ls 5 [(0, .ref (ad 732)), (1, .int a1), (2, .ref (ad v2))] → W p l e ({ frames := 6, cells := 0, slots := 0, locals := 150 }) s m [.ref (ad 732), .int a1].toArray below meth c H locs 0 0 (MQ below (mw_Qv G ad NF TF FF (mw_eqV M0 L0)) [.ref (ad 732), .int a1].toArray s 0 0 (mw_fr G)) (F0 m 83 ls [.int s0]) := by
    intro v2 s0 M L H locs ls hD hv2 hw hl
    unfold fX19_send_b83 at hD
    refine lv_istore_n (lv' := [(3, .int s0), (0, .ref (ad 732)), (1, .int a1), (2, .ref (ad v2))]) C.1.1 C.1.2.1 dX19_send_83 rfl hl (by decide) rfl (fun ls hl => ?_)
    refine lv_iconst (v := 0) C.1.1 C.1.2.1 dX19_send_84 (by decide) ?_
    refine lv_istore (lv' := [(4, .int 0), (3, .int s0), (0, .ref (ad 732)), (1, .int a1), (2, .ref (ad v2))]) C.1.1 C.1.2.1 dX19_send_85 hl (by decide) rfl (fun ls hl => ?_)
    exact hh87 fu v2 s0 0 M L _ _ ls hD hv2 hw (lv_sub hl [2, 3, 4, 1, 0] rfl)
  have hh14 : ∀ (f : Nat) (v2 : Nat) (v3 : Int32) (M : mwM) (L : mwL) (H : Heap) (locs : List Loc) (ls : Array Slot), fX19_send_h14 fu a1 f (v2, v3, M, L) = some (M0, L0) → isMp v2 → mw_W G ad NF TF FF M L H locs → lv_has ls 5 [(0, .ref (ad 732)), (1, .int a1), (2, .ref (ad v2)), (3, .int v3)] → W p l e ({ frames := 6, cells := 0, slots := 0, locals := 150 }) s m [.ref (ad 732), .int a1].toArray below meth c H locs 0 0 (MQ below (mw_Qv G ad NF TF FF (mw_eqV M0 L0)) [.ref (ad 732), .int a1].toArray s 0 0 (mw_fr G)) (F0 m 14 ls []) := by
    intro f
    induction f with
    | zero => intro v2 v3 M L H locs ls hD; cases hD
    | succ f14 ih14 =>
      intro v2 v3 M L H locs ls hD hv2 hw hl
      replace hD : fX19_send_i14 fu a1 (fX19_send_h14 fu a1 f14) v2 v3 M L = some (M0, L0) := hD
      have hb62 : ∀ (v2 : Nat) (v3 : Int32) (M : mwM) (L : mwL) (H : Heap) (locs : List Loc) (ls : Array Slot), fX19_send_b62 fu a1 (fX19_send_h14 fu a1 f14) v2 v3 M L = some (M0, L0) → isMp v2 → mw_W G ad NF TF FF M L H locs → lv_has ls 5 [(0, .ref (ad 732)), (1, .int a1), (2, .ref (ad v2)), (3, .int v3)] → W p l e ({ frames := 6, cells := 0, slots := 0, locals := 150 }) s m [.ref (ad 732), .int a1].toArray below meth c H locs 0 0 (MQ below (mw_Qv G ad NF TF FF (mw_eqV M0 L0)) [.ref (ad 732), .int a1].toArray s 0 0 (mw_fr G)) (F0 m 62 ls []) := by
        intro v2 v3 M L H locs ls hD hv2 hw hl
        unfold fX19_send_b62 at hD
        obtain ⟨x15, ex15, hD⟩ := g_let hD
        refine lv_iinc (v := x15) (lv' := [(3, .int x15), (0, .ref (ad 732)), (1, .int a1), (2, .ref (ad v2))]) C.1.1 C.1.2.1 dX19_send_62 hl (k := 3) rfl (by rw [ex15]; rfl) (by decide) rfl (fun ls hl => ?_)
        refine lv_goto (tgt := 14) C.1.1 C.1.2.1 dX19_send_65 (by decide) ?_
        exact ih14 v2 x15 M L _ _ ls hD hv2 hw (lv_sub hl [1, 2, 3, 0] rfl)
      unfold fX19_send_i14 at hD
      refine lv_iload_n C.1.1 C.1.2.1 dX19_send_14 rfl (lv_at hl 3 rfl) ?_
      refine lv_aload_n C.1.1 C.1.2.1 dX19_send_15 rfl (lv_at hl 0 rfl) ?_
      refine mr_getI C hw kc_19 45 (by decide) tf_732 wd_2826 dX19_send_16 (by decide) rfl ?_
      refine lv_icmp_ge (tgt := 68) C.1.1 C.1.2.1 dX19_send_19 (by decide) (fun c1 => ?_) (fun c1 => ?_)
      · replace hD := g_pos c1 hD
        refine lv_aload_n C.1.1 C.1.2.1 dX19_send_68 rfl (lv_at hl 0 rfl) ?_
        refine mr_getR C hw kc_19 72 (by decide) tf_732 ff_732_72 wd_2853 dX19_send_69 (by decide) rfl ?_
        refine lv_iload_n C.1.1 C.1.2.1 dX19_send_72 rfl (lv_at hl 1 rfl) ?_
        obtain ⟨q2, hD⟩ := g_ck hD
        refine mr_iald C hw (by decide) tf_783 q2 dX19_send_73 ?_
        refine lv_if_le (tgt := 81) C.1.1 C.1.2.1 dX19_send_74 (by decide) (fun c3 => ?_) (fun c3 => ?_)
        · replace hD := g_pos c3 hD
          refine lv_bipush (v := 8) C.1.1 C.1.2.1 dX19_send_81 (by decide) ?_
          exact hb83 v2 8 M L _ _ ls hD hv2 hw (lv_sub hl [0, 1, 2] rfl)
        · replace hD := g_neg c3 hD
          refine lv_iconst (v := 3) C.1.1 C.1.2.1 dX19_send_77 (by decide) ?_
          refine lv_goto (tgt := 83) C.1.1 C.1.2.1 dX19_send_78 (by decide) ?_
          exact hb83 v2 3 M L _ _ ls hD hv2 hw (lv_sub hl [0, 1, 2] rfl)
      · replace hD := g_neg c1 hD
        refine lv_aload_n C.1.1 C.1.2.1 dX19_send_22 rfl (lv_at hl 0 rfl) ?_
        refine mr_getR C hw kc_19 53 (by decide) tf_732 ff_732_53 wd_2834 dX19_send_23 (by decide) rfl ?_
        refine lv_iload_n C.1.1 C.1.2.1 dX19_send_26 rfl (lv_at hl 3 rfl) ?_
        obtain ⟨q4, hD⟩ := g_ck hD
        refine mr_iald C hw (by decide) tf_767 q4 dX19_send_27 ?_
        refine lv_iload_n C.1.1 C.1.2.1 dX19_send_28 rfl (lv_at hl 1 rfl) ?_
        refine lv_icmp_ne (tgt := 62) C.1.1 C.1.2.1 dX19_send_29 (by decide) (fun c5 => ?_) (fun c5 => ?_)
        · replace hD := g_neg c5 hD
          exact hb62 v2 v3 M L _ _ ls hD hv2 hw (lv_sub hl [0, 1, 2, 3] rfl)
        · replace hD := g_pos c5 hD
          refine lv_aload_n C.1.1 C.1.2.1 dX19_send_32 rfl (lv_at hl 2 rfl) ?_
          refine lv_aload_n C.1.1 C.1.2.1 dX19_send_33 rfl (lv_at hl 0 rfl) ?_
          refine mr_getR C hw kc_19 52 (by decide) tf_732 ff_732_52 wd_2833 dX19_send_34 (by decide) rfl ?_
          refine lv_iload_n C.1.1 C.1.2.1 dX19_send_37 rfl (lv_at hl 3 rfl) ?_
          obtain ⟨q6, hD⟩ := g_ck hD
          refine mr_iald C hw (by decide) tf_766 q6 dX19_send_38 ?_
          refine lv_aload_n C.1.1 C.1.2.1 dX19_send_39 rfl (lv_at hl 0 rfl) ?_
          refine mr_getR C hw kc_19 82 (by decide) tf_732 ff_732_82 wd_2863 dX19_send_40 (by decide) rfl ?_
          refine lv_aload_n C.1.1 C.1.2.1 dX19_send_43 rfl (lv_at hl 0 rfl) ?_
          refine mr_getR C hw kc_19 48 (by decide) tf_732 ff_732_48 wd_2829 dX19_send_44 (by decide) rfl ?_
          refine lv_iload_n C.1.1 C.1.2.1 dX19_send_47 rfl (lv_at hl 3 rfl) ?_
          obtain ⟨q7, hD⟩ := g_ck hD
          refine mr_iald C hw (by decide) tf_762 q7 dX19_send_48 ?_
          obtain ⟨q8, hD⟩ := g_ck hD
          refine mr_aald C hw (by decide) tf_922 (by decide) (by decide) rfl rfl q8 (fr_922 _ (g_lt q8)) dX19_send_49 ?_
          refine lv_aload_n C.1.1 C.1.2.1 dX19_send_50 rfl (lv_at hl 0 rfl) ?_
          refine mr_getR C hw kc_19 49 (by decide) tf_732 ff_732_49 wd_2830 dX19_send_51 (by decide) rfl ?_
          refine lv_iload_n C.1.1 C.1.2.1 dX19_send_54 rfl (lv_at hl 3 rfl) ?_
          obtain ⟨q9, hD⟩ := g_ck hD
          refine mr_iald C hw (by decide) tf_763 q9 dX19_send_55 ?_
          obtain ⟨r12, M10, L11, h1, hD⟩ := g_b3 hD
          refine md_cvL (As := [.int (M 763 v3.toNatClampNeg)]) (rest := [.int (M 766 v3.toNatClampNeg), .ref (ad v2)]) C hw (tX13_value l G ad fu ((964 + 53 * (M 762 v3.toNatClampNeg).toNatClampNeg)) (M 763 v3.toNatClampNeg) M L h1 (isMc_of (g_lt q8))) kc_13 (Mc_N0 (isMc_of (g_lt q8))) (Mc_T0 (isMc_of (g_lt q8))) wd_3550 cwX13_value ⟨Nat.le_of_ble_eq_true rfl, Nat.le_of_ble_eq_true rfl⟩ rfl hl.1 (Nat.le_of_ble_eq_true rfl) dX19_send_56 rfl rfl ⟨Nat.zero_le _, Nat.zero_le _⟩ rfl (fun H locs hw => ?_)
          obtain ⟨M13, L14, h1, hD⟩ := g_b2 hD
          refine md_cvV (As := [.int (M 766 v3.toNatClampNeg), .long r12]) (rest := []) C hw (tX16_put l G ad fu v2 (M 766 v3.toNatClampNeg) r12 M10 L11 h1 hv2) kc_16 (Mp_N0 hv2) (Mp_T0 hv2) wd_3554 cwX16_put ⟨Nat.le_of_ble_eq_true rfl, Nat.le_of_ble_eq_true rfl⟩ rfl hl.1 (Nat.le_of_ble_eq_true rfl) dX19_send_59 rfl rfl ⟨Nat.zero_le _, Nat.zero_le _⟩ rfl (fun H locs hw => ?_)
          exact hb62 v2 v3 M13 L14 _ _ ls hD hv2 hw (lv_sub hl [0, 1, 2, 3] rfl)
  unfold DX19_send at hD
  refine lv_aload_n C.1.1 C.1.2.1 dX19_send_0 rfl (lv_at hl 0 rfl) ?_
  refine mr_getR C hw kc_19 81 (by decide) tf_732 ff_732_81 wd_2862 dX19_send_1 (by decide) rfl ?_
  refine lv_aload_n C.1.1 C.1.2.1 dX19_send_4 rfl (lv_at hl 0 rfl) ?_
  refine mr_getR C hw kc_19 69 (by decide) tf_732 ff_732_69 wd_2850 dX19_send_5 (by decide) rfl ?_
  refine lv_iload_n C.1.1 C.1.2.1 dX19_send_8 rfl (lv_at hl 1 rfl) ?_
  obtain ⟨q48, hD⟩ := g_ck hD
  refine mr_iald C hw (by decide) tf_780 q48 dX19_send_9 ?_
  obtain ⟨q49, hD⟩ := g_ck hD
  refine mr_aald C hw (by decide) tf_921 (by decide) (by decide) rfl rfl q49 (fr_921 _ (g_lt q49)) dX19_send_10 ?_
  refine lv_astore_n (lv' := [(2, .ref (ad ((941 + 53 * (M 780 a1.toNatClampNeg).toNatClampNeg) + 0))), (0, .ref (ad 732)), (1, .int a1)]) C.1.1 C.1.2.1 dX19_send_11 rfl hl (by decide) rfl (fun ls hl => ?_)
  refine lv_iconst (v := 0) C.1.1 C.1.2.1 dX19_send_12 (by decide) ?_
  refine lv_istore_n (lv' := [(3, .int 0), (2, .ref (ad ((941 + 53 * (M 780 a1.toNatClampNeg).toNatClampNeg) + 0))), (0, .ref (ad 732)), (1, .int a1)]) C.1.1 C.1.2.1 dX19_send_13 rfl hl (by decide) rfl (fun ls hl => ?_)
  exact hh14 fu (((941 + 53 * (M 780 a1.toNatClampNeg).toNatClampNeg) + 0)) 0 M L _ _ ls hD (isMp_of (g_lt q49)) hw (lv_sub hl [2, 3, 1, 0] rfl)

theorem dX19_right_0 : decode cX19_right 0 = .ok (.aload_n 0, 1) := by decide +kernel
theorem dX19_right_1 : decode cX19_right 1 = .ok (.getfield 162, 3) := by decide +kernel
theorem dX19_right_4 : decode cX19_right 4 = .ok (.iload_n 2, 1) := by decide +kernel
theorem dX19_right_5 : decode cX19_right 5 = .ok (.iaload, 1) := by decide +kernel
theorem dX19_right_6 : decode cX19_right 6 = .ok (.ifCond .ne 5, 3) := by decide +kernel
theorem dX19_right_9 : decode cX19_right 9 = .ok (.iconst 1, 1) := by decide +kernel
theorem dX19_right_10 : decode cX19_right 10 = .ok (.ireturn, 1) := by decide +kernel
theorem dX19_right_11 : decode cX19_right 11 = .ok (.aload_n 0, 1) := by decide +kernel
theorem dX19_right_12 : decode cX19_right 12 = .ok (.getfield 171, 3) := by decide +kernel
theorem dX19_right_15 : decode cX19_right 15 = .ok (.bipush 6, 2) := by decide +kernel
theorem dX19_right_17 : decode cX19_right 17 = .ok (.iload_n 2, 1) := by decide +kernel
theorem dX19_right_18 : decode cX19_right 18 = .ok (.imul, 1) := by decide +kernel
theorem dX19_right_19 : decode cX19_right 19 = .ok (.iload_n 1, 1) := by decide +kernel
theorem dX19_right_20 : decode cX19_right 20 = .ok (.iadd, 1) := by decide +kernel
theorem dX19_right_21 : decode cX19_right 21 = .ok (.laload, 1) := by decide +kernel
theorem dX19_right_22 : decode cX19_right 22 = .ok (.lstore_n 3, 1) := by decide +kernel
theorem dX19_right_23 : decode cX19_right 23 = .ok (.aload_n 0, 1) := by decide +kernel
theorem dX19_right_24 : decode cX19_right 24 = .ok (.getfield 230, 3) := by decide +kernel
theorem dX19_right_27 : decode cX19_right 27 = .ok (.iconst 3, 1) := by decide +kernel
theorem dX19_right_28 : decode cX19_right 28 = .ok (.iaload, 1) := by decide +kernel
theorem dX19_right_29 : decode cX19_right 29 = .ok (.i2l, 1) := by decide +kernel
theorem dX19_right_30 : decode cX19_right 30 = .ok (.lload_n 3, 1) := by decide +kernel
theorem dX19_right_31 : decode cX19_right 31 = .ok (.ldc2_w 695, 3) := by decide +kernel
theorem dX19_right_34 : decode cX19_right 34 = .ok (.land, 1) := by decide +kernel
theorem dX19_right_35 : decode cX19_right 35 = .ok (.lsub, 1) := by decide +kernel
theorem dX19_right_36 : decode cX19_right 36 = .ok (.ldc2_w 325, 3) := by decide +kernel
theorem dX19_right_39 : decode cX19_right 39 = .ok (.ladd, 1) := by decide +kernel
theorem dX19_right_40 : decode cX19_right 40 = .ok (.ldc2_w 325, 3) := by decide +kernel
theorem dX19_right_43 : decode cX19_right 43 = .ok (.lrem, 1) := by decide +kernel
theorem dX19_right_44 : decode cX19_right 44 = .ok (.lstore 5, 2) := by decide +kernel
theorem dX19_right_46 : decode cX19_right 46 = .ok (.lload 5, 2) := by decide +kernel
theorem dX19_right_48 : decode cX19_right 48 = .ok (.lconst 1, 1) := by decide +kernel
theorem dX19_right_49 : decode cX19_right 49 = .ok (.lcmp, 1) := by decide +kernel
theorem dX19_right_50 : decode cX19_right 50 = .ok (.ifCond .lt 12, 3) := by decide +kernel
theorem dX19_right_53 : decode cX19_right 53 = .ok (.lload 5, 2) := by decide +kernel
theorem dX19_right_55 : decode cX19_right 55 = .ok (.ldc2_w 697, 3) := by decide +kernel
theorem dX19_right_58 : decode cX19_right 58 = .ok (.lcmp, 1) := by decide +kernel
theorem dX19_right_59 : decode cX19_right 59 = .ok (.ifCond .le 5, 3) := by decide +kernel
theorem dX19_right_62 : decode cX19_right 62 = .ok (.iconst 0, 1) := by decide +kernel
theorem dX19_right_63 : decode cX19_right 63 = .ok (.ireturn, 1) := by decide +kernel
theorem dX19_right_64 : decode cX19_right 64 = .ok (.aload_n 0, 1) := by decide +kernel
theorem dX19_right_65 : decode cX19_right 65 = .ok (.iload_n 2, 1) := by decide +kernel
theorem dX19_right_66 : decode cX19_right 66 = .ok (.lload_n 3, 1) := by decide +kernel
theorem dX19_right_67 : decode cX19_right 67 = .ok (.lload 5, 2) := by decide +kernel
theorem dX19_right_69 : decode cX19_right 69 = .ok (.ladd, 1) := by decide +kernel
theorem dX19_right_70 : decode cX19_right 70 = .ok (.invokevirtual 672, 3) := by decide +kernel
theorem dX19_right_73 : decode cX19_right 73 = .ok (.iconst 0, 1) := by decide +kernel
theorem dX19_right_74 : decode cX19_right 74 = .ok (.istore 7, 2) := by decide +kernel
theorem dX19_right_76 : decode cX19_right 76 = .ok (.iload 7, 2) := by decide +kernel
theorem dX19_right_78 : decode cX19_right 78 = .ok (.iconst 4, 1) := by decide +kernel
theorem dX19_right_79 : decode cX19_right 79 = .ok (.if_icmp .ge 36, 3) := by decide +kernel
theorem dX19_right_82 : decode cX19_right 82 = .ok (.aload_n 0, 1) := by decide +kernel
theorem dX19_right_83 : decode cX19_right 83 = .ok (.getfield 191, 3) := by decide +kernel
theorem dX19_right_86 : decode cX19_right 86 = .ok (.iload 7, 2) := by decide +kernel
theorem dX19_right_88 : decode cX19_right 88 = .ok (.invokevirtual 675, 3) := by decide +kernel
theorem dX19_right_91 : decode cX19_right 91 = .ok (.sipush 255, 3) := by decide +kernel
theorem dX19_right_94 : decode cX19_right 94 = .ok (.iand, 1) := by decide +kernel
theorem dX19_right_95 : decode cX19_right 95 = .ok (.aload_n 0, 1) := by decide +kernel
theorem dX19_right_96 : decode cX19_right 96 = .ok (.getfield 230, 3) := by decide +kernel
theorem dX19_right_99 : decode cX19_right 99 = .ok (.iconst 4, 1) := by decide +kernel
theorem dX19_right_100 : decode cX19_right 100 = .ok (.iload 7, 2) := by decide +kernel
theorem dX19_right_102 : decode cX19_right 102 = .ok (.iadd, 1) := by decide +kernel
theorem dX19_right_103 : decode cX19_right 103 = .ok (.iaload, 1) := by decide +kernel
theorem dX19_right_104 : decode cX19_right 104 = .ok (.if_icmp .eq 5, 3) := by decide +kernel
theorem dX19_right_107 : decode cX19_right 107 = .ok (.iconst 0, 1) := by decide +kernel
theorem dX19_right_108 : decode cX19_right 108 = .ok (.ireturn, 1) := by decide +kernel
theorem dX19_right_109 : decode cX19_right 109 = .ok (.iinc 7 1, 3) := by decide +kernel
theorem dX19_right_112 : decode cX19_right 112 = .ok (.goto (-36), 3) := by decide +kernel
theorem dX19_right_115 : decode cX19_right 115 = .ok (.aload_n 0, 1) := by decide +kernel
theorem dX19_right_116 : decode cX19_right 116 = .ok (.getfield 171, 3) := by decide +kernel
theorem dX19_right_119 : decode cX19_right 119 = .ok (.bipush 6, 2) := by decide +kernel
theorem dX19_right_121 : decode cX19_right 121 = .ok (.iload_n 2, 1) := by decide +kernel
theorem dX19_right_122 : decode cX19_right 122 = .ok (.imul, 1) := by decide +kernel
theorem dX19_right_123 : decode cX19_right 123 = .ok (.iload_n 1, 1) := by decide +kernel
theorem dX19_right_124 : decode cX19_right 124 = .ok (.iadd, 1) := by decide +kernel
theorem dX19_right_125 : decode cX19_right 125 = .ok (.lload_n 3, 1) := by decide +kernel
theorem dX19_right_126 : decode cX19_right 126 = .ok (.lload 5, 2) := by decide +kernel
theorem dX19_right_128 : decode cX19_right 128 = .ok (.ladd, 1) := by decide +kernel
theorem dX19_right_129 : decode cX19_right 129 = .ok (.lastore, 1) := by decide +kernel
theorem dX19_right_130 : decode cX19_right 130 = .ok (.iconst 1, 1) := by decide +kernel
theorem dX19_right_131 : decode cX19_right 131 = .ok (.ireturn, 1) := by decide +kernel
theorem cwX19_right : mw_cwV yX19_right cX19_right 8 ((some .boolean)) 2 := ⟨⟨wd_13, wd_3877, by decide +kernel⟩, wd_3876, sl_280⟩
set_option maxHeartbeats 4000000 in
set_option maxRecDepth 100000 in
theorem tX19_right (l : Launch) (G : mwG) (ad : Nat → Nat) (fu : Nat) (a1 : Int32) (a2 : Int32) (M : mwM) (L : mwL) {r0 : Int32} {M0 : mwM} {L0 : mwL} (hD : DX19_right fu a1 a2 M L = some (r0, M0, L0)) : Met l yX19_right (Cond.code yX19_right cX19_right 8 ((some .boolean)) :: GT) ({ frames := 6, cells := 0, slots := 0, locals := 150 }) (mw_Pre G ad NF TF FF M L [.ref (ad 732), .int a1, .int a2]) (mw_Qi G ad NF TF FF (mw_eqI r0 M0 L0)) 0 0 (mw_fr G) := by
  refine mw_enter (by decide) (Nat.le_of_ble_eq_true rfl) ?_
  intro p e s m below meth c ls C hr hlocks hnm hw hl
  have hl : lv_has ls 8 [(0, .ref (ad 732)), (1, .int a1), (2, .int a2)] := hl
  have hb62 : ∀ (M : mwM) (L : mwL) (H : Heap) (locs : List Loc) (ls : Array Slot), fX19_right_b62 fu a1 a2 M L = some (r0, M0, L0) → mw_W G ad NF TF FF M L H locs → lv_has ls 8 [] → W p l e ({ frames := 6, cells := 0, slots := 0, locals := 150 }) s m [.ref (ad 732), .int a1, .int a2].toArray below meth c H locs 0 0 (MQ below (mw_Qi G ad NF TF FF (mw_eqI r0 M0 L0)) [.ref (ad 732), .int a1, .int a2].toArray s 0 0 (mw_fr G)) (F0 m 62 ls []) := by
    intro M L H locs ls hD hw hl
    unfold fX19_right_b62 at hD
    refine lv_iconst (v := 0) C.1.1 C.1.2.1 dX19_right_62 (by decide) ?_
    exact mr_iret C hr hlocks hw (by decide +kernel) (Option.some.inj hD) dX19_right_63
  have hh76 : ∀ (f : Nat) (v3 : Int64) (v5 : Int64) (v7 : Int32) (M : mwM) (L : mwL) (H : Heap) (locs : List Loc) (ls : Array Slot), fX19_right_h76 fu a1 a2 f (v3, v5, v7, M, L) = some (r0, M0, L0) → mw_W G ad NF TF FF M L H locs → lv_has ls 8 [(0, .ref (ad 732)), (1, .int a1), (2, .int a2), (3, .long v3), (5, .long v5), (7, .int v7)] → W p l e ({ frames := 6, cells := 0, slots := 0, locals := 150 }) s m [.ref (ad 732), .int a1, .int a2].toArray below meth c H locs 0 0 (MQ below (mw_Qi G ad NF TF FF (mw_eqI r0 M0 L0)) [.ref (ad 732), .int a1, .int a2].toArray s 0 0 (mw_fr G)) (F0 m 76 ls []) := by
    intro f
    induction f with
    | zero => intro v3 v5 v7 M L H locs ls hD; cases hD
    | succ f76 ih76 =>
      intro v3 v5 v7 M L H locs ls hD hw hl
      replace hD : fX19_right_i76 fu a1 a2 (fX19_right_h76 fu a1 a2 f76) v3 v5 v7 M L = some (r0, M0, L0) := hD
      unfold fX19_right_i76 at hD
      refine lv_iload C.1.1 C.1.2.1 dX19_right_76 (lv_at hl 5 rfl) ?_
      refine lv_iconst (v := 4) C.1.1 C.1.2.1 dX19_right_78 (by decide) ?_
      refine lv_icmp_ge (tgt := 115) C.1.1 C.1.2.1 dX19_right_79 (by decide) (fun c1 => ?_) (fun c1 => ?_)
      · replace hD := g_pos c1 hD
        refine lv_aload_n C.1.1 C.1.2.1 dX19_right_115 rfl (lv_at hl 0 rfl) ?_
        refine mr_getR C hw kc_19 75 (by decide) tf_732 ff_732_75 wd_2856 dX19_right_116 (by decide) rfl ?_
        refine lv_bipush (v := 6) C.1.1 C.1.2.1 dX19_right_119 (by decide) ?_
        refine lv_iload_n C.1.1 C.1.2.1 dX19_right_121 rfl (lv_at hl 2 rfl) ?_
        refine lv_imul C.1.1 C.1.2.1 dX19_right_122 ?_
        refine lv_iload_n C.1.1 C.1.2.1 dX19_right_123 rfl (lv_at hl 1 rfl) ?_
        refine lv_iadd C.1.1 C.1.2.1 dX19_right_124 ?_
        refine lv_lload_n C.1.1 C.1.2.1 dX19_right_125 rfl (lv_at hl 3 rfl) ?_
        refine lv_lload C.1.1 C.1.2.1 dX19_right_126 (lv_at hl 4 rfl) ?_
        refine lv_ladd C.1.1 C.1.2.1 dX19_right_128 ?_
        obtain ⟨q2, hD⟩ := g_ck hD
        obtain ⟨L3, eL3, hD⟩ := g_let hD
        refine mr_last C hw (by decide) tf_786 q2 dX19_right_129 (fun H locs hw => ?_)
        replace hw : mw_W G ad NF TF FF M L3 H locs := by rw [eL3]; exact hw
        refine lv_iconst (v := 1) C.1.1 C.1.2.1 dX19_right_130 (by decide) ?_
        exact mr_iret C hr hlocks hw (by decide +kernel) (Option.some.inj hD) dX19_right_131
      · replace hD := g_neg c1 hD
        refine lv_aload_n C.1.1 C.1.2.1 dX19_right_82 rfl (lv_at hl 0 rfl) ?_
        refine mr_getR C hw kc_19 78 (by decide) tf_732 ff_732_78 wd_2859 dX19_right_83 (by decide) rfl ?_
        refine lv_iload C.1.1 C.1.2.1 dX19_right_86 (lv_at hl 5 rfl) ?_
        obtain ⟨r6, M4, L5, h1, hD⟩ := g_b3 hD
        refine md_cvI (As := [.int v7]) (rest := []) C hw (tX14_out l G ad fu v7 M L h1) kc_14 (by decide) tf_854 wd_3610 cwX14_out ⟨Nat.le_of_ble_eq_true rfl, Nat.le_of_ble_eq_true rfl⟩ rfl hl.1 (Nat.le_of_ble_eq_true rfl) dX19_right_88 rfl rfl ⟨Nat.zero_le _, Nat.zero_le _⟩ rfl (fun H locs hw => ?_)
        refine lv_sipush (v := 255) C.1.1 C.1.2.1 dX19_right_91 (by decide) ?_
        refine lv_iand C.1.1 C.1.2.1 dX19_right_94 ?_
        refine lv_aload_n C.1.1 C.1.2.1 dX19_right_95 rfl (lv_at hl 0 rfl) ?_
        refine mr_getR C hw kc_19 87 (by decide) tf_732 ff_732_87 wd_2868 dX19_right_96 (by decide) rfl ?_
        refine lv_iconst (v := 4) C.1.1 C.1.2.1 dX19_right_99 (by decide) ?_
        refine lv_iload C.1.1 C.1.2.1 dX19_right_100 (lv_at hl 5 rfl) ?_
        refine lv_iadd C.1.1 C.1.2.1 dX19_right_102 ?_
        obtain ⟨q7, hD⟩ := g_ck hD
        refine mr_iald C hw (by decide) tf_926 q7 dX19_right_103 ?_
        refine lv_icmp_eq (tgt := 109) C.1.1 C.1.2.1 dX19_right_104 (by decide) (fun c8 => ?_) (fun c8 => ?_)
        · replace hD := g_pos c8 hD
          obtain ⟨x9, ex9, hD⟩ := g_let hD
          refine lv_iinc (v := x9) (lv' := [(7, .int x9), (0, .ref (ad 732)), (1, .int a1), (2, .int a2), (3, .long v3), (5, .long v5)]) C.1.1 C.1.2.1 dX19_right_109 hl (k := 5) rfl (by rw [ex9]; rfl) (by decide) rfl (fun ls hl => ?_)
          refine lv_goto (tgt := 76) C.1.1 C.1.2.1 dX19_right_112 (by decide) ?_
          exact ih76 v3 v5 x9 M4 L5 _ _ ls hD hw (lv_sub hl [1, 2, 3, 4, 5, 0] rfl)
        · replace hD := g_neg c8 hD
          refine lv_iconst (v := 0) C.1.1 C.1.2.1 dX19_right_107 (by decide) ?_
          exact mr_iret C hr hlocks hw (by decide +kernel) (Option.some.inj hD) dX19_right_108
  unfold DX19_right at hD
  refine lv_aload_n C.1.1 C.1.2.1 dX19_right_0 rfl (lv_at hl 0 rfl) ?_
  refine mr_getR C hw kc_19 72 (by decide) tf_732 ff_732_72 wd_2853 dX19_right_1 (by decide) rfl ?_
  refine lv_iload_n C.1.1 C.1.2.1 dX19_right_4 rfl (lv_at hl 2 rfl) ?_
  obtain ⟨q10, hD⟩ := g_ck hD
  refine mr_iald C hw (by decide) tf_783 q10 dX19_right_5 ?_
  refine lv_if_ne (tgt := 11) C.1.1 C.1.2.1 dX19_right_6 (by decide) (fun c11 => ?_) (fun c11 => ?_)
  · replace hD := g_neg c11 hD
    refine lv_aload_n C.1.1 C.1.2.1 dX19_right_11 rfl (lv_at hl 0 rfl) ?_
    refine mr_getR C hw kc_19 75 (by decide) tf_732 ff_732_75 wd_2856 dX19_right_12 (by decide) rfl ?_
    refine lv_bipush (v := 6) C.1.1 C.1.2.1 dX19_right_15 (by decide) ?_
    refine lv_iload_n C.1.1 C.1.2.1 dX19_right_17 rfl (lv_at hl 2 rfl) ?_
    refine lv_imul C.1.1 C.1.2.1 dX19_right_18 ?_
    refine lv_iload_n C.1.1 C.1.2.1 dX19_right_19 rfl (lv_at hl 1 rfl) ?_
    refine lv_iadd C.1.1 C.1.2.1 dX19_right_20 ?_
    obtain ⟨q12, hD⟩ := g_ck hD
    refine mr_lald C hw (by decide) tf_786 q12 dX19_right_21 ?_
    obtain ⟨x13, ex13, hD⟩ := g_let hD
    refine W.eq (g2 := F0 m 22 ls (.long x13 :: [])) (by rw [ex13]) ?_
    refine lv_lstore_n (lv' := [(3, .long x13), (0, .ref (ad 732)), (1, .int a1), (2, .int a2)]) C.1.1 C.1.2.1 dX19_right_22 rfl hl (by decide) rfl (fun ls hl => ?_)
    refine lv_aload_n C.1.1 C.1.2.1 dX19_right_23 rfl (lv_at hl 1 rfl) ?_
    refine mr_getR C hw kc_19 87 (by decide) tf_732 ff_732_87 wd_2868 dX19_right_24 (by decide) rfl ?_
    refine lv_iconst (v := 3) C.1.1 C.1.2.1 dX19_right_27 (by decide) ?_
    refine mr_iald C hw (by decide) tf_926 (show vp_in 3 8 from by unfold vp_in; decide) dX19_right_28 ?_
    refine lv_i2l C.1.1 C.1.2.1 dX19_right_29 rfl ?_
    refine lv_lload_n C.1.1 C.1.2.1 dX19_right_30 rfl (lv_at hl 0 rfl) ?_
    refine lv_ldc2 (v := 255) C.1.1 C.1.2.1 C.1.2.2.2.1 (C.1.2.2.2.2 _ wd_3878) dX19_right_31 ?_
    refine lv_land C.1.1 C.1.2.1 dX19_right_34 ?_
    refine lv_lsub C.1.1 C.1.2.1 dX19_right_35 ?_
    refine lv_ldc2 (v := 256) C.1.1 C.1.2.1 C.1.2.2.2.1 (C.1.2.2.2.2 _ wd_3159) dX19_right_36 ?_
    refine lv_ladd C.1.1 C.1.2.1 dX19_right_39 ?_
    refine lv_ldc2 (v := 256) C.1.1 C.1.2.1 C.1.2.2.2.1 (C.1.2.2.2.2 _ wd_3159) dX19_right_40 ?_
    obtain ⟨q15, hD⟩ := g_nzL hD
    refine lv_lrem C.1.1 C.1.2.1 dX19_right_43 q15 ?_
    obtain ⟨x16, ex16, hD⟩ := g_let hD
    refine W.eq (g2 := F0 m 44 ls (.long x16 :: [])) (by rw [ex16]) ?_
    refine lv_lstore (lv' := [(5, .long x16), (3, .long x13), (0, .ref (ad 732)), (1, .int a1), (2, .int a2)]) C.1.1 C.1.2.1 dX19_right_44 hl (by decide) rfl (fun ls hl => ?_)
    refine lv_lload C.1.1 C.1.2.1 dX19_right_46 (lv_at hl 0 rfl) ?_
    refine lv_lconst (v := 1) C.1.1 C.1.2.1 dX19_right_48 (by decide) ?_
    refine W.lcmp C.1.1 C.1.2.1 dX19_right_49 ?_
    refine lv_if_lt (tgt := 62) C.1.1 C.1.2.1 dX19_right_50 (by decide) (fun c17 => ?_) (fun c17 => ?_)
    · replace hD := g_pos c17 hD
      exact hb62 M L _ _ ls hD hw (lv_sub hl [] rfl)
    · replace hD := g_neg c17 hD
      refine lv_lload C.1.1 C.1.2.1 dX19_right_53 (lv_at hl 0 rfl) ?_
      refine lv_ldc2 (v := 64) C.1.1 C.1.2.1 C.1.2.2.2.1 (C.1.2.2.2.2 _ wd_3879) dX19_right_55 ?_
      refine W.lcmp C.1.1 C.1.2.1 dX19_right_58 ?_
      refine lv_if_le (tgt := 64) C.1.1 C.1.2.1 dX19_right_59 (by decide) (fun c18 => ?_) (fun c18 => ?_)
      · replace hD := g_pos c18 hD
        refine lv_aload_n C.1.1 C.1.2.1 dX19_right_64 rfl (lv_at hl 2 rfl) ?_
        refine lv_iload_n C.1.1 C.1.2.1 dX19_right_65 rfl (lv_at hl 4 rfl) ?_
        refine lv_lload_n C.1.1 C.1.2.1 dX19_right_66 rfl (lv_at hl 1 rfl) ?_
        refine lv_lload C.1.1 C.1.2.1 dX19_right_67 (lv_at hl 0 rfl) ?_
        refine lv_ladd C.1.1 C.1.2.1 dX19_right_69 ?_
        obtain ⟨M19, L20, h1, hD⟩ := g_b2 hD
        refine md_cvV (As := [.int a2, .long (x13 + x16)]) (rest := []) C hw (tX19_codeOf l G ad fu a2 (x13 + x16) M L h1) kc_19 (by decide) tf_732 wd_3574 cwX19_codeOf ⟨Nat.le_of_ble_eq_true rfl, Nat.le_of_ble_eq_true rfl⟩ rfl hl.1 (Nat.le_of_ble_eq_true rfl) dX19_right_70 rfl rfl ⟨Nat.zero_le _, Nat.zero_le _⟩ rfl (fun H locs hw => ?_)
        refine lv_iconst (v := 0) C.1.1 C.1.2.1 dX19_right_73 (by decide) ?_
        refine lv_istore (lv' := [(7, .int 0), (5, .long x16), (3, .long x13), (0, .ref (ad 732)), (1, .int a1), (2, .int a2)]) C.1.1 C.1.2.1 dX19_right_74 hl (by decide) rfl (fun ls hl => ?_)
        exact hh76 fu x13 x16 0 M19 L20 _ _ ls hD hw (lv_sub hl [3, 4, 5, 2, 1, 0] rfl)
      · replace hD := g_neg c18 hD
        exact hb62 M L _ _ ls hD hw (lv_sub hl [] rfl)
  · replace hD := g_pos c11 hD
    refine lv_iconst (v := 1) C.1.1 C.1.2.1 dX19_right_9 (by decide) ?_
    exact mr_iret C hr hlocks hw (by decide +kernel) (Option.some.inj hD) dX19_right_10

theorem dX19_valueOf_0 : decode cX19_valueOf 0 = .ok (.aload_n 0, 1) := by decide +kernel
theorem dX19_valueOf_1 : decode cX19_valueOf 1 = .ok (.getfield 94, 3) := by decide +kernel
theorem dX19_valueOf_4 : decode cX19_valueOf 4 = .ok (.iload_n 1, 1) := by decide +kernel
theorem dX19_valueOf_5 : decode cX19_valueOf 5 = .ok (.iaload, 1) := by decide +kernel
theorem dX19_valueOf_6 : decode cX19_valueOf 6 = .ok (.bipush 7, 2) := by decide +kernel
theorem dX19_valueOf_8 : decode cX19_valueOf 8 = .ok (.iadd, 1) := by decide +kernel
theorem dX19_valueOf_9 : decode cX19_valueOf 9 = .ok (.bipush 8, 2) := by decide +kernel
theorem dX19_valueOf_11 : decode cX19_valueOf 11 = .ok (.idiv, 1) := by decide +kernel
theorem dX19_valueOf_12 : decode cX19_valueOf 12 = .ok (.istore_n 2, 1) := by decide +kernel
theorem dX19_valueOf_13 : decode cX19_valueOf 13 = .ok (.lconst 0, 1) := by decide +kernel
theorem dX19_valueOf_14 : decode cX19_valueOf 14 = .ok (.lstore_n 3, 1) := by decide +kernel
theorem dX19_valueOf_15 : decode cX19_valueOf 15 = .ok (.iconst 0, 1) := by decide +kernel
theorem dX19_valueOf_16 : decode cX19_valueOf 16 = .ok (.istore 5, 2) := by decide +kernel
theorem dX19_valueOf_18 : decode cX19_valueOf 18 = .ok (.iload 5, 2) := by decide +kernel
theorem dX19_valueOf_20 : decode cX19_valueOf 20 = .ok (.aload_n 0, 1) := by decide +kernel
theorem dX19_valueOf_21 : decode cX19_valueOf 21 = .ok (.getfield 94, 3) := by decide +kernel
theorem dX19_valueOf_24 : decode cX19_valueOf 24 = .ok (.iload_n 1, 1) := by decide +kernel
theorem dX19_valueOf_25 : decode cX19_valueOf 25 = .ok (.iaload, 1) := by decide +kernel
theorem dX19_valueOf_26 : decode cX19_valueOf 26 = .ok (.if_icmp .ge 86, 3) := by decide +kernel
theorem dX19_valueOf_29 : decode cX19_valueOf 29 = .ok (.aload_n 0, 1) := by decide +kernel
theorem dX19_valueOf_30 : decode cX19_valueOf 30 = .ok (.getfield 106, 3) := by decide +kernel
theorem dX19_valueOf_33 : decode cX19_valueOf 33 = .ok (.iload_n 1, 1) := by decide +kernel
theorem dX19_valueOf_34 : decode cX19_valueOf 34 = .ok (.baload, 1) := by decide +kernel
theorem dX19_valueOf_35 : decode cX19_valueOf 35 = .ok (.ifCond .eq 31, 3) := by decide +kernel
theorem dX19_valueOf_38 : decode cX19_valueOf 38 = .ok (.aload_n 0, 1) := by decide +kernel
theorem dX19_valueOf_39 : decode cX19_valueOf 39 = .ok (.getfield 116, 3) := by decide +kernel
theorem dX19_valueOf_42 : decode cX19_valueOf 42 = .ok (.iload_n 1, 1) := by decide +kernel
theorem dX19_valueOf_43 : decode cX19_valueOf 43 = .ok (.iaload, 1) := by decide +kernel
theorem dX19_valueOf_44 : decode cX19_valueOf 44 = .ok (.bipush 8, 2) := by decide +kernel
theorem dX19_valueOf_46 : decode cX19_valueOf 46 = .ok (.iload_n 2, 1) := by decide +kernel
theorem dX19_valueOf_47 : decode cX19_valueOf 47 = .ok (.iconst 1, 1) := by decide +kernel
theorem dX19_valueOf_48 : decode cX19_valueOf 48 = .ok (.isub, 1) := by decide +kernel
theorem dX19_valueOf_49 : decode cX19_valueOf 49 = .ok (.iload 5, 2) := by decide +kernel
theorem dX19_valueOf_51 : decode cX19_valueOf 51 = .ok (.bipush 8, 2) := by decide +kernel
theorem dX19_valueOf_53 : decode cX19_valueOf 53 = .ok (.idiv, 1) := by decide +kernel
theorem dX19_valueOf_54 : decode cX19_valueOf 54 = .ok (.isub, 1) := by decide +kernel
theorem dX19_valueOf_55 : decode cX19_valueOf 55 = .ok (.imul, 1) := by decide +kernel
theorem dX19_valueOf_56 : decode cX19_valueOf 56 = .ok (.iadd, 1) := by decide +kernel
theorem dX19_valueOf_57 : decode cX19_valueOf 57 = .ok (.iload 5, 2) := by decide +kernel
theorem dX19_valueOf_59 : decode cX19_valueOf 59 = .ok (.bipush 8, 2) := by decide +kernel
theorem dX19_valueOf_61 : decode cX19_valueOf 61 = .ok (.irem, 1) := by decide +kernel
theorem dX19_valueOf_62 : decode cX19_valueOf 62 = .ok (.iadd, 1) := by decide +kernel
theorem dX19_valueOf_63 : decode cX19_valueOf 63 = .ok (.goto 12, 3) := by decide +kernel
theorem dX19_valueOf_66 : decode cX19_valueOf 66 = .ok (.aload_n 0, 1) := by decide +kernel
theorem dX19_valueOf_67 : decode cX19_valueOf 67 = .ok (.getfield 116, 3) := by decide +kernel
theorem dX19_valueOf_70 : decode cX19_valueOf 70 = .ok (.iload_n 1, 1) := by decide +kernel
theorem dX19_valueOf_71 : decode cX19_valueOf 71 = .ok (.iaload, 1) := by decide +kernel
theorem dX19_valueOf_72 : decode cX19_valueOf 72 = .ok (.iload 5, 2) := by decide +kernel
theorem dX19_valueOf_74 : decode cX19_valueOf 74 = .ok (.iadd, 1) := by decide +kernel
theorem dX19_valueOf_75 : decode cX19_valueOf 75 = .ok (.istore 6, 2) := by decide +kernel
theorem dX19_valueOf_77 : decode cX19_valueOf 77 = .ok (.aload_n 0, 1) := by decide +kernel
theorem dX19_valueOf_78 : decode cX19_valueOf 78 = .ok (.getfield 230, 3) := by decide +kernel
theorem dX19_valueOf_81 : decode cX19_valueOf 81 = .ok (.iload 6, 2) := by decide +kernel
theorem dX19_valueOf_83 : decode cX19_valueOf 83 = .ok (.bipush 8, 2) := by decide +kernel
theorem dX19_valueOf_85 : decode cX19_valueOf 85 = .ok (.idiv, 1) := by decide +kernel
theorem dX19_valueOf_86 : decode cX19_valueOf 86 = .ok (.iaload, 1) := by decide +kernel
theorem dX19_valueOf_87 : decode cX19_valueOf 87 = .ok (.iload 6, 2) := by decide +kernel
theorem dX19_valueOf_89 : decode cX19_valueOf 89 = .ok (.bipush 8, 2) := by decide +kernel
theorem dX19_valueOf_91 : decode cX19_valueOf 91 = .ok (.irem, 1) := by decide +kernel
theorem dX19_valueOf_92 : decode cX19_valueOf 92 = .ok (.ishr, 1) := by decide +kernel
theorem dX19_valueOf_93 : decode cX19_valueOf 93 = .ok (.iconst 1, 1) := by decide +kernel
theorem dX19_valueOf_94 : decode cX19_valueOf 94 = .ok (.iand, 1) := by decide +kernel
theorem dX19_valueOf_95 : decode cX19_valueOf 95 = .ok (.iconst 1, 1) := by decide +kernel
theorem dX19_valueOf_96 : decode cX19_valueOf 96 = .ok (.if_icmp .ne 10, 3) := by decide +kernel
theorem dX19_valueOf_99 : decode cX19_valueOf 99 = .ok (.lload_n 3, 1) := by decide +kernel
theorem dX19_valueOf_100 : decode cX19_valueOf 100 = .ok (.lconst 1, 1) := by decide +kernel
theorem dX19_valueOf_101 : decode cX19_valueOf 101 = .ok (.iload 5, 2) := by decide +kernel
theorem dX19_valueOf_103 : decode cX19_valueOf 103 = .ok (.lshl, 1) := by decide +kernel
theorem dX19_valueOf_104 : decode cX19_valueOf 104 = .ok (.lor, 1) := by decide +kernel
theorem dX19_valueOf_105 : decode cX19_valueOf 105 = .ok (.lstore_n 3, 1) := by decide +kernel
theorem dX19_valueOf_106 : decode cX19_valueOf 106 = .ok (.iinc 5 1, 3) := by decide +kernel
theorem dX19_valueOf_109 : decode cX19_valueOf 109 = .ok (.goto (-91), 3) := by decide +kernel
theorem dX19_valueOf_112 : decode cX19_valueOf 112 = .ok (.lload_n 3, 1) := by decide +kernel
theorem dX19_valueOf_113 : decode cX19_valueOf 113 = .ok (.lreturn, 1) := by decide +kernel
theorem cwX19_valueOf : mw_cwV yX19_valueOf cX19_valueOf 7 ((some .long)) 1 := ⟨⟨wd_13, wd_3923, by decide +kernel⟩, wd_3922, sl_290⟩
set_option maxHeartbeats 4000000 in
set_option maxRecDepth 100000 in
theorem tX19_valueOf (l : Launch) (G : mwG) (ad : Nat → Nat) (fu : Nat) (a1 : Int32) (M : mwM) (L : mwL) {r0 : Int64} {M0 : mwM} {L0 : mwL} (hD : DX19_valueOf fu a1 M L = some (r0, M0, L0)) : Met l yX19_valueOf (Cond.code yX19_valueOf cX19_valueOf 7 ((some .long)) :: GT) ({ frames := 0, cells := 0, slots := 0, locals := 0 }) (mw_Pre G ad NF TF FF M L [.ref (ad 732), .int a1]) (mw_Ql G ad NF TF FF (mw_eqL r0 M0 L0)) 0 0 (mw_fr G) := by
  refine mw_enter (by decide) (Nat.le_of_ble_eq_true rfl) ?_
  intro p e s m below meth c ls C hr hlocks hnm hw hl
  have hl : lv_has ls 7 [(0, .ref (ad 732)), (1, .int a1)] := hl
  have hh18 : ∀ (f : Nat) (v2 : Int32) (v3 : Int64) (v5 : Int32) (M : mwM) (L : mwL) (H : Heap) (locs : List Loc) (ls : Array Slot), fX19_valueOf_h18 fu a1 f (v2, v3, v5, M, L) = some (r0, M0, L0) → mw_W G ad NF TF FF M L H locs → lv_has ls 7 [(0, .ref (ad 732)), (1, .int a1), (2, .int v2), (3, .long v3), (5, .int v5)] → W p l e ({ frames := 0, cells := 0, slots := 0, locals := 0 }) s m [.ref (ad 732), .int a1].toArray below meth c H locs 0 0 (MQ below (mw_Ql G ad NF TF FF (mw_eqL r0 M0 L0)) [.ref (ad 732), .int a1].toArray s 0 0 (mw_fr G)) (F0 m 18 ls []) := by
    intro f
    induction f with
    | zero => intro v2 v3 v5 M L H locs ls hD; cases hD
    | succ f18 ih18 =>
      intro v2 v3 v5 M L H locs ls hD hw hl
      replace hD : fX19_valueOf_i18 fu a1 (fX19_valueOf_h18 fu a1 f18) v2 v3 v5 M L = some (r0, M0, L0) := hD
      have hb106 : ∀ (v2 : Int32) (v3 : Int64) (v5 : Int32) (M : mwM) (L : mwL) (H : Heap) (locs : List Loc) (ls : Array Slot), fX19_valueOf_b106 fu a1 (fX19_valueOf_h18 fu a1 f18) v2 v3 v5 M L = some (r0, M0, L0) → mw_W G ad NF TF FF M L H locs → lv_has ls 7 [(0, .ref (ad 732)), (1, .int a1), (2, .int v2), (3, .long v3), (5, .int v5)] → W p l e ({ frames := 0, cells := 0, slots := 0, locals := 0 }) s m [.ref (ad 732), .int a1].toArray below meth c H locs 0 0 (MQ below (mw_Ql G ad NF TF FF (mw_eqL r0 M0 L0)) [.ref (ad 732), .int a1].toArray s 0 0 (mw_fr G)) (F0 m 106 ls []) := by
        intro v2 v3 v5 M L H locs ls hD hw hl
        unfold fX19_valueOf_b106 at hD
        obtain ⟨x14, ex14, hD⟩ := g_let hD
        refine lv_iinc (v := x14) (lv' := [(5, .int x14), (0, .ref (ad 732)), (1, .int a1), (2, .int v2), (3, .long v3)]) C.1.1 C.1.2.1 dX19_valueOf_106 hl (k := 4) rfl (by rw [ex14]; rfl) (by decide) rfl (fun ls hl => ?_)
        refine lv_goto (tgt := 18) C.1.1 C.1.2.1 dX19_valueOf_109 (by decide) ?_
        exact ih18 v2 v3 x14 M L _ _ ls hD hw (lv_sub hl [1, 2, 3, 4, 0] rfl)
      have hb75 : ∀ (v2 : Int32) (v3 : Int64) (v5 : Int32) (s0 : Int32) (M : mwM) (L : mwL) (H : Heap) (locs : List Loc) (ls : Array Slot), fX19_valueOf_b75 fu a1 (fX19_valueOf_h18 fu a1 f18) v2 v3 v5 s0 M L = some (r0, M0, L0) → mw_W G ad NF TF FF M L H locs → lv_has ls 7 [(0, .ref (ad 732)), (1, .int a1), (2, .int v2), (3, .long v3), (5, .int v5)] → W p l e ({ frames := 0, cells := 0, slots := 0, locals := 0 }) s m [.ref (ad 732), .int a1].toArray below meth c H locs 0 0 (MQ below (mw_Ql G ad NF TF FF (mw_eqL r0 M0 L0)) [.ref (ad 732), .int a1].toArray s 0 0 (mw_fr G)) (F0 m 75 ls [.int s0]) := by
        intro v2 v3 v5 s0 M L H locs ls hD hw hl
        unfold fX19_valueOf_b75 at hD
        refine lv_istore (lv' := [(6, .int s0), (0, .ref (ad 732)), (1, .int a1), (2, .int v2), (3, .long v3), (5, .int v5)]) C.1.1 C.1.2.1 dX19_valueOf_75 hl (by decide) rfl (fun ls hl => ?_)
        refine lv_aload_n C.1.1 C.1.2.1 dX19_valueOf_77 rfl (lv_at hl 1 rfl) ?_
        refine mr_getR C hw kc_19 87 (by decide) tf_732 ff_732_87 wd_2868 dX19_valueOf_78 (by decide) rfl ?_
        refine lv_iload C.1.1 C.1.2.1 dX19_valueOf_81 (lv_at hl 0 rfl) ?_
        refine lv_bipush (v := 8) C.1.1 C.1.2.1 dX19_valueOf_83 (by decide) ?_
        refine lv_idiv C.1.1 C.1.2.1 dX19_valueOf_85 (by decide) ?_
        obtain ⟨q10, hD⟩ := g_ck hD
        refine mr_iald C hw (by decide) tf_926 q10 dX19_valueOf_86 ?_
        refine lv_iload C.1.1 C.1.2.1 dX19_valueOf_87 (lv_at hl 0 rfl) ?_
        refine lv_bipush (v := 8) C.1.1 C.1.2.1 dX19_valueOf_89 (by decide) ?_
        refine lv_irem C.1.1 C.1.2.1 dX19_valueOf_91 (by decide) ?_
        refine lv_ishr C.1.1 C.1.2.1 dX19_valueOf_92 ?_
        refine lv_iconst (v := 1) C.1.1 C.1.2.1 dX19_valueOf_93 (by decide) ?_
        refine lv_iand C.1.1 C.1.2.1 dX19_valueOf_94 ?_
        refine lv_iconst (v := 1) C.1.1 C.1.2.1 dX19_valueOf_95 (by decide) ?_
        refine lv_icmp_ne (tgt := 106) C.1.1 C.1.2.1 dX19_valueOf_96 (by decide) (fun c12 => ?_) (fun c12 => ?_)
        · replace hD := g_neg c12 hD
          exact hb106 v2 v3 v5 M L _ _ ls hD hw (lv_sub hl [1, 2, 3, 4, 5] rfl)
        · replace hD := g_pos c12 hD
          refine lv_lload_n C.1.1 C.1.2.1 dX19_valueOf_99 rfl (lv_at hl 4 rfl) ?_
          refine lv_lconst (v := 1) C.1.1 C.1.2.1 dX19_valueOf_100 (by decide) ?_
          refine lv_iload C.1.1 C.1.2.1 dX19_valueOf_101 (lv_at hl 5 rfl) ?_
          refine lv_lshl C.1.1 C.1.2.1 dX19_valueOf_103 rfl ?_
          refine lv_lor C.1.1 C.1.2.1 dX19_valueOf_104 ?_
          obtain ⟨x13, ex13, hD⟩ := g_let hD
          refine W.eq (g2 := F0 m 105 ls (.long x13 :: [])) (by rw [ex13]) ?_
          refine lv_lstore_n (lv' := [(3, .long x13), (6, .int s0), (0, .ref (ad 732)), (1, .int a1), (2, .int v2), (5, .int v5)]) C.1.1 C.1.2.1 dX19_valueOf_105 rfl hl (by decide) rfl (fun ls hl => ?_)
          exact hb106 v2 x13 v5 M L _ _ ls hD hw (lv_sub hl [2, 3, 4, 0, 5] rfl)
      unfold fX19_valueOf_i18 at hD
      refine lv_iload C.1.1 C.1.2.1 dX19_valueOf_18 (lv_at hl 4 rfl) ?_
      refine lv_aload_n C.1.1 C.1.2.1 dX19_valueOf_20 rfl (lv_at hl 0 rfl) ?_
      refine mr_getR C hw kc_19 47 (by decide) tf_732 ff_732_47 wd_2828 dX19_valueOf_21 (by decide) rfl ?_
      refine lv_iload_n C.1.1 C.1.2.1 dX19_valueOf_24 rfl (lv_at hl 1 rfl) ?_
      obtain ⟨q1, hD⟩ := g_ck hD
      refine mr_iald C hw (by decide) tf_761 q1 dX19_valueOf_25 ?_
      refine lv_icmp_ge (tgt := 112) C.1.1 C.1.2.1 dX19_valueOf_26 (by decide) (fun c2 => ?_) (fun c2 => ?_)
      · replace hD := g_pos c2 hD
        refine lv_lload_n C.1.1 C.1.2.1 dX19_valueOf_112 rfl (lv_at hl 3 rfl) ?_
        exact mr_lret C hr hlocks hw (Option.some.inj hD) dX19_valueOf_113
      · replace hD := g_neg c2 hD
        refine lv_aload_n C.1.1 C.1.2.1 dX19_valueOf_29 rfl (lv_at hl 0 rfl) ?_
        refine mr_getR C hw kc_19 51 (by decide) tf_732 ff_732_51 wd_2832 dX19_valueOf_30 (by decide) rfl ?_
        refine lv_iload_n C.1.1 C.1.2.1 dX19_valueOf_33 rfl (lv_at hl 1 rfl) ?_
        obtain ⟨q3, hD⟩ := g_ck hD
        refine mr_zald C hw (by decide) tf_765 q3 dX19_valueOf_34 ?_
        refine lv_if_eq (tgt := 66) C.1.1 C.1.2.1 dX19_valueOf_35 (by decide) (fun c4 => ?_) (fun c4 => ?_)
        · replace hD := g_pos c4 hD
          refine lv_aload_n C.1.1 C.1.2.1 dX19_valueOf_66 rfl (lv_at hl 0 rfl) ?_
          refine mr_getR C hw kc_19 54 (by decide) tf_732 ff_732_54 wd_2835 dX19_valueOf_67 (by decide) rfl ?_
          refine lv_iload_n C.1.1 C.1.2.1 dX19_valueOf_70 rfl (lv_at hl 1 rfl) ?_
          obtain ⟨q5, hD⟩ := g_ck hD
          refine mr_iald C hw (by decide) tf_768 q5 dX19_valueOf_71 ?_
          refine lv_iload C.1.1 C.1.2.1 dX19_valueOf_72 (lv_at hl 4 rfl) ?_
          refine lv_iadd C.1.1 C.1.2.1 dX19_valueOf_74 ?_
          exact hb75 v2 v3 v5 ((M 768 a1.toNatClampNeg) + v5) M L _ _ ls hD hw (lv_sub hl [0, 1, 2, 3, 4] rfl)
        · replace hD := g_neg c4 hD
          refine lv_aload_n C.1.1 C.1.2.1 dX19_valueOf_38 rfl (lv_at hl 0 rfl) ?_
          refine mr_getR C hw kc_19 54 (by decide) tf_732 ff_732_54 wd_2835 dX19_valueOf_39 (by decide) rfl ?_
          refine lv_iload_n C.1.1 C.1.2.1 dX19_valueOf_42 rfl (lv_at hl 1 rfl) ?_
          obtain ⟨q6, hD⟩ := g_ck hD
          refine mr_iald C hw (by decide) tf_768 q6 dX19_valueOf_43 ?_
          refine lv_bipush (v := 8) C.1.1 C.1.2.1 dX19_valueOf_44 (by decide) ?_
          refine lv_iload_n C.1.1 C.1.2.1 dX19_valueOf_46 rfl (lv_at hl 2 rfl) ?_
          refine lv_iconst (v := 1) C.1.1 C.1.2.1 dX19_valueOf_47 (by decide) ?_
          refine lv_isub C.1.1 C.1.2.1 dX19_valueOf_48 ?_
          refine lv_iload C.1.1 C.1.2.1 dX19_valueOf_49 (lv_at hl 4 rfl) ?_
          refine lv_bipush (v := 8) C.1.1 C.1.2.1 dX19_valueOf_51 (by decide) ?_
          refine lv_idiv C.1.1 C.1.2.1 dX19_valueOf_53 (by decide) ?_
          refine lv_isub C.1.1 C.1.2.1 dX19_valueOf_54 ?_
          refine lv_imul C.1.1 C.1.2.1 dX19_valueOf_55 ?_
          refine lv_iadd C.1.1 C.1.2.1 dX19_valueOf_56 ?_
          refine lv_iload C.1.1 C.1.2.1 dX19_valueOf_57 (lv_at hl 4 rfl) ?_
          refine lv_bipush (v := 8) C.1.1 C.1.2.1 dX19_valueOf_59 (by decide) ?_
          refine lv_irem C.1.1 C.1.2.1 dX19_valueOf_61 (by decide) ?_
          refine lv_iadd C.1.1 C.1.2.1 dX19_valueOf_62 ?_
          refine lv_goto (tgt := 75) C.1.1 C.1.2.1 dX19_valueOf_63 (by decide) ?_
          exact hb75 v2 v3 v5 (((M 768 a1.toNatClampNeg) + (8 * ((v2 - 1) - (v5 / 8)))) + (v5 - v5 / 8 * 8)) M L _ _ ls hD hw (lv_sub hl [0, 1, 2, 3, 4] rfl)
  unfold DX19_valueOf at hD
  refine lv_aload_n C.1.1 C.1.2.1 dX19_valueOf_0 rfl (lv_at hl 0 rfl) ?_
  refine mr_getR C hw kc_19 47 (by decide) tf_732 ff_732_47 wd_2828 dX19_valueOf_1 (by decide) rfl ?_
  refine lv_iload_n C.1.1 C.1.2.1 dX19_valueOf_4 rfl (lv_at hl 1 rfl) ?_
  obtain ⟨q15, hD⟩ := g_ck hD
  refine mr_iald C hw (by decide) tf_761 q15 dX19_valueOf_5 ?_
  refine lv_bipush (v := 7) C.1.1 C.1.2.1 dX19_valueOf_6 (by decide) ?_
  refine lv_iadd C.1.1 C.1.2.1 dX19_valueOf_8 ?_
  refine lv_bipush (v := 8) C.1.1 C.1.2.1 dX19_valueOf_9 (by decide) ?_
  refine lv_idiv C.1.1 C.1.2.1 dX19_valueOf_11 (by decide) ?_
  obtain ⟨x17, ex17, hD⟩ := g_let hD
  refine W.eq (g2 := F0 m 12 ls (.int x17 :: [])) (by rw [ex17]) ?_
  refine lv_istore_n (lv' := [(2, .int x17), (0, .ref (ad 732)), (1, .int a1)]) C.1.1 C.1.2.1 dX19_valueOf_12 rfl hl (by decide) rfl (fun ls hl => ?_)
  refine lv_lconst (v := 0) C.1.1 C.1.2.1 dX19_valueOf_13 (by decide) ?_
  refine lv_lstore_n (lv' := [(3, .long 0), (2, .int x17), (0, .ref (ad 732)), (1, .int a1)]) C.1.1 C.1.2.1 dX19_valueOf_14 rfl hl (by decide) rfl (fun ls hl => ?_)
  refine lv_iconst (v := 0) C.1.1 C.1.2.1 dX19_valueOf_15 (by decide) ?_
  refine lv_istore (lv' := [(5, .int 0), (3, .long 0), (2, .int x17), (0, .ref (ad 732)), (1, .int a1)]) C.1.1 C.1.2.1 dX19_valueOf_16 hl (by decide) rfl (fun ls hl => ?_)
  exact hh18 fu x17 0 0 M L _ _ ls hD hw (lv_sub hl [3, 4, 2, 1, 0] rfl)

theorem dX19_come_0 : decode cX19_come 0 = .ok (.aload_n 0, 1) := by decide +kernel
theorem dX19_come_1 : decode cX19_come 1 = .ok (.iload_n 1, 1) := by decide +kernel
theorem dX19_come_2 : decode cX19_come 2 = .ok (.iload_n 2, 1) := by decide +kernel
theorem dX19_come_3 : decode cX19_come 3 = .ok (.invokevirtual 699, 3) := by decide +kernel
theorem dX19_come_6 : decode cX19_come 6 = .ok (.ifCond .ne 14, 3) := by decide +kernel
theorem dX19_come_9 : decode cX19_come 9 = .ok (.aload_n 0, 1) := by decide +kernel
theorem dX19_come_10 : decode cX19_come 10 = .ok (.getfield 273, 3) := by decide +kernel
theorem dX19_come_13 : decode cX19_come 13 = .ok (.iconst 1, 1) := by decide +kernel
theorem dX19_come_14 : decode cX19_come 14 = .ok (.dup2, 1) := by decide +kernel
theorem dX19_come_15 : decode cX19_come 15 = .ok (.iaload, 1) := by decide +kernel
theorem dX19_come_16 : decode cX19_come 16 = .ok (.iconst 1, 1) := by decide +kernel
theorem dX19_come_17 : decode cX19_come 17 = .ok (.iadd, 1) := by decide +kernel
theorem dX19_come_18 : decode cX19_come 18 = .ok (.iastore, 1) := by decide +kernel
theorem dX19_come_19 : decode cX19_come 19 = .ok (.return_, 1) := by decide +kernel
theorem dX19_come_20 : decode cX19_come 20 = .ok (.iconst 0, 1) := by decide +kernel
theorem dX19_come_21 : decode cX19_come 21 = .ok (.istore_n 3, 1) := by decide +kernel
theorem dX19_come_22 : decode cX19_come 22 = .ok (.iload_n 3, 1) := by decide +kernel
theorem dX19_come_23 : decode cX19_come 23 = .ok (.aload_n 0, 1) := by decide +kernel
theorem dX19_come_24 : decode cX19_come 24 = .ok (.getfield 558, 3) := by decide +kernel
theorem dX19_come_27 : decode cX19_come 27 = .ok (.if_icmp .ge 61, 3) := by decide +kernel
theorem dX19_come_30 : decode cX19_come 30 = .ok (.aload_n 0, 1) := by decide +kernel
theorem dX19_come_31 : decode cX19_come 31 = .ok (.getfield 141, 3) := by decide +kernel
theorem dX19_come_34 : decode cX19_come 34 = .ok (.iload_n 3, 1) := by decide +kernel
theorem dX19_come_35 : decode cX19_come 35 = .ok (.iaload, 1) := by decide +kernel
theorem dX19_come_36 : decode cX19_come 36 = .ok (.iload_n 1, 1) := by decide +kernel
theorem dX19_come_37 : decode cX19_come 37 = .ok (.if_icmp .ne 45, 3) := by decide +kernel
theorem dX19_come_40 : decode cX19_come 40 = .ok (.aload_n 0, 1) := by decide +kernel
theorem dX19_come_41 : decode cX19_come 41 = .ok (.getfield 113, 3) := by decide +kernel
theorem dX19_come_44 : decode cX19_come 44 = .ok (.aload_n 0, 1) := by decide +kernel
theorem dX19_come_45 : decode cX19_come 45 = .ok (.getfield 138, 3) := by decide +kernel
theorem dX19_come_48 : decode cX19_come 48 = .ok (.iload_n 3, 1) := by decide +kernel
theorem dX19_come_49 : decode cX19_come 49 = .ok (.iaload, 1) := by decide +kernel
theorem dX19_come_50 : decode cX19_come 50 = .ok (.iaload, 1) := by decide +kernel
theorem dX19_come_51 : decode cX19_come 51 = .ok (.iload_n 2, 1) := by decide +kernel
theorem dX19_come_52 : decode cX19_come 52 = .ok (.if_icmp .ne 30, 3) := by decide +kernel
theorem dX19_come_55 : decode cX19_come 55 = .ok (.aload_n 0, 1) := by decide +kernel
theorem dX19_come_56 : decode cX19_come 56 = .ok (.getfield 147, 3) := by decide +kernel
theorem dX19_come_59 : decode cX19_come 59 = .ok (.iload_n 3, 1) := by decide +kernel
theorem dX19_come_60 : decode cX19_come 60 = .ok (.aload_n 0, 1) := by decide +kernel
theorem dX19_come_61 : decode cX19_come 61 = .ok (.getfield 600, 3) := by decide +kernel
theorem dX19_come_64 : decode cX19_come 64 = .ok (.i2l, 1) := by decide +kernel
theorem dX19_come_65 : decode cX19_come 65 = .ok (.lastore, 1) := by decide +kernel
theorem dX19_come_66 : decode cX19_come 66 = .ok (.aload_n 0, 1) := by decide +kernel
theorem dX19_come_67 : decode cX19_come 67 = .ok (.getfield 205, 3) := by decide +kernel
theorem dX19_come_70 : decode cX19_come 70 = .ok (.aload_n 0, 1) := by decide +kernel
theorem dX19_come_71 : decode cX19_come 71 = .ok (.getfield 144, 3) := by decide +kernel
theorem dX19_come_74 : decode cX19_come 74 = .ok (.iload_n 3, 1) := by decide +kernel
theorem dX19_come_75 : decode cX19_come 75 = .ok (.iaload, 1) := by decide +kernel
theorem dX19_come_76 : decode cX19_come 76 = .ok (.iconst 0, 1) := by decide +kernel
theorem dX19_come_77 : decode cX19_come 77 = .ok (.invokevirtual 702, 3) := by decide +kernel
theorem dX19_come_80 : decode cX19_come 80 = .ok (.istore 4, 2) := by decide +kernel
theorem dX19_come_82 : decode cX19_come 82 = .ok (.iinc 3 1, 3) := by decide +kernel
theorem dX19_come_85 : decode cX19_come 85 = .ok (.goto (-63), 3) := by decide +kernel
theorem dX19_come_88 : decode cX19_come 88 = .ok (.iconst 0, 1) := by decide +kernel
theorem dX19_come_89 : decode cX19_come 89 = .ok (.istore_n 3, 1) := by decide +kernel
theorem dX19_come_90 : decode cX19_come 90 = .ok (.iload_n 3, 1) := by decide +kernel
theorem dX19_come_91 : decode cX19_come 91 = .ok (.aload_n 0, 1) := by decide +kernel
theorem dX19_come_92 : decode cX19_come 92 = .ok (.getfield 555, 3) := by decide +kernel
theorem dX19_come_95 : decode cX19_come 95 = .ok (.if_icmp .ge 219, 3) := by decide +kernel
theorem dX19_come_98 : decode cX19_come 98 = .ok (.aload_n 0, 1) := by decide +kernel
theorem dX19_come_99 : decode cX19_come 99 = .ok (.getfield 122, 3) := by decide +kernel
theorem dX19_come_102 : decode cX19_come 102 = .ok (.iload_n 3, 1) := by decide +kernel
theorem dX19_come_103 : decode cX19_come 103 = .ok (.iaload, 1) := by decide +kernel
theorem dX19_come_104 : decode cX19_come 104 = .ok (.istore 4, 2) := by decide +kernel
theorem dX19_come_106 : decode cX19_come 106 = .ok (.aload_n 0, 1) := by decide +kernel
theorem dX19_come_107 : decode cX19_come 107 = .ok (.getfield 37, 3) := by decide +kernel
theorem dX19_come_110 : decode cX19_come 110 = .ok (.aload_n 0, 1) := by decide +kernel
theorem dX19_come_111 : decode cX19_come 111 = .ok (.getfield 58, 3) := by decide +kernel
theorem dX19_come_114 : decode cX19_come 114 = .ok (.iload 4, 2) := by decide +kernel
theorem dX19_come_116 : decode cX19_come 116 = .ok (.iaload, 1) := by decide +kernel
theorem dX19_come_117 : decode cX19_come 117 = .ok (.iaload, 1) := by decide +kernel
theorem dX19_come_118 : decode cX19_come 118 = .ok (.iload_n 1, 1) := by decide +kernel
theorem dX19_come_119 : decode cX19_come 119 = .ok (.if_icmp .ne 189, 3) := by decide +kernel
theorem dX19_come_122 : decode cX19_come 122 = .ok (.aload_n 0, 1) := by decide +kernel
theorem dX19_come_123 : decode cX19_come 123 = .ok (.getfield 113, 3) := by decide +kernel
theorem dX19_come_126 : decode cX19_come 126 = .ok (.aload_n 0, 1) := by decide +kernel
theorem dX19_come_127 : decode cX19_come 127 = .ok (.getfield 119, 3) := by decide +kernel
theorem dX19_come_130 : decode cX19_come 130 = .ok (.iload_n 3, 1) := by decide +kernel
theorem dX19_come_131 : decode cX19_come 131 = .ok (.iaload, 1) := by decide +kernel
theorem dX19_come_132 : decode cX19_come 132 = .ok (.iaload, 1) := by decide +kernel
theorem dX19_come_133 : decode cX19_come 133 = .ok (.iload_n 2, 1) := by decide +kernel
theorem dX19_come_134 : decode cX19_come 134 = .ok (.if_icmp .eq 6, 3) := by decide +kernel
theorem dX19_come_137 : decode cX19_come 137 = .ok (.goto 171, 3) := by decide +kernel
theorem dX19_come_140 : decode cX19_come 140 = .ok (.aload_n 0, 1) := by decide +kernel
theorem dX19_come_141 : decode cX19_come 141 = .ok (.aload_n 0, 1) := by decide +kernel
theorem dX19_come_142 : decode cX19_come 142 = .ok (.getfield 119, 3) := by decide +kernel
theorem dX19_come_145 : decode cX19_come 145 = .ok (.iload_n 3, 1) := by decide +kernel
theorem dX19_come_146 : decode cX19_come 146 = .ok (.iaload, 1) := by decide +kernel
theorem dX19_come_147 : decode cX19_come 147 = .ok (.invokevirtual 706, 3) := by decide +kernel
theorem dX19_come_150 : decode cX19_come 150 = .ok (.lstore 5, 2) := by decide +kernel
theorem dX19_come_152 : decode cX19_come 152 = .ok (.aload_n 0, 1) := by decide +kernel
theorem dX19_come_153 : decode cX19_come 153 = .ok (.getfield 131, 3) := by decide +kernel
theorem dX19_come_156 : decode cX19_come 156 = .ok (.iload_n 3, 1) := by decide +kernel
theorem dX19_come_157 : decode cX19_come 157 = .ok (.baload, 1) := by decide +kernel
theorem dX19_come_158 : decode cX19_come 158 = .ok (.ifCond .eq 15, 3) := by decide +kernel
theorem dX19_come_161 : decode cX19_come 161 = .ok (.aload_n 0, 1) := by decide +kernel
theorem dX19_come_162 : decode cX19_come 162 = .ok (.getfield 134, 3) := by decide +kernel
theorem dX19_come_165 : decode cX19_come 165 = .ok (.iload_n 3, 1) := by decide +kernel
theorem dX19_come_166 : decode cX19_come 166 = .ok (.laload, 1) := by decide +kernel
theorem dX19_come_167 : decode cX19_come 167 = .ok (.lload 5, 2) := by decide +kernel
theorem dX19_come_169 : decode cX19_come 169 = .ok (.lcmp, 1) := by decide +kernel
theorem dX19_come_170 : decode cX19_come 170 = .ok (.ifCond .eq 7, 3) := by decide +kernel
theorem dX19_come_173 : decode cX19_come 173 = .ok (.iconst 1, 1) := by decide +kernel
theorem dX19_come_174 : decode cX19_come 174 = .ok (.goto 4, 3) := by decide +kernel
theorem dX19_come_177 : decode cX19_come 177 = .ok (.iconst 0, 1) := by decide +kernel
theorem dX19_come_178 : decode cX19_come 178 = .ok (.istore 7, 2) := by decide +kernel
theorem dX19_come_180 : decode cX19_come 180 = .ok (.aload_n 0, 1) := by decide +kernel
theorem dX19_come_181 : decode cX19_come 181 = .ok (.getfield 131, 3) := by decide +kernel
theorem dX19_come_184 : decode cX19_come 184 = .ok (.iload_n 3, 1) := by decide +kernel
theorem dX19_come_185 : decode cX19_come 185 = .ok (.iconst 1, 1) := by decide +kernel
theorem dX19_come_186 : decode cX19_come 186 = .ok (.bastore, 1) := by decide +kernel
theorem dX19_come_187 : decode cX19_come 187 = .ok (.aload_n 0, 1) := by decide +kernel
theorem dX19_come_188 : decode cX19_come 188 = .ok (.getfield 134, 3) := by decide +kernel
theorem dX19_come_191 : decode cX19_come 191 = .ok (.iload_n 3, 1) := by decide +kernel
theorem dX19_come_192 : decode cX19_come 192 = .ok (.lload 5, 2) := by decide +kernel
theorem dX19_come_194 : decode cX19_come 194 = .ok (.lastore, 1) := by decide +kernel
theorem dX19_come_195 : decode cX19_come 195 = .ok (.iload 7, 2) := by decide +kernel
theorem dX19_come_197 : decode cX19_come 197 = .ok (.ifCond .ne 6, 3) := by decide +kernel
theorem dX19_come_200 : decode cX19_come 200 = .ok (.goto 108, 3) := by decide +kernel
theorem dX19_come_203 : decode cX19_come 203 = .ok (.aload_n 0, 1) := by decide +kernel
theorem dX19_come_204 : decode cX19_come 204 = .ok (.getfield 217, 3) := by decide +kernel
theorem dX19_come_207 : decode cX19_come 207 = .ok (.iload 4, 2) := by decide +kernel
theorem dX19_come_209 : decode cX19_come 209 = .ok (.aaload, 1) := by decide +kernel
theorem dX19_come_210 : decode cX19_come 210 = .ok (.aload_n 0, 1) := by decide +kernel
theorem dX19_come_211 : decode cX19_come 211 = .ok (.getfield 125, 3) := by decide +kernel
theorem dX19_come_214 : decode cX19_come 214 = .ok (.iload_n 3, 1) := by decide +kernel
theorem dX19_come_215 : decode cX19_come 215 = .ok (.iaload, 1) := by decide +kernel
theorem dX19_come_216 : decode cX19_come 216 = .ok (.lload 5, 2) := by decide +kernel
theorem dX19_come_218 : decode cX19_come 218 = .ok (.invokevirtual 709, 3) := by decide +kernel
theorem dX19_come_221 : decode cX19_come 221 = .ok (.aload_n 0, 1) := by decide +kernel
theorem dX19_come_222 : decode cX19_come 222 = .ok (.getfield 128, 3) := by decide +kernel
theorem dX19_come_225 : decode cX19_come 225 = .ok (.iload_n 3, 1) := by decide +kernel
theorem dX19_come_226 : decode cX19_come 226 = .ok (.iaload, 1) := by decide +kernel
theorem dX19_come_227 : decode cX19_come 227 = .ok (.ifCond .le 25, 3) := by decide +kernel
theorem dX19_come_230 : decode cX19_come 230 = .ok (.aload_n 0, 1) := by decide +kernel
theorem dX19_come_231 : decode cX19_come 231 = .ok (.getfield 67, 3) := by decide +kernel
theorem dX19_come_234 : decode cX19_come 234 = .ok (.iload 4, 2) := by decide +kernel
theorem dX19_come_236 : decode cX19_come 236 = .ok (.iaload, 1) := by decide +kernel
theorem dX19_come_237 : decode cX19_come 237 = .ok (.bipush 16, 2) := by decide +kernel
theorem dX19_come_239 : decode cX19_come 239 = .ok (.if_icmp .ne 13, 3) := by decide +kernel
theorem dX19_come_242 : decode cX19_come 242 = .ok (.aload_n 0, 1) := by decide +kernel
theorem dX19_come_243 : decode cX19_come 243 = .ok (.getfield 273, 3) := by decide +kernel
theorem dX19_come_246 : decode cX19_come 246 = .ok (.iconst 2, 1) := by decide +kernel
theorem dX19_come_247 : decode cX19_come 247 = .ok (.dup2, 1) := by decide +kernel
theorem dX19_come_248 : decode cX19_come 248 = .ok (.iaload, 1) := by decide +kernel
theorem dX19_come_249 : decode cX19_come 249 = .ok (.iconst 1, 1) := by decide +kernel
theorem dX19_come_250 : decode cX19_come 250 = .ok (.iadd, 1) := by decide +kernel
theorem dX19_come_251 : decode cX19_come 251 = .ok (.iastore, 1) := by decide +kernel
theorem dX19_come_252 : decode cX19_come 252 = .ok (.aload_n 0, 1) := by decide +kernel
theorem dX19_come_253 : decode cX19_come 253 = .ok (.getfield 128, 3) := by decide +kernel
theorem dX19_come_256 : decode cX19_come 256 = .ok (.iload_n 3, 1) := by decide +kernel
theorem dX19_come_257 : decode cX19_come 257 = .ok (.iaload, 1) := by decide +kernel
theorem dX19_come_258 : decode cX19_come 258 = .ok (.ifCond .le 50, 3) := by decide +kernel
theorem dX19_come_261 : decode cX19_come 261 = .ok (.aload_n 0, 1) := by decide +kernel
theorem dX19_come_262 : decode cX19_come 262 = .ok (.getfield 67, 3) := by decide +kernel
theorem dX19_come_265 : decode cX19_come 265 = .ok (.iload 4, 2) := by decide +kernel
theorem dX19_come_267 : decode cX19_come 267 = .ok (.iaload, 1) := by decide +kernel
theorem dX19_come_268 : decode cX19_come 268 = .ok (.bipush 16, 2) := by decide +kernel
theorem dX19_come_270 : decode cX19_come 270 = .ok (.if_icmp .ge 38, 3) := by decide +kernel
theorem dX19_come_273 : decode cX19_come 273 = .ok (.aload_n 0, 1) := by decide +kernel
theorem dX19_come_274 : decode cX19_come 274 = .ok (.getfield 70, 3) := by decide +kernel
theorem dX19_come_277 : decode cX19_come 277 = .ok (.bipush 16, 2) := by decide +kernel
theorem dX19_come_279 : decode cX19_come 279 = .ok (.iload 4, 2) := by decide +kernel
theorem dX19_come_281 : decode cX19_come 281 = .ok (.imul, 1) := by decide +kernel
theorem dX19_come_282 : decode cX19_come 282 = .ok (.aload_n 0, 1) := by decide +kernel
theorem dX19_come_283 : decode cX19_come 283 = .ok (.getfield 67, 3) := by decide +kernel
theorem dX19_come_286 : decode cX19_come 286 = .ok (.iload 4, 2) := by decide +kernel
theorem dX19_come_288 : decode cX19_come 288 = .ok (.iaload, 1) := by decide +kernel
theorem dX19_come_289 : decode cX19_come 289 = .ok (.iadd, 1) := by decide +kernel
theorem dX19_come_290 : decode cX19_come 290 = .ok (.aload_n 0, 1) := by decide +kernel
theorem dX19_come_291 : decode cX19_come 291 = .ok (.getfield 128, 3) := by decide +kernel
theorem dX19_come_294 : decode cX19_come 294 = .ok (.iload_n 3, 1) := by decide +kernel
theorem dX19_come_295 : decode cX19_come 295 = .ok (.iaload, 1) := by decide +kernel
theorem dX19_come_296 : decode cX19_come 296 = .ok (.iastore, 1) := by decide +kernel
theorem dX19_come_297 : decode cX19_come 297 = .ok (.aload_n 0, 1) := by decide +kernel
theorem dX19_come_298 : decode cX19_come 298 = .ok (.getfield 67, 3) := by decide +kernel
theorem dX19_come_301 : decode cX19_come 301 = .ok (.iload 4, 2) := by decide +kernel
theorem dX19_come_303 : decode cX19_come 303 = .ok (.dup2, 1) := by decide +kernel
theorem dX19_come_304 : decode cX19_come 304 = .ok (.iaload, 1) := by decide +kernel
theorem dX19_come_305 : decode cX19_come 305 = .ok (.iconst 1, 1) := by decide +kernel
theorem dX19_come_306 : decode cX19_come 306 = .ok (.iadd, 1) := by decide +kernel
theorem dX19_come_307 : decode cX19_come 307 = .ok (.iastore, 1) := by decide +kernel
theorem dX19_come_308 : decode cX19_come 308 = .ok (.iinc 3 1, 3) := by decide +kernel
theorem dX19_come_311 : decode cX19_come 311 = .ok (.goto (-221), 3) := by decide +kernel
theorem dX19_come_314 : decode cX19_come 314 = .ok (.return_, 1) := by decide +kernel
theorem cwX19_come : mw_cwV yX19_come cX19_come 8 (none) 2 := ⟨⟨wd_13, wd_3873, by decide +kernel⟩, wd_3872, sl_279⟩
set_option maxHeartbeats 4000000 in
set_option maxRecDepth 100000 in
theorem tX19_come (l : Launch) (G : mwG) (ad : Nat → Nat) (fu : Nat) (a1 : Int32) (a2 : Int32) (M : mwM) (L : mwL) {M0 : mwM} {L0 : mwL} (hD : DX19_come fu a1 a2 M L = some (M0, L0)) : Met l yX19_come (Cond.code yX19_come cX19_come 8 (none) :: GT) ({ frames := 7, cells := 0, slots := 0, locals := 177 }) (mw_Pre G ad NF TF FF M L [.ref (ad 732), .int a1, .int a2]) (mw_Qv G ad NF TF FF (mw_eqV M0 L0)) 0 0 (mw_fr G) := by
  refine mw_enter (by decide) (Nat.le_of_ble_eq_true rfl) ?_
  intro p e s m below meth c ls C hr hlocks hnm hw hl
  have hl : lv_has ls 8 [(0, .ref (ad 732)), (1, .int a1), (2, .int a2)] := hl
  have hh90 : ∀ (f : Nat) (v3 : Int32) (M : mwM) (L : mwL) (H : Heap) (locs : List Loc) (ls : Array Slot), fX19_come_h90 fu a1 a2 f (v3, M, L) = some (M0, L0) → mw_W G ad NF TF FF M L H locs → lv_has ls 8 [(0, .ref (ad 732)), (1, .int a1), (2, .int a2), (3, .int v3)] → W p l e ({ frames := 7, cells := 0, slots := 0, locals := 177 }) s m [.ref (ad 732), .int a1, .int a2].toArray below meth c H locs 0 0 (MQ below (mw_Qv G ad NF TF FF (mw_eqV M0 L0)) [.ref (ad 732), .int a1, .int a2].toArray s 0 0 (mw_fr G)) (F0 m 90 ls []) := by
    intro f
    induction f with
    | zero => intro v3 M L H locs ls hD; cases hD
    | succ f90 ih90 =>
      intro v3 M L H locs ls hD hw hl
      replace hD : fX19_come_i90 fu a1 a2 (fX19_come_h90 fu a1 a2 f90) v3 M L = some (M0, L0) := hD
      have hb308 : ∀ (v3 : Int32) (M : mwM) (L : mwL) (H : Heap) (locs : List Loc) (ls : Array Slot), fX19_come_b308 fu a1 a2 (fX19_come_h90 fu a1 a2 f90) v3 M L = some (M0, L0) → mw_W G ad NF TF FF M L H locs → lv_has ls 8 [(0, .ref (ad 732)), (1, .int a1), (2, .int a2), (3, .int v3)] → W p l e ({ frames := 7, cells := 0, slots := 0, locals := 177 }) s m [.ref (ad 732), .int a1, .int a2].toArray below meth c H locs 0 0 (MQ below (mw_Qv G ad NF TF FF (mw_eqV M0 L0)) [.ref (ad 732), .int a1, .int a2].toArray s 0 0 (mw_fr G)) (F0 m 308 ls []) := by
        intro v3 M L H locs ls hD hw hl
        unfold fX19_come_b308 at hD
        obtain ⟨x58, ex58, hD⟩ := g_let hD
        refine lv_iinc (v := x58) (lv' := [(3, .int x58), (0, .ref (ad 732)), (1, .int a1), (2, .int a2)]) C.1.1 C.1.2.1 dX19_come_308 hl (k := 3) rfl (by rw [ex58]; rfl) (by decide) rfl (fun ls hl => ?_)
        refine lv_goto (tgt := 90) C.1.1 C.1.2.1 dX19_come_311 (by decide) ?_
        exact ih90 x58 M L _ _ ls hD hw (lv_sub hl [1, 2, 3, 0] rfl)
      have hb252 : ∀ (v3 : Int32) (v4 : Int32) (M : mwM) (L : mwL) (H : Heap) (locs : List Loc) (ls : Array Slot), fX19_come_b252 fu a1 a2 (fX19_come_h90 fu a1 a2 f90) v3 v4 M L = some (M0, L0) → mw_W G ad NF TF FF M L H locs → lv_has ls 8 [(0, .ref (ad 732)), (1, .int a1), (2, .int a2), (3, .int v3), (4, .int v4)] → W p l e ({ frames := 7, cells := 0, slots := 0, locals := 177 }) s m [.ref (ad 732), .int a1, .int a2].toArray below meth c H locs 0 0 (MQ below (mw_Qv G ad NF TF FF (mw_eqV M0 L0)) [.ref (ad 732), .int a1, .int a2].toArray s 0 0 (mw_fr G)) (F0 m 252 ls []) := by
        intro v3 v4 M L H locs ls hD hw hl
        unfold fX19_come_b252 at hD
        refine lv_aload_n C.1.1 C.1.2.1 dX19_come_252 rfl (lv_at hl 0 rfl) ?_
        refine mr_getR C hw kc_19 59 (by decide) tf_732 ff_732_59 wd_2840 dX19_come_253 (by decide) rfl ?_
        refine lv_iload_n C.1.1 C.1.2.1 dX19_come_256 rfl (lv_at hl 3 rfl) ?_
        obtain ⟨q47, hD⟩ := g_ck hD
        refine mr_iald C hw (by decide) tf_772 q47 dX19_come_257 ?_
        refine lv_if_le (tgt := 308) C.1.1 C.1.2.1 dX19_come_258 (by decide) (fun c48 => ?_) (fun c48 => ?_)
        · replace hD := g_pos c48 hD
          exact hb308 v3 M L _ _ ls hD hw (lv_sub hl [0, 1, 2, 3] rfl)
        · replace hD := g_neg c48 hD
          refine lv_aload_n C.1.1 C.1.2.1 dX19_come_261 rfl (lv_at hl 0 rfl) ?_
          refine mr_getR C hw kc_19 37 (by decide) tf_732 ff_732_37 wd_2818 dX19_come_262 (by decide) rfl ?_
          refine lv_iload C.1.1 C.1.2.1 dX19_come_265 (lv_at hl 4 rfl) ?_
          obtain ⟨q49, hD⟩ := g_ck hD
          refine mr_iald C hw (by decide) tf_752 q49 dX19_come_267 ?_
          refine lv_bipush (v := 16) C.1.1 C.1.2.1 dX19_come_268 (by decide) ?_
          refine lv_icmp_ge (tgt := 308) C.1.1 C.1.2.1 dX19_come_270 (by decide) (fun c50 => ?_) (fun c50 => ?_)
          · replace hD := g_pos c50 hD
            exact hb308 v3 M L _ _ ls hD hw (lv_sub hl [0, 1, 2, 3] rfl)
          · replace hD := g_neg c50 hD
            refine lv_aload_n C.1.1 C.1.2.1 dX19_come_273 rfl (lv_at hl 0 rfl) ?_
            refine mr_getR C hw kc_19 38 (by decide) tf_732 ff_732_38 wd_2819 dX19_come_274 (by decide) rfl ?_
            refine lv_bipush (v := 16) C.1.1 C.1.2.1 dX19_come_277 (by decide) ?_
            refine lv_iload C.1.1 C.1.2.1 dX19_come_279 (lv_at hl 4 rfl) ?_
            refine lv_imul C.1.1 C.1.2.1 dX19_come_281 ?_
            refine lv_aload_n C.1.1 C.1.2.1 dX19_come_282 rfl (lv_at hl 0 rfl) ?_
            refine mr_getR C hw kc_19 37 (by decide) tf_732 ff_732_37 wd_2818 dX19_come_283 (by decide) rfl ?_
            refine lv_iload C.1.1 C.1.2.1 dX19_come_286 (lv_at hl 4 rfl) ?_
            obtain ⟨q51, hD⟩ := g_ck hD
            refine mr_iald C hw (by decide) tf_752 q51 dX19_come_288 ?_
            refine lv_iadd C.1.1 C.1.2.1 dX19_come_289 ?_
            refine lv_aload_n C.1.1 C.1.2.1 dX19_come_290 rfl (lv_at hl 0 rfl) ?_
            refine mr_getR C hw kc_19 59 (by decide) tf_732 ff_732_59 wd_2840 dX19_come_291 (by decide) rfl ?_
            refine lv_iload_n C.1.1 C.1.2.1 dX19_come_294 rfl (lv_at hl 3 rfl) ?_
            obtain ⟨q52, hD⟩ := g_ck hD
            refine mr_iald C hw (by decide) tf_772 q52 dX19_come_295 ?_
            obtain ⟨q53, hD⟩ := g_ck hD
            obtain ⟨M54, eM54, hD⟩ := g_let hD
            refine mr_iast C hw (by decide) tf_753 q53 dX19_come_296 (fun H locs hw => ?_)
            replace hw : mw_W G ad NF TF FF M54 L H locs := by rw [eM54]; exact hw
            refine lv_aload_n C.1.1 C.1.2.1 dX19_come_297 rfl (lv_at hl 0 rfl) ?_
            refine mr_getR C hw kc_19 37 (by decide) tf_732 ff_732_37 wd_2818 dX19_come_298 (by decide) rfl ?_
            refine lv_iload C.1.1 C.1.2.1 dX19_come_301 (lv_at hl 4 rfl) ?_
            refine lv_dup2_11 C.1.1 C.1.2.1 dX19_come_303 rfl rfl ?_
            obtain ⟨q55, hD⟩ := g_ck hD
            refine mr_iald C hw (by decide) tf_752 q55 dX19_come_304 ?_
            refine lv_iconst (v := 1) C.1.1 C.1.2.1 dX19_come_305 (by decide) ?_
            refine lv_iadd C.1.1 C.1.2.1 dX19_come_306 ?_
            obtain ⟨q56, hD⟩ := g_ck hD
            obtain ⟨M57, eM57, hD⟩ := g_let hD
            refine mr_iast C hw (by decide) tf_752 q56 dX19_come_307 (fun H locs hw => ?_)
            replace hw : mw_W G ad NF TF FF M57 L H locs := by rw [eM57]; exact hw
            exact hb308 v3 M57 L _ _ ls hD hw (lv_sub hl [0, 1, 2, 3] rfl)
      have hb178 : ∀ (v3 : Int32) (v4 : Int32) (v5 : Int64) (s0 : Int32) (M : mwM) (L : mwL) (H : Heap) (locs : List Loc) (ls : Array Slot), fX19_come_b178 fu a1 a2 (fX19_come_h90 fu a1 a2 f90) v3 v4 v5 s0 M L = some (M0, L0) → mw_W G ad NF TF FF M L H locs → lv_has ls 8 [(0, .ref (ad 732)), (1, .int a1), (2, .int a2), (3, .int v3), (4, .int v4), (5, .long v5)] → W p l e ({ frames := 7, cells := 0, slots := 0, locals := 177 }) s m [.ref (ad 732), .int a1, .int a2].toArray below meth c H locs 0 0 (MQ below (mw_Qv G ad NF TF FF (mw_eqV M0 L0)) [.ref (ad 732), .int a1, .int a2].toArray s 0 0 (mw_fr G)) (F0 m 178 ls [.int s0]) := by
        intro v3 v4 v5 s0 M L H locs ls hD hw hl
        unfold fX19_come_b178 at hD
        refine lv_istore (lv' := [(7, .int s0), (0, .ref (ad 732)), (1, .int a1), (2, .int a2), (3, .int v3), (4, .int v4), (5, .long v5)]) C.1.1 C.1.2.1 dX19_come_178 hl (by decide) rfl (fun ls hl => ?_)
        refine lv_aload_n C.1.1 C.1.2.1 dX19_come_180 rfl (lv_at hl 1 rfl) ?_
        refine mr_getR C hw kc_19 60 (by decide) tf_732 ff_732_60 wd_2841 dX19_come_181 (by decide) rfl ?_
        refine lv_iload_n C.1.1 C.1.2.1 dX19_come_184 rfl (lv_at hl 4 rfl) ?_
        refine lv_iconst (v := 1) C.1.1 C.1.2.1 dX19_come_185 (by decide) ?_
        obtain ⟨q31, hD⟩ := g_ck hD
        obtain ⟨M32, eM32, hD⟩ := g_let hD
        refine mr_zast C hw (by decide) tf_773 q31 dX19_come_186 (fun H locs hw => ?_)
        replace hw : mw_W G ad NF TF FF M32 L H locs := by rw [eM32]; exact hw
        refine lv_aload_n C.1.1 C.1.2.1 dX19_come_187 rfl (lv_at hl 1 rfl) ?_
        refine mr_getR C hw kc_19 61 (by decide) tf_732 ff_732_61 wd_2842 dX19_come_188 (by decide) rfl ?_
        refine lv_iload_n C.1.1 C.1.2.1 dX19_come_191 rfl (lv_at hl 4 rfl) ?_
        refine lv_lload C.1.1 C.1.2.1 dX19_come_192 (lv_at hl 6 rfl) ?_
        obtain ⟨q33, hD⟩ := g_ck hD
        obtain ⟨L34, eL34, hD⟩ := g_let hD
        refine mr_last C hw (by decide) tf_774 q33 dX19_come_194 (fun H locs hw => ?_)
        replace hw : mw_W G ad NF TF FF M32 L34 H locs := by rw [eL34]; exact hw
        refine lv_iload C.1.1 C.1.2.1 dX19_come_195 (lv_at hl 0 rfl) ?_
        refine lv_if_ne (tgt := 203) C.1.1 C.1.2.1 dX19_come_197 (by decide) (fun c35 => ?_) (fun c35 => ?_)
        · replace hD := g_neg c35 hD
          refine lv_aload_n C.1.1 C.1.2.1 dX19_come_203 rfl (lv_at hl 1 rfl) ?_
          refine mr_getR C hw kc_19 82 (by decide) tf_732 ff_732_82 wd_2863 dX19_come_204 (by decide) rfl ?_
          refine lv_iload C.1.1 C.1.2.1 dX19_come_207 (lv_at hl 5 rfl) ?_
          obtain ⟨q36, hD⟩ := g_ck hD
          refine mr_aald C hw (by decide) tf_922 (by decide) (by decide) rfl rfl q36 (fr_922 _ (g_lt q36)) dX19_come_209 ?_
          refine lv_aload_n C.1.1 C.1.2.1 dX19_come_210 rfl (lv_at hl 1 rfl) ?_
          refine mr_getR C hw kc_19 58 (by decide) tf_732 ff_732_58 wd_2839 dX19_come_211 (by decide) rfl ?_
          refine lv_iload_n C.1.1 C.1.2.1 dX19_come_214 rfl (lv_at hl 4 rfl) ?_
          obtain ⟨q37, hD⟩ := g_ck hD
          refine mr_iald C hw (by decide) tf_771 q37 dX19_come_215 ?_
          refine lv_lload C.1.1 C.1.2.1 dX19_come_216 (lv_at hl 6 rfl) ?_
          obtain ⟨M38, L39, h1, hD⟩ := g_b2 hD
          refine md_cvV (As := [.int (M32 771 v3.toNatClampNeg), .long v5]) (rest := []) C hw (tX13_put l G ad fu ((964 + 53 * v4.toNatClampNeg)) (M32 771 v3.toNatClampNeg) v5 M32 L34 h1 (isMc_of (g_lt q36))) kc_13 (Mc_N0 (isMc_of (g_lt q36))) (Mc_T0 (isMc_of (g_lt q36))) wd_3924 cwX13_put ⟨Nat.le_of_ble_eq_true rfl, Nat.le_of_ble_eq_true rfl⟩ rfl hl.1 (Nat.le_of_ble_eq_true rfl) dX19_come_218 rfl rfl ⟨Nat.zero_le _, Nat.zero_le _⟩ rfl (fun H locs hw => ?_)
          refine lv_aload_n C.1.1 C.1.2.1 dX19_come_221 rfl (lv_at hl 1 rfl) ?_
          refine mr_getR C hw kc_19 59 (by decide) tf_732 ff_732_59 wd_2840 dX19_come_222 (by decide) rfl ?_
          refine lv_iload_n C.1.1 C.1.2.1 dX19_come_225 rfl (lv_at hl 4 rfl) ?_
          obtain ⟨q40, hD⟩ := g_ck hD
          refine mr_iald C hw (by decide) tf_772 q40 dX19_come_226 ?_
          refine lv_if_le (tgt := 252) C.1.1 C.1.2.1 dX19_come_227 (by decide) (fun c41 => ?_) (fun c41 => ?_)
          · replace hD := g_pos c41 hD
            exact hb252 v3 v4 M38 L39 _ _ ls hD hw (lv_sub hl [1, 2, 3, 4, 5] rfl)
          · replace hD := g_neg c41 hD
            refine lv_aload_n C.1.1 C.1.2.1 dX19_come_230 rfl (lv_at hl 1 rfl) ?_
            refine mr_getR C hw kc_19 37 (by decide) tf_732 ff_732_37 wd_2818 dX19_come_231 (by decide) rfl ?_
            refine lv_iload C.1.1 C.1.2.1 dX19_come_234 (lv_at hl 5 rfl) ?_
            obtain ⟨q42, hD⟩ := g_ck hD
            refine mr_iald C hw (by decide) tf_752 q42 dX19_come_236 ?_
            refine lv_bipush (v := 16) C.1.1 C.1.2.1 dX19_come_237 (by decide) ?_
            refine lv_icmp_ne (tgt := 252) C.1.1 C.1.2.1 dX19_come_239 (by decide) (fun c43 => ?_) (fun c43 => ?_)
            · replace hD := g_neg c43 hD
              exact hb252 v3 v4 M38 L39 _ _ ls hD hw (lv_sub hl [1, 2, 3, 4, 5] rfl)
            · replace hD := g_pos c43 hD
              refine lv_aload_n C.1.1 C.1.2.1 dX19_come_242 rfl (lv_at hl 1 rfl) ?_
              refine mr_getR C hw kc_19 109 (by decide) tf_732 ff_732_109 wd_2890 dX19_come_243 (by decide) rfl ?_
              refine lv_iconst (v := 2) C.1.1 C.1.2.1 dX19_come_246 (by decide) ?_
              refine lv_dup2_11 C.1.1 C.1.2.1 dX19_come_247 rfl rfl ?_
              refine mr_iald C hw (by decide) tf_939 (show vp_in 2 5 from by unfold vp_in; decide) dX19_come_248 ?_
              refine lv_iconst (v := 1) C.1.1 C.1.2.1 dX19_come_249 (by decide) ?_
              refine lv_iadd C.1.1 C.1.2.1 dX19_come_250 ?_
              obtain ⟨M46, eM46, hD⟩ := g_let hD
              refine mr_iast C hw (by decide) tf_939 (show vp_in 2 5 from by unfold vp_in; decide) dX19_come_251 (fun H locs hw => ?_)
              replace hw : mw_W G ad NF TF FF M46 L39 H locs := by rw [eM46]; exact hw
              exact hb252 v3 v4 M46 L39 _ _ ls hD hw (lv_sub hl [1, 2, 3, 4, 5] rfl)
        · replace hD := g_pos c35 hD
          refine lv_goto (tgt := 308) C.1.1 C.1.2.1 dX19_come_200 (by decide) ?_
          exact hb308 v3 M32 L34 _ _ ls hD hw (lv_sub hl [1, 2, 3, 4] rfl)
      have hb173 : ∀ (v3 : Int32) (v4 : Int32) (v5 : Int64) (M : mwM) (L : mwL) (H : Heap) (locs : List Loc) (ls : Array Slot), fX19_come_b173 fu a1 a2 (fX19_come_h90 fu a1 a2 f90) v3 v4 v5 M L = some (M0, L0) → mw_W G ad NF TF FF M L H locs → lv_has ls 8 [(0, .ref (ad 732)), (1, .int a1), (2, .int a2), (3, .int v3), (4, .int v4), (5, .long v5)] → W p l e ({ frames := 7, cells := 0, slots := 0, locals := 177 }) s m [.ref (ad 732), .int a1, .int a2].toArray below meth c H locs 0 0 (MQ below (mw_Qv G ad NF TF FF (mw_eqV M0 L0)) [.ref (ad 732), .int a1, .int a2].toArray s 0 0 (mw_fr G)) (F0 m 173 ls []) := by
        intro v3 v4 v5 M L H locs ls hD hw hl
        unfold fX19_come_b173 at hD
        refine lv_iconst (v := 1) C.1.1 C.1.2.1 dX19_come_173 (by decide) ?_
        refine lv_goto (tgt := 178) C.1.1 C.1.2.1 dX19_come_174 (by decide) ?_
        exact hb178 v3 v4 v5 1 M L _ _ ls hD hw (lv_sub hl [0, 1, 2, 3, 4, 5] rfl)
      unfold fX19_come_i90 at hD
      refine lv_iload_n C.1.1 C.1.2.1 dX19_come_90 rfl (lv_at hl 3 rfl) ?_
      refine lv_aload_n C.1.1 C.1.2.1 dX19_come_91 rfl (lv_at hl 0 rfl) ?_
      refine mr_getI C hw kc_19 55 (by decide) tf_732 wd_2836 dX19_come_92 (by decide) rfl ?_
      refine lv_icmp_ge (tgt := 314) C.1.1 C.1.2.1 dX19_come_95 (by decide) (fun c14 => ?_) (fun c14 => ?_)
      · replace hD := g_pos c14 hD
        exact mr_vret C hr hlocks hw (Option.some.inj hD) dX19_come_314
      · replace hD := g_neg c14 hD
        refine lv_aload_n C.1.1 C.1.2.1 dX19_come_98 rfl (lv_at hl 0 rfl) ?_
        refine mr_getR C hw kc_19 57 (by decide) tf_732 ff_732_57 wd_2838 dX19_come_99 (by decide) rfl ?_
        refine lv_iload_n C.1.1 C.1.2.1 dX19_come_102 rfl (lv_at hl 3 rfl) ?_
        obtain ⟨q15, hD⟩ := g_ck hD
        refine mr_iald C hw (by decide) tf_770 q15 dX19_come_103 ?_
        obtain ⟨x16, ex16, hD⟩ := g_let hD
        refine W.eq (g2 := F0 m 104 ls (.int x16 :: [])) (by rw [ex16]) ?_
        refine lv_istore (lv' := [(4, .int x16), (0, .ref (ad 732)), (1, .int a1), (2, .int a2), (3, .int v3)]) C.1.1 C.1.2.1 dX19_come_104 hl (by decide) rfl (fun ls hl => ?_)
        refine lv_aload_n C.1.1 C.1.2.1 dX19_come_106 rfl (lv_at hl 1 rfl) ?_
        refine mr_getR C hw kc_19 26 (by decide) tf_732 ff_732_26 wd_2807 dX19_come_107 (by decide) rfl ?_
        refine lv_aload_n C.1.1 C.1.2.1 dX19_come_110 rfl (lv_at hl 1 rfl) ?_
        refine mr_getR C hw kc_19 34 (by decide) tf_732 ff_732_34 wd_2815 dX19_come_111 (by decide) rfl ?_
        refine lv_iload C.1.1 C.1.2.1 dX19_come_114 (lv_at hl 0 rfl) ?_
        obtain ⟨q17, hD⟩ := g_ck hD
        refine mr_iald C hw (by decide) tf_749 q17 dX19_come_116 ?_
        obtain ⟨q18, hD⟩ := g_ck hD
        refine mr_iald C hw (by decide) tf_742 q18 dX19_come_117 ?_
        refine lv_iload_n C.1.1 C.1.2.1 dX19_come_118 rfl (lv_at hl 2 rfl) ?_
        refine lv_icmp_ne (tgt := 308) C.1.1 C.1.2.1 dX19_come_119 (by decide) (fun c19 => ?_) (fun c19 => ?_)
        · replace hD := g_neg c19 hD
          exact hb308 v3 M L _ _ ls hD hw (lv_sub hl [1, 2, 3, 4] rfl)
        · replace hD := g_pos c19 hD
          refine lv_aload_n C.1.1 C.1.2.1 dX19_come_122 rfl (lv_at hl 1 rfl) ?_
          refine mr_getR C hw kc_19 53 (by decide) tf_732 ff_732_53 wd_2834 dX19_come_123 (by decide) rfl ?_
          refine lv_aload_n C.1.1 C.1.2.1 dX19_come_126 rfl (lv_at hl 1 rfl) ?_
          refine mr_getR C hw kc_19 56 (by decide) tf_732 ff_732_56 wd_2837 dX19_come_127 (by decide) rfl ?_
          refine lv_iload_n C.1.1 C.1.2.1 dX19_come_130 rfl (lv_at hl 4 rfl) ?_
          obtain ⟨q20, hD⟩ := g_ck hD
          refine mr_iald C hw (by decide) tf_769 q20 dX19_come_131 ?_
          obtain ⟨q21, hD⟩ := g_ck hD
          refine mr_iald C hw (by decide) tf_767 q21 dX19_come_132 ?_
          refine lv_iload_n C.1.1 C.1.2.1 dX19_come_133 rfl (lv_at hl 3 rfl) ?_
          refine lv_icmp_eq (tgt := 140) C.1.1 C.1.2.1 dX19_come_134 (by decide) (fun c22 => ?_) (fun c22 => ?_)
          · replace hD := g_pos c22 hD
            refine lv_aload_n C.1.1 C.1.2.1 dX19_come_140 rfl (lv_at hl 1 rfl) ?_
            refine lv_aload_n C.1.1 C.1.2.1 dX19_come_141 rfl (lv_at hl 1 rfl) ?_
            refine mr_getR C hw kc_19 56 (by decide) tf_732 ff_732_56 wd_2837 dX19_come_142 (by decide) rfl ?_
            refine lv_iload_n C.1.1 C.1.2.1 dX19_come_145 rfl (lv_at hl 4 rfl) ?_
            obtain ⟨q23, hD⟩ := g_ck hD
            refine mr_iald C hw (by decide) tf_769 q23 dX19_come_146 ?_
            obtain ⟨r26, M24, L25, h1, hD⟩ := g_b3 hD
            refine md_cvL (As := [.int (M 769 v3.toNatClampNeg)]) (rest := []) C hw (tX19_valueOf l G ad fu (M 769 v3.toNatClampNeg) M L h1) kc_19 (by decide) tf_732 wd_3920 cwX19_valueOf ⟨Nat.le_of_ble_eq_true rfl, Nat.le_of_ble_eq_true rfl⟩ rfl hl.1 (Nat.le_of_ble_eq_true rfl) dX19_come_147 rfl rfl ⟨Nat.zero_le _, Nat.zero_le _⟩ rfl (fun H locs hw => ?_)
            refine lv_lstore (lv' := [(5, .long r26), (4, .int x16), (0, .ref (ad 732)), (1, .int a1), (2, .int a2), (3, .int v3)]) C.1.1 C.1.2.1 dX19_come_150 hl (by decide) rfl (fun ls hl => ?_)
            refine lv_aload_n C.1.1 C.1.2.1 dX19_come_152 rfl (lv_at hl 2 rfl) ?_
            refine mr_getR C hw kc_19 60 (by decide) tf_732 ff_732_60 wd_2841 dX19_come_153 (by decide) rfl ?_
            refine lv_iload_n C.1.1 C.1.2.1 dX19_come_156 rfl (lv_at hl 5 rfl) ?_
            obtain ⟨q27, hD⟩ := g_ck hD
            refine mr_zald C hw (by decide) tf_773 q27 dX19_come_157 ?_
            refine lv_if_eq (tgt := 173) C.1.1 C.1.2.1 dX19_come_158 (by decide) (fun c28 => ?_) (fun c28 => ?_)
            · replace hD := g_pos c28 hD
              exact hb173 v3 x16 r26 M24 L25 _ _ ls hD hw (lv_sub hl [2, 3, 4, 5, 1, 0] rfl)
            · replace hD := g_neg c28 hD
              refine lv_aload_n C.1.1 C.1.2.1 dX19_come_161 rfl (lv_at hl 2 rfl) ?_
              refine mr_getR C hw kc_19 61 (by decide) tf_732 ff_732_61 wd_2842 dX19_come_162 (by decide) rfl ?_
              refine lv_iload_n C.1.1 C.1.2.1 dX19_come_165 rfl (lv_at hl 5 rfl) ?_
              obtain ⟨q29, hD⟩ := g_ck hD
              refine mr_lald C hw (by decide) tf_774 q29 dX19_come_166 ?_
              refine lv_lload C.1.1 C.1.2.1 dX19_come_167 (lv_at hl 0 rfl) ?_
              refine W.lcmp C.1.1 C.1.2.1 dX19_come_169 ?_
              refine lv_if_eq (tgt := 177) C.1.1 C.1.2.1 dX19_come_170 (by decide) (fun c30 => ?_) (fun c30 => ?_)
              · replace hD := g_pos c30 hD
                refine lv_iconst (v := 0) C.1.1 C.1.2.1 dX19_come_177 (by decide) ?_
                exact hb178 v3 x16 r26 0 M24 L25 _ _ ls hD hw (lv_sub hl [2, 3, 4, 5, 1, 0] rfl)
              · replace hD := g_neg c30 hD
                exact hb173 v3 x16 r26 M24 L25 _ _ ls hD hw (lv_sub hl [2, 3, 4, 5, 1, 0] rfl)
          · replace hD := g_neg c22 hD
            refine lv_goto (tgt := 308) C.1.1 C.1.2.1 dX19_come_137 (by decide) ?_
            exact hb308 v3 M L _ _ ls hD hw (lv_sub hl [1, 2, 3, 4] rfl)
  have hh22 : ∀ (f : Nat) (v3 : Int32) (M : mwM) (L : mwL) (H : Heap) (locs : List Loc) (ls : Array Slot), fX19_come_h22 fu a1 a2 f (v3, M, L) = some (M0, L0) → mw_W G ad NF TF FF M L H locs → lv_has ls 8 [(0, .ref (ad 732)), (1, .int a1), (2, .int a2), (3, .int v3)] → W p l e ({ frames := 7, cells := 0, slots := 0, locals := 177 }) s m [.ref (ad 732), .int a1, .int a2].toArray below meth c H locs 0 0 (MQ below (mw_Qv G ad NF TF FF (mw_eqV M0 L0)) [.ref (ad 732), .int a1, .int a2].toArray s 0 0 (mw_fr G)) (F0 m 22 ls []) := by
    intro f
    induction f with
    | zero => intro v3 M L H locs ls hD; cases hD
    | succ f22 ih22 =>
      intro v3 M L H locs ls hD hw hl
      replace hD : fX19_come_i22 fu a1 a2 (fX19_come_h22 fu a1 a2 f22) v3 M L = some (M0, L0) := hD
      have hb82 : ∀ (v3 : Int32) (M : mwM) (L : mwL) (H : Heap) (locs : List Loc) (ls : Array Slot), fX19_come_b82 fu a1 a2 (fX19_come_h22 fu a1 a2 f22) v3 M L = some (M0, L0) → mw_W G ad NF TF FF M L H locs → lv_has ls 8 [(0, .ref (ad 732)), (1, .int a1), (2, .int a2), (3, .int v3)] → W p l e ({ frames := 7, cells := 0, slots := 0, locals := 177 }) s m [.ref (ad 732), .int a1, .int a2].toArray below meth c H locs 0 0 (MQ below (mw_Qv G ad NF TF FF (mw_eqV M0 L0)) [.ref (ad 732), .int a1, .int a2].toArray s 0 0 (mw_fr G)) (F0 m 82 ls []) := by
        intro v3 M L H locs ls hD hw hl
        unfold fX19_come_b82 at hD
        obtain ⟨x13, ex13, hD⟩ := g_let hD
        refine lv_iinc (v := x13) (lv' := [(3, .int x13), (0, .ref (ad 732)), (1, .int a1), (2, .int a2)]) C.1.1 C.1.2.1 dX19_come_82 hl (k := 3) rfl (by rw [ex13]; rfl) (by decide) rfl (fun ls hl => ?_)
        refine lv_goto (tgt := 22) C.1.1 C.1.2.1 dX19_come_85 (by decide) ?_
        exact ih22 x13 M L _ _ ls hD hw (lv_sub hl [1, 2, 3, 0] rfl)
      unfold fX19_come_i22 at hD
      refine lv_iload_n C.1.1 C.1.2.1 dX19_come_22 rfl (lv_at hl 3 rfl) ?_
      refine lv_aload_n C.1.1 C.1.2.1 dX19_come_23 rfl (lv_at hl 0 rfl) ?_
      refine mr_getI C hw kc_19 62 (by decide) tf_732 wd_2843 dX19_come_24 (by decide) rfl ?_
      refine lv_icmp_ge (tgt := 88) C.1.1 C.1.2.1 dX19_come_27 (by decide) (fun c1 => ?_) (fun c1 => ?_)
      · replace hD := g_pos c1 hD
        refine lv_iconst (v := 0) C.1.1 C.1.2.1 dX19_come_88 (by decide) ?_
        refine lv_istore_n (lv' := [(3, .int 0), (0, .ref (ad 732)), (1, .int a1), (2, .int a2)]) C.1.1 C.1.2.1 dX19_come_89 rfl hl (by decide) rfl (fun ls hl => ?_)
        exact hh90 fu 0 M L _ _ ls hD hw (lv_sub hl [1, 2, 3, 0] rfl)
      · replace hD := g_neg c1 hD
        refine lv_aload_n C.1.1 C.1.2.1 dX19_come_30 rfl (lv_at hl 0 rfl) ?_
        refine mr_getR C hw kc_19 64 (by decide) tf_732 ff_732_64 wd_2845 dX19_come_31 (by decide) rfl ?_
        refine lv_iload_n C.1.1 C.1.2.1 dX19_come_34 rfl (lv_at hl 3 rfl) ?_
        obtain ⟨q2, hD⟩ := g_ck hD
        refine mr_iald C hw (by decide) tf_776 q2 dX19_come_35 ?_
        refine lv_iload_n C.1.1 C.1.2.1 dX19_come_36 rfl (lv_at hl 1 rfl) ?_
        refine lv_icmp_ne (tgt := 82) C.1.1 C.1.2.1 dX19_come_37 (by decide) (fun c3 => ?_) (fun c3 => ?_)
        · replace hD := g_neg c3 hD
          exact hb82 v3 M L _ _ ls hD hw (lv_sub hl [0, 1, 2, 3] rfl)
        · replace hD := g_pos c3 hD
          refine lv_aload_n C.1.1 C.1.2.1 dX19_come_40 rfl (lv_at hl 0 rfl) ?_
          refine mr_getR C hw kc_19 53 (by decide) tf_732 ff_732_53 wd_2834 dX19_come_41 (by decide) rfl ?_
          refine lv_aload_n C.1.1 C.1.2.1 dX19_come_44 rfl (lv_at hl 0 rfl) ?_
          refine mr_getR C hw kc_19 63 (by decide) tf_732 ff_732_63 wd_2844 dX19_come_45 (by decide) rfl ?_
          refine lv_iload_n C.1.1 C.1.2.1 dX19_come_48 rfl (lv_at hl 3 rfl) ?_
          obtain ⟨q4, hD⟩ := g_ck hD
          refine mr_iald C hw (by decide) tf_775 q4 dX19_come_49 ?_
          obtain ⟨q5, hD⟩ := g_ck hD
          refine mr_iald C hw (by decide) tf_767 q5 dX19_come_50 ?_
          refine lv_iload_n C.1.1 C.1.2.1 dX19_come_51 rfl (lv_at hl 2 rfl) ?_
          refine lv_icmp_ne (tgt := 82) C.1.1 C.1.2.1 dX19_come_52 (by decide) (fun c6 => ?_) (fun c6 => ?_)
          · replace hD := g_neg c6 hD
            exact hb82 v3 M L _ _ ls hD hw (lv_sub hl [0, 1, 2, 3] rfl)
          · replace hD := g_pos c6 hD
            refine lv_aload_n C.1.1 C.1.2.1 dX19_come_55 rfl (lv_at hl 0 rfl) ?_
            refine mr_getR C hw kc_19 66 (by decide) tf_732 ff_732_66 wd_2847 dX19_come_56 (by decide) rfl ?_
            refine lv_iload_n C.1.1 C.1.2.1 dX19_come_59 rfl (lv_at hl 3 rfl) ?_
            refine lv_aload_n C.1.1 C.1.2.1 dX19_come_60 rfl (lv_at hl 0 rfl) ?_
            refine mr_getI C hw kc_19 83 (by decide) tf_732 wd_2864 dX19_come_61 (by decide) rfl ?_
            refine lv_i2l C.1.1 C.1.2.1 dX19_come_64 rfl ?_
            obtain ⟨q7, hD⟩ := g_ck hD
            obtain ⟨L8, eL8, hD⟩ := g_let hD
            refine mr_last C hw (by decide) tf_778 q7 dX19_come_65 (fun H locs hw => ?_)
            replace hw : mw_W G ad NF TF FF M L8 H locs := by rw [eL8]; exact hw
            refine lv_aload_n C.1.1 C.1.2.1 dX19_come_66 rfl (lv_at hl 0 rfl) ?_
            refine mr_getR C hw kc_19 80 (by decide) tf_732 ff_732_80 wd_2861 dX19_come_67 (by decide) rfl ?_
            refine lv_aload_n C.1.1 C.1.2.1 dX19_come_70 rfl (lv_at hl 0 rfl) ?_
            refine mr_getR C hw kc_19 65 (by decide) tf_732 ff_732_65 wd_2846 dX19_come_71 (by decide) rfl ?_
            refine lv_iload_n C.1.1 C.1.2.1 dX19_come_74 rfl (lv_at hl 3 rfl) ?_
            obtain ⟨q9, hD⟩ := g_ck hD
            refine mr_iald C hw (by decide) tf_777 q9 dX19_come_75 ?_
            refine lv_iconst (v := 0) C.1.1 C.1.2.1 dX19_come_76 (by decide) ?_
            obtain ⟨r12, M10, L11, h1, hD⟩ := g_b3 hD
            refine md_cvI (As := [.int (M 777 v3.toNatClampNeg), .int 0]) (rest := []) C hw (tX18_event l G ad fu (M 777 v3.toNatClampNeg) 0 M L8 h1) kc_18 (by decide) tf_902 wd_3880 cwX18_event ⟨Nat.le_of_ble_eq_true rfl, Nat.le_of_ble_eq_true rfl⟩ rfl hl.1 (Nat.le_of_ble_eq_true rfl) dX19_come_77 rfl rfl ⟨Nat.zero_le _, Nat.zero_le _⟩ rfl (fun H locs hw => ?_)
            refine lv_istore (lv' := [(4, .int r12), (0, .ref (ad 732)), (1, .int a1), (2, .int a2), (3, .int v3)]) C.1.1 C.1.2.1 dX19_come_80 hl (by decide) rfl (fun ls hl => ?_)
            exact hb82 v3 M10 L11 _ _ ls hD hw (lv_sub hl [1, 2, 3, 4] rfl)
  unfold DX19_come at hD
  refine lv_aload_n C.1.1 C.1.2.1 dX19_come_0 rfl (lv_at hl 0 rfl) ?_
  refine lv_iload_n C.1.1 C.1.2.1 dX19_come_1 rfl (lv_at hl 1 rfl) ?_
  refine lv_iload_n C.1.1 C.1.2.1 dX19_come_2 rfl (lv_at hl 2 rfl) ?_
  obtain ⟨r61, M59, L60, h1, hD⟩ := g_b3 hD
  refine md_cvI (As := [.int a1, .int a2]) (rest := []) C hw (tX19_right l G ad fu a1 a2 M L h1) kc_19 (by decide) tf_732 wd_3874 cwX19_right ⟨Nat.le_of_ble_eq_true rfl, Nat.le_of_ble_eq_true rfl⟩ rfl hl.1 (Nat.le_of_ble_eq_true rfl) dX19_come_3 rfl rfl ⟨Nat.zero_le _, Nat.zero_le _⟩ rfl (fun H locs hw => ?_)
  refine lv_if_ne (tgt := 20) C.1.1 C.1.2.1 dX19_come_6 (by decide) (fun c62 => ?_) (fun c62 => ?_)
  · replace hD := g_neg c62 hD
    refine lv_iconst (v := 0) C.1.1 C.1.2.1 dX19_come_20 (by decide) ?_
    refine lv_istore_n (lv' := [(3, .int 0), (0, .ref (ad 732)), (1, .int a1), (2, .int a2)]) C.1.1 C.1.2.1 dX19_come_21 rfl hl (by decide) rfl (fun ls hl => ?_)
    exact hh22 fu 0 M59 L60 _ _ ls hD hw (lv_sub hl [1, 2, 3, 0] rfl)
  · replace hD := g_pos c62 hD
    refine lv_aload_n C.1.1 C.1.2.1 dX19_come_9 rfl (lv_at hl 0 rfl) ?_
    refine mr_getR C hw kc_19 109 (by decide) tf_732 ff_732_109 wd_2890 dX19_come_10 (by decide) rfl ?_
    refine lv_iconst (v := 1) C.1.1 C.1.2.1 dX19_come_13 (by decide) ?_
    refine lv_dup2_11 C.1.1 C.1.2.1 dX19_come_14 rfl rfl ?_
    refine mr_iald C hw (by decide) tf_939 (show vp_in 1 5 from by unfold vp_in; decide) dX19_come_15 ?_
    refine lv_iconst (v := 1) C.1.1 C.1.2.1 dX19_come_16 (by decide) ?_
    refine lv_iadd C.1.1 C.1.2.1 dX19_come_17 ?_
    obtain ⟨M65, eM65, hD⟩ := g_let hD
    refine mr_iast C hw (by decide) tf_939 (show vp_in 1 5 from by unfold vp_in; decide) dX19_come_18 (fun H locs hw => ?_)
    replace hw : mw_W G ad NF TF FF M65 L60 H locs := by rw [eM65]; exact hw
    exact mr_vret C hr hlocks hw (Option.some.inj hD) dX19_come_19

theorem dX19_no_0 : decode cX19_no 0 = .ok (.aload_n 0, 1) := by decide +kernel
theorem dX19_no_1 : decode cX19_no 1 = .ok (.getfield 255, 3) := by decide +kernel
theorem dX19_no_4 : decode cX19_no 4 = .ok (.iconst 0, 1) := by decide +kernel
theorem dX19_no_5 : decode cX19_no 5 = .ok (.bipush 127, 2) := by decide +kernel
theorem dX19_no_7 : decode cX19_no 7 = .ok (.iastore, 1) := by decide +kernel
theorem dX19_no_8 : decode cX19_no 8 = .ok (.aload_n 0, 1) := by decide +kernel
theorem dX19_no_9 : decode cX19_no 9 = .ok (.getfield 255, 3) := by decide +kernel
theorem dX19_no_12 : decode cX19_no 12 = .ok (.iconst 1, 1) := by decide +kernel
theorem dX19_no_13 : decode cX19_no 13 = .ok (.aload_n 0, 1) := by decide +kernel
theorem dX19_no_14 : decode cX19_no 14 = .ok (.getfield 252, 3) := by decide +kernel
theorem dX19_no_17 : decode cX19_no 17 = .ok (.iconst 0, 1) := by decide +kernel
theorem dX19_no_18 : decode cX19_no 18 = .ok (.iaload, 1) := by decide +kernel
theorem dX19_no_19 : decode cX19_no 19 = .ok (.iastore, 1) := by decide +kernel
theorem dX19_no_20 : decode cX19_no 20 = .ok (.aload_n 0, 1) := by decide +kernel
theorem dX19_no_21 : decode cX19_no 21 = .ok (.getfield 255, 3) := by decide +kernel
theorem dX19_no_24 : decode cX19_no 24 = .ok (.iconst 2, 1) := by decide +kernel
theorem dX19_no_25 : decode cX19_no 25 = .ok (.iload_n 1, 1) := by decide +kernel
theorem dX19_no_26 : decode cX19_no 26 = .ok (.iastore, 1) := by decide +kernel
theorem dX19_no_27 : decode cX19_no 27 = .ok (.aload_n 0, 1) := by decide +kernel
theorem dX19_no_28 : decode cX19_no 28 = .ok (.iconst 3, 1) := by decide +kernel
theorem dX19_no_29 : decode cX19_no 29 = .ok (.putfield 730, 3) := by decide +kernel
theorem dX19_no_32 : decode cX19_no 32 = .ok (.return_, 1) := by decide +kernel
theorem cwX19_no : mw_cwV yX19_no cX19_no 2 (none) 1 := ⟨⟨wd_13, wd_3995, by decide +kernel⟩, wd_3994, sl_302⟩
set_option maxHeartbeats 4000000 in
set_option maxRecDepth 100000 in
theorem tX19_no (l : Launch) (G : mwG) (ad : Nat → Nat) (fu : Nat) (a1 : Int32) (M : mwM) (L : mwL) {M0 : mwM} {L0 : mwL} (hD : DX19_no fu a1 M L = some (M0, L0)) : Met l yX19_no (Cond.code yX19_no cX19_no 2 (none) :: GT) ({ frames := 0, cells := 0, slots := 0, locals := 0 }) (mw_Pre G ad NF TF FF M L [.ref (ad 732), .int a1]) (mw_Qv G ad NF TF FF (mw_eqV M0 L0)) 0 0 (mw_fr G) := by
  refine mw_enter (by decide) (Nat.le_of_ble_eq_true rfl) ?_
  intro p e s m below meth c ls C hr hlocks hnm hw hl
  have hl : lv_has ls 2 [(0, .ref (ad 732)), (1, .int a1)] := hl
  unfold DX19_no at hD
  refine lv_aload_n C.1.1 C.1.2.1 dX19_no_0 rfl (lv_at hl 0 rfl) ?_
  refine mr_getR C hw kc_19 101 (by decide) tf_732 ff_732_101 wd_2882 dX19_no_1 (by decide) rfl ?_
  refine lv_iconst (v := 0) C.1.1 C.1.2.1 dX19_no_4 (by decide) ?_
  refine lv_bipush (v := 127) C.1.1 C.1.2.1 dX19_no_5 (by decide) ?_
  obtain ⟨M2, eM2, hD⟩ := g_let hD
  refine mr_iast C hw (by decide) tf_933 (show vp_in 0 128 from by unfold vp_in; decide) dX19_no_7 (fun H locs hw => ?_)
  replace hw : mw_W G ad NF TF FF M2 L H locs := by rw [eM2]; exact hw
  refine lv_aload_n C.1.1 C.1.2.1 dX19_no_8 rfl (lv_at hl 0 rfl) ?_
  refine mr_getR C hw kc_19 101 (by decide) tf_732 ff_732_101 wd_2882 dX19_no_9 (by decide) rfl ?_
  refine lv_iconst (v := 1) C.1.1 C.1.2.1 dX19_no_12 (by decide) ?_
  refine lv_aload_n C.1.1 C.1.2.1 dX19_no_13 rfl (lv_at hl 0 rfl) ?_
  refine mr_getR C hw kc_19 100 (by decide) tf_732 ff_732_100 wd_2881 dX19_no_14 (by decide) rfl ?_
  refine lv_iconst (v := 0) C.1.1 C.1.2.1 dX19_no_17 (by decide) ?_
  refine mr_iald C hw (by decide) tf_932 (show vp_in 0 128 from by unfold vp_in; decide) dX19_no_18 ?_
  obtain ⟨M5, eM5, hD⟩ := g_let hD
  refine mr_iast C hw (by decide) tf_933 (show vp_in 1 128 from by unfold vp_in; decide) dX19_no_19 (fun H locs hw => ?_)
  replace hw : mw_W G ad NF TF FF M5 L H locs := by rw [eM5]; exact hw
  refine lv_aload_n C.1.1 C.1.2.1 dX19_no_20 rfl (lv_at hl 0 rfl) ?_
  refine mr_getR C hw kc_19 101 (by decide) tf_732 ff_732_101 wd_2882 dX19_no_21 (by decide) rfl ?_
  refine lv_iconst (v := 2) C.1.1 C.1.2.1 dX19_no_24 (by decide) ?_
  refine lv_iload_n C.1.1 C.1.2.1 dX19_no_25 rfl (lv_at hl 1 rfl) ?_
  obtain ⟨M7, eM7, hD⟩ := g_let hD
  refine mr_iast C hw (by decide) tf_933 (show vp_in 2 128 from by unfold vp_in; decide) dX19_no_26 (fun H locs hw => ?_)
  replace hw : mw_W G ad NF TF FF M7 L H locs := by rw [eM7]; exact hw
  refine lv_aload_n C.1.1 C.1.2.1 dX19_no_27 rfl (lv_at hl 0 rfl) ?_
  refine lv_iconst (v := 3) C.1.1 C.1.2.1 dX19_no_28 (by decide) ?_
  obtain ⟨M8, eM8, hD⟩ := g_let hD
  refine mr_putI C hw kc_19 102 (by decide) tf_732 wd_2883 dX19_no_29 (by decide) rfl rfl rfl rfl (fun H locs hw => ?_)
  replace hw : mw_W G ad NF TF FF M8 L H locs := by rw [eM8]; exact hw
  exact mr_vret C hr hlocks hw (Option.some.inj hD) dX19_no_32

theorem dX19_serveSession_0 : decode cX19_serveSession 0 = .ok (.aload_n 0, 1) := by decide +kernel
theorem dX19_serveSession_1 : decode cX19_serveSession 1 = .ok (.getfield 252, 3) := by decide +kernel
theorem dX19_serveSession_4 : decode cX19_serveSession 4 = .ok (.iconst 1, 1) := by decide +kernel
theorem dX19_serveSession_5 : decode cX19_serveSession 5 = .ok (.iaload, 1) := by decide +kernel
theorem dX19_serveSession_6 : decode cX19_serveSession 6 = .ok (.iconst 1, 1) := by decide +kernel
theorem dX19_serveSession_7 : decode cX19_serveSession 7 = .ok (.if_icmp .lt 13, 3) := by decide +kernel
theorem dX19_serveSession_10 : decode cX19_serveSession 10 = .ok (.aload_n 0, 1) := by decide +kernel
theorem dX19_serveSession_11 : decode cX19_serveSession 11 = .ok (.getfield 252, 3) := by decide +kernel
theorem dX19_serveSession_14 : decode cX19_serveSession 14 = .ok (.iconst 1, 1) := by decide +kernel
theorem dX19_serveSession_15 : decode cX19_serveSession 15 = .ok (.iaload, 1) := by decide +kernel
theorem dX19_serveSession_16 : decode cX19_serveSession 16 = .ok (.iconst 3, 1) := by decide +kernel
theorem dX19_serveSession_17 : decode cX19_serveSession 17 = .ok (.if_icmp .le 10, 3) := by decide +kernel
theorem dX19_serveSession_20 : decode cX19_serveSession 20 = .ok (.aload_n 0, 1) := by decide +kernel
theorem dX19_serveSession_21 : decode cX19_serveSession 21 = .ok (.bipush 18, 2) := by decide +kernel
theorem dX19_serveSession_23 : decode cX19_serveSession 23 = .ok (.invokevirtual 744, 3) := by decide +kernel
theorem dX19_serveSession_26 : decode cX19_serveSession 26 = .ok (.return_, 1) := by decide +kernel
theorem dX19_serveSession_27 : decode cX19_serveSession 27 = .ok (.aload_n 0, 1) := by decide +kernel
theorem dX19_serveSession_28 : decode cX19_serveSession 28 = .ok (.getfield 258, 3) := by decide +kernel
theorem dX19_serveSession_31 : decode cX19_serveSession 31 = .ok (.iload_n 1, 1) := by decide +kernel
theorem dX19_serveSession_32 : decode cX19_serveSession 32 = .ok (.aload_n 0, 1) := by decide +kernel
theorem dX19_serveSession_33 : decode cX19_serveSession 33 = .ok (.getfield 252, 3) := by decide +kernel
theorem dX19_serveSession_36 : decode cX19_serveSession 36 = .ok (.iconst 1, 1) := by decide +kernel
theorem dX19_serveSession_37 : decode cX19_serveSession 37 = .ok (.iaload, 1) := by decide +kernel
theorem dX19_serveSession_38 : decode cX19_serveSession 38 = .ok (.iastore, 1) := by decide +kernel
theorem dX19_serveSession_39 : decode cX19_serveSession 39 = .ok (.aload_n 0, 1) := by decide +kernel
theorem dX19_serveSession_40 : decode cX19_serveSession 40 = .ok (.getfield 261, 3) := by decide +kernel
theorem dX19_serveSession_43 : decode cX19_serveSession 43 = .ok (.iload_n 1, 1) := by decide +kernel
theorem dX19_serveSession_44 : decode cX19_serveSession 44 = .ok (.iconst 0, 1) := by decide +kernel
theorem dX19_serveSession_45 : decode cX19_serveSession 45 = .ok (.bastore, 1) := by decide +kernel
theorem dX19_serveSession_46 : decode cX19_serveSession 46 = .ok (.aload_n 0, 1) := by decide +kernel
theorem dX19_serveSession_47 : decode cX19_serveSession 47 = .ok (.getfield 264, 3) := by decide +kernel
theorem dX19_serveSession_50 : decode cX19_serveSession 50 = .ok (.iload_n 1, 1) := by decide +kernel
theorem dX19_serveSession_51 : decode cX19_serveSession 51 = .ok (.iconst 0, 1) := by decide +kernel
theorem dX19_serveSession_52 : decode cX19_serveSession 52 = .ok (.bastore, 1) := by decide +kernel
theorem dX19_serveSession_53 : decode cX19_serveSession 53 = .ok (.aload_n 0, 1) := by decide +kernel
theorem dX19_serveSession_54 : decode cX19_serveSession 54 = .ok (.getfield 255, 3) := by decide +kernel
theorem dX19_serveSession_57 : decode cX19_serveSession 57 = .ok (.iconst 0, 1) := by decide +kernel
theorem dX19_serveSession_58 : decode cX19_serveSession 58 = .ok (.bipush 80, 2) := by decide +kernel
theorem dX19_serveSession_60 : decode cX19_serveSession 60 = .ok (.iastore, 1) := by decide +kernel
theorem dX19_serveSession_61 : decode cX19_serveSession 61 = .ok (.aload_n 0, 1) := by decide +kernel
theorem dX19_serveSession_62 : decode cX19_serveSession 62 = .ok (.getfield 255, 3) := by decide +kernel
theorem dX19_serveSession_65 : decode cX19_serveSession 65 = .ok (.iconst 1, 1) := by decide +kernel
theorem dX19_serveSession_66 : decode cX19_serveSession 66 = .ok (.aload_n 0, 1) := by decide +kernel
theorem dX19_serveSession_67 : decode cX19_serveSession 67 = .ok (.getfield 252, 3) := by decide +kernel
theorem dX19_serveSession_70 : decode cX19_serveSession 70 = .ok (.iconst 1, 1) := by decide +kernel
theorem dX19_serveSession_71 : decode cX19_serveSession 71 = .ok (.iaload, 1) := by decide +kernel
theorem dX19_serveSession_72 : decode cX19_serveSession 72 = .ok (.iastore, 1) := by decide +kernel
theorem dX19_serveSession_73 : decode cX19_serveSession 73 = .ok (.aload_n 0, 1) := by decide +kernel
theorem dX19_serveSession_74 : decode cX19_serveSession 74 = .ok (.iconst 2, 1) := by decide +kernel
theorem dX19_serveSession_75 : decode cX19_serveSession 75 = .ok (.putfield 730, 3) := by decide +kernel
theorem dX19_serveSession_78 : decode cX19_serveSession 78 = .ok (.return_, 1) := by decide +kernel
theorem cwX19_serveSession : mw_cwV yX19_serveSession cX19_serveSession 2 (none) 1 := ⟨⟨wd_13, wd_3999, by decide +kernel⟩, wd_3998, sl_303⟩
set_option maxHeartbeats 4000000 in
set_option maxRecDepth 100000 in
theorem tX19_serveSession (l : Launch) (G : mwG) (ad : Nat → Nat) (fu : Nat) (a1 : Int32) (M : mwM) (L : mwL) {M0 : mwM} {L0 : mwL} (hD : DX19_serveSession fu a1 M L = some (M0, L0)) : Met l yX19_serveSession (Cond.code yX19_serveSession cX19_serveSession 2 (none) :: GT) ({ frames := 1, cells := 0, slots := 0, locals := 21 }) (mw_Pre G ad NF TF FF M L [.ref (ad 732), .int a1]) (mw_Qv G ad NF TF FF (mw_eqV M0 L0)) 0 0 (mw_fr G) := by
  refine mw_enter (by decide) (Nat.le_of_ble_eq_true rfl) ?_
  intro p e s m below meth c ls C hr hlocks hnm hw hl
  have hl : lv_has ls 2 [(0, .ref (ad 732)), (1, .int a1)] := hl
  have hb20 : ∀ (M : mwM) (L : mwL) (H : Heap) (locs : List Loc) (ls : Array Slot), fX19_serveSession_b20 fu a1 M L = some (M0, L0) → mw_W G ad NF TF FF M L H locs → lv_has ls 2 [(0, .ref (ad 732))] → W p l e ({ frames := 1, cells := 0, slots := 0, locals := 21 }) s m [.ref (ad 732), .int a1].toArray below meth c H locs 0 0 (MQ below (mw_Qv G ad NF TF FF (mw_eqV M0 L0)) [.ref (ad 732), .int a1].toArray s 0 0 (mw_fr G)) (F0 m 20 ls []) := by
    intro M L H locs ls hD hw hl
    unfold fX19_serveSession_b20 at hD
    refine lv_aload_n C.1.1 C.1.2.1 dX19_serveSession_20 rfl (lv_at hl 0 rfl) ?_
    refine lv_bipush (v := 18) C.1.1 C.1.2.1 dX19_serveSession_21 (by decide) ?_
    obtain ⟨M1, L2, h1, hD⟩ := g_b2 hD
    refine md_cvV (As := [.int 18]) (rest := []) C hw (tX19_no l G ad fu 18 M L h1) kc_19 (by decide) tf_732 wd_3992 cwX19_no ⟨Nat.le_of_ble_eq_true rfl, Nat.le_of_ble_eq_true rfl⟩ rfl hl.1 (Nat.le_of_ble_eq_true rfl) dX19_serveSession_23 rfl rfl ⟨Nat.zero_le _, Nat.zero_le _⟩ rfl (fun H locs hw => ?_)
    exact mr_vret C hr hlocks hw (Option.some.inj hD) dX19_serveSession_26
  unfold DX19_serveSession at hD
  refine lv_aload_n C.1.1 C.1.2.1 dX19_serveSession_0 rfl (lv_at hl 0 rfl) ?_
  refine mr_getR C hw kc_19 100 (by decide) tf_732 ff_732_100 wd_2881 dX19_serveSession_1 (by decide) rfl ?_
  refine lv_iconst (v := 1) C.1.1 C.1.2.1 dX19_serveSession_4 (by decide) ?_
  refine mr_iald C hw (by decide) tf_932 (show vp_in 1 128 from by unfold vp_in; decide) dX19_serveSession_5 ?_
  refine lv_iconst (v := 1) C.1.1 C.1.2.1 dX19_serveSession_6 (by decide) ?_
  refine lv_icmp_lt (tgt := 20) C.1.1 C.1.2.1 dX19_serveSession_7 (by decide) (fun c4 => ?_) (fun c4 => ?_)
  · replace hD := g_pos c4 hD
    exact hb20 M L _ _ ls hD hw (lv_sub hl [0] rfl)
  · replace hD := g_neg c4 hD
    refine lv_aload_n C.1.1 C.1.2.1 dX19_serveSession_10 rfl (lv_at hl 0 rfl) ?_
    refine mr_getR C hw kc_19 100 (by decide) tf_732 ff_732_100 wd_2881 dX19_serveSession_11 (by decide) rfl ?_
    refine lv_iconst (v := 1) C.1.1 C.1.2.1 dX19_serveSession_14 (by decide) ?_
    refine mr_iald C hw (by decide) tf_932 (show vp_in 1 128 from by unfold vp_in; decide) dX19_serveSession_15 ?_
    refine lv_iconst (v := 3) C.1.1 C.1.2.1 dX19_serveSession_16 (by decide) ?_
    refine lv_icmp_le (tgt := 27) C.1.1 C.1.2.1 dX19_serveSession_17 (by decide) (fun c6 => ?_) (fun c6 => ?_)
    · replace hD := g_pos c6 hD
      refine lv_aload_n C.1.1 C.1.2.1 dX19_serveSession_27 rfl (lv_at hl 0 rfl) ?_
      refine mr_getR C hw kc_19 103 (by decide) tf_732 ff_732_103 wd_2884 dX19_serveSession_28 (by decide) rfl ?_
      refine lv_iload_n C.1.1 C.1.2.1 dX19_serveSession_31 rfl (lv_at hl 1 rfl) ?_
      refine lv_aload_n C.1.1 C.1.2.1 dX19_serveSession_32 rfl (lv_at hl 0 rfl) ?_
      refine mr_getR C hw kc_19 100 (by decide) tf_732 ff_732_100 wd_2881 dX19_serveSession_33 (by decide) rfl ?_
      refine lv_iconst (v := 1) C.1.1 C.1.2.1 dX19_serveSession_36 (by decide) ?_
      refine mr_iald C hw (by decide) tf_932 (show vp_in 1 128 from by unfold vp_in; decide) dX19_serveSession_37 ?_
      obtain ⟨q8, hD⟩ := g_ck hD
      obtain ⟨M9, eM9, hD⟩ := g_let hD
      refine mr_iast C hw (by decide) tf_934 q8 dX19_serveSession_38 (fun H locs hw => ?_)
      replace hw : mw_W G ad NF TF FF M9 L H locs := by rw [eM9]; exact hw
      refine lv_aload_n C.1.1 C.1.2.1 dX19_serveSession_39 rfl (lv_at hl 0 rfl) ?_
      refine mr_getR C hw kc_19 104 (by decide) tf_732 ff_732_104 wd_2885 dX19_serveSession_40 (by decide) rfl ?_
      refine lv_iload_n C.1.1 C.1.2.1 dX19_serveSession_43 rfl (lv_at hl 1 rfl) ?_
      refine lv_iconst (v := 0) C.1.1 C.1.2.1 dX19_serveSession_44 (by decide) ?_
      obtain ⟨q10, hD⟩ := g_ck hD
      obtain ⟨M11, eM11, hD⟩ := g_let hD
      refine mr_zast C hw (by decide) tf_935 q10 dX19_serveSession_45 (fun H locs hw => ?_)
      replace hw : mw_W G ad NF TF FF M11 L H locs := by rw [eM11]; exact hw
      refine lv_aload_n C.1.1 C.1.2.1 dX19_serveSession_46 rfl (lv_at hl 0 rfl) ?_
      refine mr_getR C hw kc_19 105 (by decide) tf_732 ff_732_105 wd_2886 dX19_serveSession_47 (by decide) rfl ?_
      refine lv_iload_n C.1.1 C.1.2.1 dX19_serveSession_50 rfl (lv_at hl 1 rfl) ?_
      refine lv_iconst (v := 0) C.1.1 C.1.2.1 dX19_serveSession_51 (by decide) ?_
      obtain ⟨q12, hD⟩ := g_ck hD
      obtain ⟨M13, eM13, hD⟩ := g_let hD
      refine mr_zast C hw (by decide) tf_936 q12 dX19_serveSession_52 (fun H locs hw => ?_)
      replace hw : mw_W G ad NF TF FF M13 L H locs := by rw [eM13]; exact hw
      refine lv_aload_n C.1.1 C.1.2.1 dX19_serveSession_53 rfl (lv_at hl 0 rfl) ?_
      refine mr_getR C hw kc_19 101 (by decide) tf_732 ff_732_101 wd_2882 dX19_serveSession_54 (by decide) rfl ?_
      refine lv_iconst (v := 0) C.1.1 C.1.2.1 dX19_serveSession_57 (by decide) ?_
      refine lv_bipush (v := 80) C.1.1 C.1.2.1 dX19_serveSession_58 (by decide) ?_
      obtain ⟨M15, eM15, hD⟩ := g_let hD
      refine mr_iast C hw (by decide) tf_933 (show vp_in 0 128 from by unfold vp_in; decide) dX19_serveSession_60 (fun H locs hw => ?_)
      replace hw : mw_W G ad NF TF FF M15 L H locs := by rw [eM15]; exact hw
      refine lv_aload_n C.1.1 C.1.2.1 dX19_serveSession_61 rfl (lv_at hl 0 rfl) ?_
      refine mr_getR C hw kc_19 101 (by decide) tf_732 ff_732_101 wd_2882 dX19_serveSession_62 (by decide) rfl ?_
      refine lv_iconst (v := 1) C.1.1 C.1.2.1 dX19_serveSession_65 (by decide) ?_
      refine lv_aload_n C.1.1 C.1.2.1 dX19_serveSession_66 rfl (lv_at hl 0 rfl) ?_
      refine mr_getR C hw kc_19 100 (by decide) tf_732 ff_732_100 wd_2881 dX19_serveSession_67 (by decide) rfl ?_
      refine lv_iconst (v := 1) C.1.1 C.1.2.1 dX19_serveSession_70 (by decide) ?_
      refine mr_iald C hw (by decide) tf_932 (show vp_in 1 128 from by unfold vp_in; decide) dX19_serveSession_71 ?_
      obtain ⟨M18, eM18, hD⟩ := g_let hD
      refine mr_iast C hw (by decide) tf_933 (show vp_in 1 128 from by unfold vp_in; decide) dX19_serveSession_72 (fun H locs hw => ?_)
      replace hw : mw_W G ad NF TF FF M18 L H locs := by rw [eM18]; exact hw
      refine lv_aload_n C.1.1 C.1.2.1 dX19_serveSession_73 rfl (lv_at hl 0 rfl) ?_
      refine lv_iconst (v := 2) C.1.1 C.1.2.1 dX19_serveSession_74 (by decide) ?_
      obtain ⟨M19, eM19, hD⟩ := g_let hD
      refine mr_putI C hw kc_19 102 (by decide) tf_732 wd_2883 dX19_serveSession_75 (by decide) rfl rfl rfl rfl (fun H locs hw => ?_)
      replace hw : mw_W G ad NF TF FF M19 L H locs := by rw [eM19]; exact hw
      exact mr_vret C hr hlocks hw (Option.some.inj hD) dX19_serveSession_78
    · replace hD := g_neg c6 hD
      exact hb20 M L _ _ ls hD hw (lv_sub hl [0] rfl)

theorem dX19_isThere_0 : decode cX19_isThere 0 = .ok (.aload_n 0, 1) := by decide +kernel
theorem dX19_isThere_1 : decode cX19_isThere 1 = .ok (.getfield 252, 3) := by decide +kernel
theorem dX19_isThere_4 : decode cX19_isThere 4 = .ok (.iconst 1, 1) := by decide +kernel
theorem dX19_isThere_5 : decode cX19_isThere 5 = .ok (.iaload, 1) := by decide +kernel
theorem dX19_isThere_6 : decode cX19_isThere 6 = .ok (.iconst 1, 1) := by decide +kernel
theorem dX19_isThere_7 : decode cX19_isThere 7 = .ok (.if_icmp .lt 53, 3) := by decide +kernel
theorem dX19_isThere_10 : decode cX19_isThere 10 = .ok (.aload_n 0, 1) := by decide +kernel
theorem dX19_isThere_11 : decode cX19_isThere 11 = .ok (.getfield 252, 3) := by decide +kernel
theorem dX19_isThere_14 : decode cX19_isThere 14 = .ok (.iconst 1, 1) := by decide +kernel
theorem dX19_isThere_15 : decode cX19_isThere 15 = .ok (.iaload, 1) := by decide +kernel
theorem dX19_isThere_16 : decode cX19_isThere 16 = .ok (.aload_n 0, 1) := by decide +kernel
theorem dX19_isThere_17 : decode cX19_isThere 17 = .ok (.getfield 456, 3) := by decide +kernel
theorem dX19_isThere_20 : decode cX19_isThere 20 = .ok (.if_icmp .gt 40, 3) := by decide +kernel
theorem dX19_isThere_23 : decode cX19_isThere 23 = .ok (.aload_n 0, 1) := by decide +kernel
theorem dX19_isThere_24 : decode cX19_isThere 24 = .ok (.getfield 37, 3) := by decide +kernel
theorem dX19_isThere_27 : decode cX19_isThere 27 = .ok (.aload_n 0, 1) := by decide +kernel
theorem dX19_isThere_28 : decode cX19_isThere 28 = .ok (.getfield 58, 3) := by decide +kernel
theorem dX19_isThere_31 : decode cX19_isThere 31 = .ok (.aload_n 0, 1) := by decide +kernel
theorem dX19_isThere_32 : decode cX19_isThere 32 = .ok (.getfield 252, 3) := by decide +kernel
theorem dX19_isThere_35 : decode cX19_isThere 35 = .ok (.iconst 1, 1) := by decide +kernel
theorem dX19_isThere_36 : decode cX19_isThere 36 = .ok (.iaload, 1) := by decide +kernel
theorem dX19_isThere_37 : decode cX19_isThere 37 = .ok (.iconst 1, 1) := by decide +kernel
theorem dX19_isThere_38 : decode cX19_isThere 38 = .ok (.isub, 1) := by decide +kernel
theorem dX19_isThere_39 : decode cX19_isThere 39 = .ok (.iaload, 1) := by decide +kernel
theorem dX19_isThere_40 : decode cX19_isThere 40 = .ok (.iaload, 1) := by decide +kernel
theorem dX19_isThere_41 : decode cX19_isThere 41 = .ok (.iload_n 1, 1) := by decide +kernel
theorem dX19_isThere_42 : decode cX19_isThere 42 = .ok (.if_icmp .ne 18, 3) := by decide +kernel
theorem dX19_isThere_45 : decode cX19_isThere 45 = .ok (.aload_n 0, 1) := by decide +kernel
theorem dX19_isThere_46 : decode cX19_isThere 46 = .ok (.getfield 252, 3) := by decide +kernel
theorem dX19_isThere_49 : decode cX19_isThere 49 = .ok (.iconst 2, 1) := by decide +kernel
theorem dX19_isThere_50 : decode cX19_isThere 50 = .ok (.iaload, 1) := by decide +kernel
theorem dX19_isThere_51 : decode cX19_isThere 51 = .ok (.bipush 32, 2) := by decide +kernel
theorem dX19_isThere_53 : decode cX19_isThere 53 = .ok (.if_icmp .ge 7, 3) := by decide +kernel
theorem dX19_isThere_56 : decode cX19_isThere 56 = .ok (.iconst 1, 1) := by decide +kernel
theorem dX19_isThere_57 : decode cX19_isThere 57 = .ok (.goto 4, 3) := by decide +kernel
theorem dX19_isThere_60 : decode cX19_isThere 60 = .ok (.iconst 0, 1) := by decide +kernel
theorem dX19_isThere_61 : decode cX19_isThere 61 = .ok (.ireturn, 1) := by decide +kernel
theorem cwX19_isThere : mw_cwV yX19_isThere cX19_isThere 2 ((some .boolean)) 1 := ⟨⟨wd_13, wd_4007, by decide +kernel⟩, wd_4006, sl_305⟩
set_option maxHeartbeats 4000000 in
set_option maxRecDepth 100000 in
theorem tX19_isThere (l : Launch) (G : mwG) (ad : Nat → Nat) (fu : Nat) (a1 : Int32) (M : mwM) (L : mwL) {r0 : Int32} {M0 : mwM} {L0 : mwL} (hD : DX19_isThere fu a1 M L = some (r0, M0, L0)) : Met l yX19_isThere (Cond.code yX19_isThere cX19_isThere 2 ((some .boolean)) :: GT) ({ frames := 0, cells := 0, slots := 0, locals := 0 }) (mw_Pre G ad NF TF FF M L [.ref (ad 732), .int a1]) (mw_Qi G ad NF TF FF (mw_eqI r0 M0 L0)) 0 0 (mw_fr G) := by
  refine mw_enter (by decide) (Nat.le_of_ble_eq_true rfl) ?_
  intro p e s m below meth c ls C hr hlocks hnm hw hl
  have hl : lv_has ls 2 [(0, .ref (ad 732)), (1, .int a1)] := hl
  have hb61 : ∀ (s0 : Int32) (M : mwM) (L : mwL) (H : Heap) (locs : List Loc) (ls : Array Slot), fX19_isThere_b61 fu a1 s0 M L = some (r0, M0, L0) → mw_W G ad NF TF FF M L H locs → lv_has ls 2 [] → W p l e ({ frames := 0, cells := 0, slots := 0, locals := 0 }) s m [.ref (ad 732), .int a1].toArray below meth c H locs 0 0 (MQ below (mw_Qi G ad NF TF FF (mw_eqI r0 M0 L0)) [.ref (ad 732), .int a1].toArray s 0 0 (mw_fr G)) (F0 m 61 ls [.int s0]) := by
    intro s0 M L H locs ls hD hw hl
    unfold fX19_isThere_b61 at hD
    obtain ⟨z1, hD⟩ := g_zz hD
    exact mr_iret C hr hlocks hw (nz_zz z1) (Option.some.inj hD) dX19_isThere_61
  have hb60 : ∀ (M : mwM) (L : mwL) (H : Heap) (locs : List Loc) (ls : Array Slot), fX19_isThere_b60 fu a1 M L = some (r0, M0, L0) → mw_W G ad NF TF FF M L H locs → lv_has ls 2 [] → W p l e ({ frames := 0, cells := 0, slots := 0, locals := 0 }) s m [.ref (ad 732), .int a1].toArray below meth c H locs 0 0 (MQ below (mw_Qi G ad NF TF FF (mw_eqI r0 M0 L0)) [.ref (ad 732), .int a1].toArray s 0 0 (mw_fr G)) (F0 m 60 ls []) := by
    intro M L H locs ls hD hw hl
    unfold fX19_isThere_b60 at hD
    refine lv_iconst (v := 0) C.1.1 C.1.2.1 dX19_isThere_60 (by decide) ?_
    exact hb61 0 M L _ _ ls hD hw (lv_sub hl [] rfl)
  unfold DX19_isThere at hD
  refine lv_aload_n C.1.1 C.1.2.1 dX19_isThere_0 rfl (lv_at hl 0 rfl) ?_
  refine mr_getR C hw kc_19 100 (by decide) tf_732 ff_732_100 wd_2881 dX19_isThere_1 (by decide) rfl ?_
  refine lv_iconst (v := 1) C.1.1 C.1.2.1 dX19_isThere_4 (by decide) ?_
  refine mr_iald C hw (by decide) tf_932 (show vp_in 1 128 from by unfold vp_in; decide) dX19_isThere_5 ?_
  refine lv_iconst (v := 1) C.1.1 C.1.2.1 dX19_isThere_6 (by decide) ?_
  refine lv_icmp_lt (tgt := 60) C.1.1 C.1.2.1 dX19_isThere_7 (by decide) (fun c3 => ?_) (fun c3 => ?_)
  · replace hD := g_pos c3 hD
    exact hb60 M L _ _ ls hD hw (lv_sub hl [] rfl)
  · replace hD := g_neg c3 hD
    refine lv_aload_n C.1.1 C.1.2.1 dX19_isThere_10 rfl (lv_at hl 0 rfl) ?_
    refine mr_getR C hw kc_19 100 (by decide) tf_732 ff_732_100 wd_2881 dX19_isThere_11 (by decide) rfl ?_
    refine lv_iconst (v := 1) C.1.1 C.1.2.1 dX19_isThere_14 (by decide) ?_
    refine mr_iald C hw (by decide) tf_932 (show vp_in 1 128 from by unfold vp_in; decide) dX19_isThere_15 ?_
    refine lv_aload_n C.1.1 C.1.2.1 dX19_isThere_16 rfl (lv_at hl 0 rfl) ?_
    refine mr_getI C hw kc_19 33 (by decide) tf_732 wd_2814 dX19_isThere_17 (by decide) rfl ?_
    refine lv_icmp_gt (tgt := 60) C.1.1 C.1.2.1 dX19_isThere_20 (by decide) (fun c5 => ?_) (fun c5 => ?_)
    · replace hD := g_pos c5 hD
      exact hb60 M L _ _ ls hD hw (lv_sub hl [] rfl)
    · replace hD := g_neg c5 hD
      refine lv_aload_n C.1.1 C.1.2.1 dX19_isThere_23 rfl (lv_at hl 0 rfl) ?_
      refine mr_getR C hw kc_19 26 (by decide) tf_732 ff_732_26 wd_2807 dX19_isThere_24 (by decide) rfl ?_
      refine lv_aload_n C.1.1 C.1.2.1 dX19_isThere_27 rfl (lv_at hl 0 rfl) ?_
      refine mr_getR C hw kc_19 34 (by decide) tf_732 ff_732_34 wd_2815 dX19_isThere_28 (by decide) rfl ?_
      refine lv_aload_n C.1.1 C.1.2.1 dX19_isThere_31 rfl (lv_at hl 0 rfl) ?_
      refine mr_getR C hw kc_19 100 (by decide) tf_732 ff_732_100 wd_2881 dX19_isThere_32 (by decide) rfl ?_
      refine lv_iconst (v := 1) C.1.1 C.1.2.1 dX19_isThere_35 (by decide) ?_
      refine mr_iald C hw (by decide) tf_932 (show vp_in 1 128 from by unfold vp_in; decide) dX19_isThere_36 ?_
      refine lv_iconst (v := 1) C.1.1 C.1.2.1 dX19_isThere_37 (by decide) ?_
      refine lv_isub C.1.1 C.1.2.1 dX19_isThere_38 ?_
      obtain ⟨q7, hD⟩ := g_ck hD
      refine mr_iald C hw (by decide) tf_749 q7 dX19_isThere_39 ?_
      obtain ⟨q8, hD⟩ := g_ck hD
      refine mr_iald C hw (by decide) tf_742 q8 dX19_isThere_40 ?_
      refine lv_iload_n C.1.1 C.1.2.1 dX19_isThere_41 rfl (lv_at hl 1 rfl) ?_
      refine lv_icmp_ne (tgt := 60) C.1.1 C.1.2.1 dX19_isThere_42 (by decide) (fun c9 => ?_) (fun c9 => ?_)
      · replace hD := g_neg c9 hD
        exact hb60 M L _ _ ls hD hw (lv_sub hl [] rfl)
      · replace hD := g_pos c9 hD
        refine lv_aload_n C.1.1 C.1.2.1 dX19_isThere_45 rfl (lv_at hl 0 rfl) ?_
        refine mr_getR C hw kc_19 100 (by decide) tf_732 ff_732_100 wd_2881 dX19_isThere_46 (by decide) rfl ?_
        refine lv_iconst (v := 2) C.1.1 C.1.2.1 dX19_isThere_49 (by decide) ?_
        refine mr_iald C hw (by decide) tf_932 (show vp_in 2 128 from by unfold vp_in; decide) dX19_isThere_50 ?_
        refine lv_bipush (v := 32) C.1.1 C.1.2.1 dX19_isThere_51 (by decide) ?_
        refine lv_icmp_ge (tgt := 60) C.1.1 C.1.2.1 dX19_isThere_53 (by decide) (fun c11 => ?_) (fun c11 => ?_)
        · replace hD := g_pos c11 hD
          exact hb60 M L _ _ ls hD hw (lv_sub hl [] rfl)
        · replace hD := g_neg c11 hD
          refine lv_iconst (v := 1) C.1.1 C.1.2.1 dX19_isThere_56 (by decide) ?_
          refine lv_goto (tgt := 61) C.1.1 C.1.2.1 dX19_isThere_57 (by decide) ?_
          exact hb61 1 M L _ _ ls hD hw (lv_sub hl [] rfl)
