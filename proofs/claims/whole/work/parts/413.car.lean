theorem dX1_clear_0 : decode cX1_clear 0 = .ok (.iconst 0, 1) := by decide +kernel
theorem dX1_clear_1 : decode cX1_clear 1 = .ok (.istore_n 1, 1) := by decide +kernel
theorem dX1_clear_2 : decode cX1_clear 2 = .ok (.iload_n 1, 1) := by decide +kernel
theorem dX1_clear_3 : decode cX1_clear 3 = .ok (.bipush 12, 2) := by decide +kernel
theorem dX1_clear_5 : decode cX1_clear 5 = .ok (.if_icmp .ge 16, 3) := by decide +kernel
theorem dX1_clear_8 : decode cX1_clear 8 = .ok (.aload_n 0, 1) := by decide +kernel
theorem dX1_clear_9 : decode cX1_clear 9 = .ok (.getfield 66, 3) := by decide +kernel
theorem dX1_clear_12 : decode cX1_clear 12 = .ok (.iload_n 1, 1) := by decide +kernel
theorem dX1_clear_13 : decode cX1_clear 13 = .ok (.iconst (-1), 1) := by decide +kernel
theorem dX1_clear_14 : decode cX1_clear 14 = .ok (.iastore, 1) := by decide +kernel
theorem dX1_clear_15 : decode cX1_clear 15 = .ok (.iinc 1 1, 3) := by decide +kernel
theorem dX1_clear_18 : decode cX1_clear 18 = .ok (.goto (-16), 3) := by decide +kernel
theorem dX1_clear_21 : decode cX1_clear 21 = .ok (.iconst 0, 1) := by decide +kernel
theorem dX1_clear_22 : decode cX1_clear 22 = .ok (.istore_n 1, 1) := by decide +kernel
theorem dX1_clear_23 : decode cX1_clear 23 = .ok (.iload_n 1, 1) := by decide +kernel
theorem dX1_clear_24 : decode cX1_clear 24 = .ok (.bipush 12, 2) := by decide +kernel
theorem dX1_clear_26 : decode cX1_clear 26 = .ok (.if_icmp .ge 19, 3) := by decide +kernel
theorem dX1_clear_29 : decode cX1_clear 29 = .ok (.aload_n 0, 1) := by decide +kernel
theorem dX1_clear_30 : decode cX1_clear 30 = .ok (.getfield 11, 3) := by decide +kernel
theorem dX1_clear_33 : decode cX1_clear 33 = .ok (.iload_n 1, 1) := by decide +kernel
theorem dX1_clear_34 : decode cX1_clear 34 = .ok (.aaload, 1) := by decide +kernel
theorem dX1_clear_35 : decode cX1_clear 35 = .ok (.iconst (-1), 1) := by decide +kernel
theorem dX1_clear_36 : decode cX1_clear 36 = .ok (.putfield 87, 3) := by decide +kernel
theorem dX1_clear_39 : decode cX1_clear 39 = .ok (.iinc 1 1, 3) := by decide +kernel
theorem dX1_clear_42 : decode cX1_clear 42 = .ok (.goto (-19), 3) := by decide +kernel
theorem dX1_clear_45 : decode cX1_clear 45 = .ok (.iconst 0, 1) := by decide +kernel
theorem dX1_clear_46 : decode cX1_clear 46 = .ok (.istore_n 1, 1) := by decide +kernel
theorem dX1_clear_47 : decode cX1_clear 47 = .ok (.iload_n 1, 1) := by decide +kernel
theorem dX1_clear_48 : decode cX1_clear 48 = .ok (.bipush 6, 2) := by decide +kernel
theorem dX1_clear_50 : decode cX1_clear 50 = .ok (.if_icmp .ge 16, 3) := by decide +kernel
theorem dX1_clear_53 : decode cX1_clear 53 = .ok (.aload_n 0, 1) := by decide +kernel
theorem dX1_clear_54 : decode cX1_clear 54 = .ok (.getfield 70, 3) := by decide +kernel
theorem dX1_clear_57 : decode cX1_clear 57 = .ok (.iload_n 1, 1) := by decide +kernel
theorem dX1_clear_58 : decode cX1_clear 58 = .ok (.iconst 0, 1) := by decide +kernel
theorem dX1_clear_59 : decode cX1_clear 59 = .ok (.bastore, 1) := by decide +kernel
theorem dX1_clear_60 : decode cX1_clear 60 = .ok (.iinc 1 1, 3) := by decide +kernel
theorem dX1_clear_63 : decode cX1_clear 63 = .ok (.goto (-16), 3) := by decide +kernel
theorem dX1_clear_66 : decode cX1_clear 66 = .ok (.iconst 0, 1) := by decide +kernel
theorem dX1_clear_67 : decode cX1_clear 67 = .ok (.istore_n 1, 1) := by decide +kernel
theorem dX1_clear_68 : decode cX1_clear 68 = .ok (.iload_n 1, 1) := by decide +kernel
theorem dX1_clear_69 : decode cX1_clear 69 = .ok (.aload_n 0, 1) := by decide +kernel
theorem dX1_clear_70 : decode cX1_clear 70 = .ok (.getfield 83, 3) := by decide +kernel
theorem dX1_clear_73 : decode cX1_clear 73 = .ok (.arraylength, 1) := by decide +kernel
theorem dX1_clear_74 : decode cX1_clear 74 = .ok (.if_icmp .ge 16, 3) := by decide +kernel
theorem dX1_clear_77 : decode cX1_clear 77 = .ok (.aload_n 0, 1) := by decide +kernel
theorem dX1_clear_78 : decode cX1_clear 78 = .ok (.getfield 83, 3) := by decide +kernel
theorem dX1_clear_81 : decode cX1_clear 81 = .ok (.iload_n 1, 1) := by decide +kernel
theorem dX1_clear_82 : decode cX1_clear 82 = .ok (.iconst 0, 1) := by decide +kernel
theorem dX1_clear_83 : decode cX1_clear 83 = .ok (.iastore, 1) := by decide +kernel
theorem dX1_clear_84 : decode cX1_clear 84 = .ok (.iinc 1 1, 3) := by decide +kernel
theorem dX1_clear_87 : decode cX1_clear 87 = .ok (.goto (-19), 3) := by decide +kernel
theorem dX1_clear_90 : decode cX1_clear 90 = .ok (.aload_n 0, 1) := by decide +kernel
theorem dX1_clear_91 : decode cX1_clear 91 = .ok (.iconst 0, 1) := by decide +kernel
theorem dX1_clear_92 : decode cX1_clear 92 = .ok (.putfield 91, 3) := by decide +kernel
theorem dX1_clear_95 : decode cX1_clear 95 = .ok (.aload_n 0, 1) := by decide +kernel
theorem dX1_clear_96 : decode cX1_clear 96 = .ok (.iconst 0, 1) := by decide +kernel
theorem dX1_clear_97 : decode cX1_clear 97 = .ok (.putfield 94, 3) := by decide +kernel
theorem dX1_clear_100 : decode cX1_clear 100 = .ok (.aload_n 0, 1) := by decide +kernel
theorem dX1_clear_101 : decode cX1_clear 101 = .ok (.iconst 0, 1) := by decide +kernel
theorem dX1_clear_102 : decode cX1_clear 102 = .ok (.putfield 97, 3) := by decide +kernel
theorem dX1_clear_105 : decode cX1_clear 105 = .ok (.aload_n 0, 1) := by decide +kernel
theorem dX1_clear_106 : decode cX1_clear 106 = .ok (.iconst 0, 1) := by decide +kernel
theorem dX1_clear_107 : decode cX1_clear 107 = .ok (.putfield 100, 3) := by decide +kernel
theorem dX1_clear_110 : decode cX1_clear 110 = .ok (.aload_n 0, 1) := by decide +kernel
theorem dX1_clear_111 : decode cX1_clear 111 = .ok (.iconst (-1), 1) := by decide +kernel
theorem dX1_clear_112 : decode cX1_clear 112 = .ok (.putfield 103, 3) := by decide +kernel
theorem dX1_clear_115 : decode cX1_clear 115 = .ok (.aload_n 0, 1) := by decide +kernel
theorem dX1_clear_116 : decode cX1_clear 116 = .ok (.iconst 0, 1) := by decide +kernel
theorem dX1_clear_117 : decode cX1_clear 117 = .ok (.putfield 106, 3) := by decide +kernel
theorem dX1_clear_120 : decode cX1_clear 120 = .ok (.aload_n 0, 1) := by decide +kernel
theorem dX1_clear_121 : decode cX1_clear 121 = .ok (.getfield 20, 3) := by decide +kernel
theorem dX1_clear_124 : decode cX1_clear 124 = .ok (.invokevirtual 109, 3) := by decide +kernel
theorem dX1_clear_127 : decode cX1_clear 127 = .ok (.aload_n 0, 1) := by decide +kernel
theorem dX1_clear_128 : decode cX1_clear 128 = .ok (.getfield 34, 3) := by decide +kernel
theorem dX1_clear_131 : decode cX1_clear 131 = .ok (.invokevirtual 112, 3) := by decide +kernel
theorem dX1_clear_134 : decode cX1_clear 134 = .ok (.aload_n 0, 1) := by decide +kernel
theorem dX1_clear_135 : decode cX1_clear 135 = .ok (.getfield 48, 3) := by decide +kernel
theorem dX1_clear_138 : decode cX1_clear 138 = .ok (.invokevirtual 113, 3) := by decide +kernel
theorem dX1_clear_141 : decode cX1_clear 141 = .ok (.aload_n 0, 1) := by decide +kernel
theorem dX1_clear_142 : decode cX1_clear 142 = .ok (.getfield 55, 3) := by decide +kernel
theorem dX1_clear_145 : decode cX1_clear 145 = .ok (.invokevirtual 114, 3) := by decide +kernel
theorem dX1_clear_148 : decode cX1_clear 148 = .ok (.aload_n 0, 1) := by decide +kernel
theorem dX1_clear_149 : decode cX1_clear 149 = .ok (.getfield 62, 3) := by decide +kernel
theorem dX1_clear_152 : decode cX1_clear 152 = .ok (.invokevirtual 115, 3) := by decide +kernel
theorem dX1_clear_155 : decode cX1_clear 155 = .ok (.return_, 1) := by decide +kernel
theorem cwX1_clear : mw_cwV yX1_clear cX1_clear 2 (none) 0 := ⟨⟨wd_3, wd_800, by decide +kernel⟩, wd_798, wd_799⟩
set_option maxHeartbeats 4000000 in
set_option maxRecDepth 100000 in
theorem tX1_clear (l : Launch) (G : mwG) (ad : Nat → Nat) (fu : Nat) (M : mwM) (L : mwL) {M0 : mwM} {L0 : mwL} (hD : DX1_clear fu M L = some (M0, L0)) : Met l yX1_clear (Cond.code yX1_clear cX1_clear 2 (none) :: GT) ({ frames := 1, cells := 0, slots := 0, locals := 21 }) (mw_Pre G ad NF TF FF M L [.ref (ad 3)]) (mw_Qv G ad NF TF FF (mw_eqV M0 L0)) 0 0 (mw_fr G) := by
  refine mw_enter (by decide) (Nat.le_of_ble_eq_true rfl) ?_
  intro p e s m below meth c ls C hr hlocks hnm hw hl
  have hl : lv_has ls 2 [(0, .ref (ad 3))] := hl
  have hh68 : ∀ (f : Nat) (v1 : Int32) (M : mwM) (L : mwL) (H : Heap) (locs : List Loc) (ls : Array Slot), fX1_clear_h68 fu f (v1, M, L) = some (M0, L0) → mw_W G ad NF TF FF M L H locs → lv_has ls 2 [(0, .ref (ad 3)), (1, .int v1)] → W p l e ({ frames := 1, cells := 0, slots := 0, locals := 21 }) s m [.ref (ad 3)].toArray below meth c H locs 0 0 (MQ below (mw_Qv G ad NF TF FF (mw_eqV M0 L0)) [.ref (ad 3)].toArray s 0 0 (mw_fr G)) (F0 m 68 ls []) := by
    intro f
    induction f with
    | zero => intro v1 M L H locs ls hD; cases hD
    | succ f68 ih68 =>
      intro v1 M L H locs ls hD hw hl
      replace hD : fX1_clear_i68 fu (fX1_clear_h68 fu f68) v1 M L = some (M0, L0) := hD
      unfold fX1_clear_i68 at hD
      refine lv_iload_n C.1.1 C.1.2.1 dX1_clear_68 rfl (lv_at hl 1 rfl) ?_
      refine lv_aload_n C.1.1 C.1.2.1 dX1_clear_69 rfl (lv_at hl 0 rfl) ?_
      refine mr_getR C hw kc_1 12 (by decide) tf_3 ff_3_12 wd_537 dX1_clear_70 (by decide) rfl ?_
      refine mr_alen (v := 5) C hw (by decide) tf_292 (by decide) rfl (by decide) dX1_clear_73 ?_
      refine lv_icmp_ge (tgt := 90) C.1.1 C.1.2.1 dX1_clear_74 (by decide) (fun c13 => ?_) (fun c13 => ?_)
      · replace hD := g_pos c13 hD
        refine lv_aload_n C.1.1 C.1.2.1 dX1_clear_90 rfl (lv_at hl 0 rfl) ?_
        refine lv_iconst (v := 0) C.1.1 C.1.2.1 dX1_clear_91 (by decide) ?_
        obtain ⟨M14, eM14, hD⟩ := g_let hD
        refine mr_putI C hw kc_1 13 (by decide) tf_3 wd_539 dX1_clear_92 (by decide) rfl rfl rfl rfl (fun H locs hw => ?_)
        replace hw : mw_W G ad NF TF FF M14 L H locs := by rw [eM14]; exact hw
        refine lv_aload_n C.1.1 C.1.2.1 dX1_clear_95 rfl (lv_at hl 0 rfl) ?_
        refine lv_iconst (v := 0) C.1.1 C.1.2.1 dX1_clear_96 (by decide) ?_
        obtain ⟨M15, eM15, hD⟩ := g_let hD
        refine mr_putI C hw kc_1 14 (by decide) tf_3 wd_542 dX1_clear_97 (by decide) rfl rfl rfl rfl (fun H locs hw => ?_)
        replace hw : mw_W G ad NF TF FF M15 L H locs := by rw [eM15]; exact hw
        refine lv_aload_n C.1.1 C.1.2.1 dX1_clear_100 rfl (lv_at hl 0 rfl) ?_
        refine lv_iconst (v := 0) C.1.1 C.1.2.1 dX1_clear_101 (by decide) ?_
        obtain ⟨M16, eM16, hD⟩ := g_let hD
        refine mr_putI C hw kc_1 15 (by decide) tf_3 wd_545 dX1_clear_102 (by decide) rfl rfl rfl rfl (fun H locs hw => ?_)
        replace hw : mw_W G ad NF TF FF M16 L H locs := by rw [eM16]; exact hw
        refine lv_aload_n C.1.1 C.1.2.1 dX1_clear_105 rfl (lv_at hl 0 rfl) ?_
        refine lv_iconst (v := 0) C.1.1 C.1.2.1 dX1_clear_106 (by decide) ?_
        obtain ⟨M17, eM17, hD⟩ := g_let hD
        refine mr_putI C hw kc_1 16 (by decide) tf_3 wd_547 dX1_clear_107 (by decide) rfl rfl rfl rfl (fun H locs hw => ?_)
        replace hw : mw_W G ad NF TF FF M17 L H locs := by rw [eM17]; exact hw
        refine lv_aload_n C.1.1 C.1.2.1 dX1_clear_110 rfl (lv_at hl 0 rfl) ?_
        refine lv_iconst (v := (-1)) C.1.1 C.1.2.1 dX1_clear_111 (by decide) ?_
        obtain ⟨M18, eM18, hD⟩ := g_let hD
        refine mr_putI C hw kc_1 17 (by decide) tf_3 wd_549 dX1_clear_112 (by decide) rfl rfl rfl rfl (fun H locs hw => ?_)
        replace hw : mw_W G ad NF TF FF M18 L H locs := by rw [eM18]; exact hw
        refine lv_aload_n C.1.1 C.1.2.1 dX1_clear_115 rfl (lv_at hl 0 rfl) ?_
        refine lv_iconst (v := 0) C.1.1 C.1.2.1 dX1_clear_116 (by decide) ?_
        obtain ⟨M19, eM19, hD⟩ := g_let hD
        refine mr_putI C hw kc_1 18 (by decide) tf_3 wd_551 dX1_clear_117 (by decide) rfl rfl rfl rfl (fun H locs hw => ?_)
        replace hw : mw_W G ad NF TF FF M19 L H locs := by rw [eM19]; exact hw
        refine lv_aload_n C.1.1 C.1.2.1 dX1_clear_120 rfl (lv_at hl 0 rfl) ?_
        refine mr_getR C hw kc_1 1 (by decide) tf_3 ff_3_1 wd_514 dX1_clear_121 (by decide) rfl ?_
        obtain ⟨M20, L21, h1, hD⟩ := g_b2 hD
        refine md_cvV (As := []) (rest := []) C hw (tX4_clear l G ad fu M19 L h1) kc_4 (by decide) tf_5 wd_801 cwX4_clear ⟨Nat.le_of_ble_eq_true rfl, Nat.le_of_ble_eq_true rfl⟩ rfl hl.1 (Nat.le_of_ble_eq_true rfl) dX1_clear_124 rfl rfl ⟨Nat.zero_le _, Nat.zero_le _⟩ rfl (fun H locs hw => ?_)
        refine lv_aload_n C.1.1 C.1.2.1 dX1_clear_127 rfl (lv_at hl 0 rfl) ?_
        refine mr_getR C hw kc_1 3 (by decide) tf_3 ff_3_3 wd_519 dX1_clear_128 (by decide) rfl ?_
        obtain ⟨M22, L23, h1, hD⟩ := g_b2 hD
        refine md_cvV (As := []) (rest := []) C hw (tX6_clear l G ad fu M20 L21 h1) kc_6 (by decide) tf_61 wd_805 cwX6_clear ⟨Nat.le_of_ble_eq_true rfl, Nat.le_of_ble_eq_true rfl⟩ rfl hl.1 (Nat.le_of_ble_eq_true rfl) dX1_clear_131 rfl rfl ⟨Nat.zero_le _, Nat.zero_le _⟩ rfl (fun H locs hw => ?_)
        refine lv_aload_n C.1.1 C.1.2.1 dX1_clear_134 rfl (lv_at hl 0 rfl) ?_
        refine mr_getR C hw kc_1 5 (by decide) tf_3 ff_3_5 wd_524 dX1_clear_135 (by decide) rfl ?_
        obtain ⟨M24, L25, h1, hD⟩ := g_b2 hD
        refine md_cvV (As := []) (rest := []) C hw (tX10_clear l G ad fu M22 L23 h1) kc_10 (by decide) tf_139 wd_810 cwX10_clear ⟨Nat.le_of_ble_eq_true rfl, Nat.le_of_ble_eq_true rfl⟩ rfl hl.1 (Nat.le_of_ble_eq_true rfl) dX1_clear_138 rfl rfl ⟨Nat.zero_le _, Nat.zero_le _⟩ rfl (fun H locs hw => ?_)
        refine lv_aload_n C.1.1 C.1.2.1 dX1_clear_141 rfl (lv_at hl 0 rfl) ?_
        refine mr_getR C hw kc_1 6 (by decide) tf_3 ff_3_6 wd_528 dX1_clear_142 (by decide) rfl ?_
        obtain ⟨M26, L27, h1, hD⟩ := g_b2 hD
        refine md_cvV (As := []) (rest := []) C hw (tX9_clear l G ad fu M24 L25 h1) kc_9 (by decide) tf_154 wd_814 cwX9_clear ⟨Nat.le_of_ble_eq_true rfl, Nat.le_of_ble_eq_true rfl⟩ rfl hl.1 (Nat.le_of_ble_eq_true rfl) dX1_clear_145 rfl rfl ⟨Nat.zero_le _, Nat.zero_le _⟩ rfl (fun H locs hw => ?_)
        refine lv_aload_n C.1.1 C.1.2.1 dX1_clear_148 rfl (lv_at hl 0 rfl) ?_
        refine mr_getR C hw kc_1 7 (by decide) tf_3 ff_3_7 wd_530 dX1_clear_149 (by decide) rfl ?_
        obtain ⟨M28, L29, h1, hD⟩ := g_b2 hD
        refine md_cvV (As := []) (rest := []) C hw (tX7_clear l G ad fu M26 L27 h1) kc_7 (by decide) tf_275 wd_818 cwX7_clear ⟨Nat.le_of_ble_eq_true rfl, Nat.le_of_ble_eq_true rfl⟩ rfl hl.1 (Nat.le_of_ble_eq_true rfl) dX1_clear_152 rfl rfl ⟨Nat.zero_le _, Nat.zero_le _⟩ rfl (fun H locs hw => ?_)
        exact mr_vret C hr hlocks hw (Option.some.inj hD) dX1_clear_155
      · replace hD := g_neg c13 hD
        refine lv_aload_n C.1.1 C.1.2.1 dX1_clear_77 rfl (lv_at hl 0 rfl) ?_
        refine mr_getR C hw kc_1 12 (by decide) tf_3 ff_3_12 wd_537 dX1_clear_78 (by decide) rfl ?_
        refine lv_iload_n C.1.1 C.1.2.1 dX1_clear_81 rfl (lv_at hl 1 rfl) ?_
        refine lv_iconst (v := 0) C.1.1 C.1.2.1 dX1_clear_82 (by decide) ?_
        obtain ⟨q30, hD⟩ := g_ck hD
        obtain ⟨M31, eM31, hD⟩ := g_let hD
        refine mr_iast C hw (by decide) tf_292 q30 dX1_clear_83 (fun H locs hw => ?_)
        replace hw : mw_W G ad NF TF FF M31 L H locs := by rw [eM31]; exact hw
        obtain ⟨x32, ex32, hD⟩ := g_let hD
        refine lv_iinc (v := x32) (lv' := [(1, .int x32), (0, .ref (ad 3))]) C.1.1 C.1.2.1 dX1_clear_84 hl (k := 1) rfl (by rw [ex32]; rfl) (by decide) rfl (fun ls hl => ?_)
        refine lv_goto (tgt := 68) C.1.1 C.1.2.1 dX1_clear_87 (by decide) ?_
        exact ih68 x32 M31 L _ _ ls hD hw (lv_sub hl [1, 0] rfl)
  have hh47 : ∀ (f : Nat) (v1 : Int32) (M : mwM) (L : mwL) (H : Heap) (locs : List Loc) (ls : Array Slot), fX1_clear_h47 fu f (v1, M, L) = some (M0, L0) → mw_W G ad NF TF FF M L H locs → lv_has ls 2 [(0, .ref (ad 3)), (1, .int v1)] → W p l e ({ frames := 1, cells := 0, slots := 0, locals := 21 }) s m [.ref (ad 3)].toArray below meth c H locs 0 0 (MQ below (mw_Qv G ad NF TF FF (mw_eqV M0 L0)) [.ref (ad 3)].toArray s 0 0 (mw_fr G)) (F0 m 47 ls []) := by
    intro f
    induction f with
    | zero => intro v1 M L H locs ls hD; cases hD
    | succ f47 ih47 =>
      intro v1 M L H locs ls hD hw hl
      replace hD : fX1_clear_i47 fu (fX1_clear_h47 fu f47) v1 M L = some (M0, L0) := hD
      unfold fX1_clear_i47 at hD
      refine lv_iload_n C.1.1 C.1.2.1 dX1_clear_47 rfl (lv_at hl 1 rfl) ?_
      refine lv_bipush (v := 6) C.1.1 C.1.2.1 dX1_clear_48 (by decide) ?_
      refine lv_icmp_ge (tgt := 66) C.1.1 C.1.2.1 dX1_clear_50 (by decide) (fun c9 => ?_) (fun c9 => ?_)
      · replace hD := g_pos c9 hD
        refine lv_iconst (v := 0) C.1.1 C.1.2.1 dX1_clear_66 (by decide) ?_
        refine lv_istore_n (lv' := [(1, .int 0), (0, .ref (ad 3))]) C.1.1 C.1.2.1 dX1_clear_67 rfl hl (by decide) rfl (fun ls hl => ?_)
        exact hh68 fu 0 M L _ _ ls hD hw (lv_sub hl [1, 0] rfl)
      · replace hD := g_neg c9 hD
        refine lv_aload_n C.1.1 C.1.2.1 dX1_clear_53 rfl (lv_at hl 0 rfl) ?_
        refine mr_getR C hw kc_1 9 (by decide) tf_3 ff_3_9 wd_533 dX1_clear_54 (by decide) rfl ?_
        refine lv_iload_n C.1.1 C.1.2.1 dX1_clear_57 rfl (lv_at hl 1 rfl) ?_
        refine lv_iconst (v := 0) C.1.1 C.1.2.1 dX1_clear_58 (by decide) ?_
        obtain ⟨q10, hD⟩ := g_ck hD
        obtain ⟨M11, eM11, hD⟩ := g_let hD
        refine mr_zast C hw (by decide) tf_284 q10 dX1_clear_59 (fun H locs hw => ?_)
        replace hw : mw_W G ad NF TF FF M11 L H locs := by rw [eM11]; exact hw
        obtain ⟨x12, ex12, hD⟩ := g_let hD
        refine lv_iinc (v := x12) (lv' := [(1, .int x12), (0, .ref (ad 3))]) C.1.1 C.1.2.1 dX1_clear_60 hl (k := 1) rfl (by rw [ex12]; rfl) (by decide) rfl (fun ls hl => ?_)
        refine lv_goto (tgt := 47) C.1.1 C.1.2.1 dX1_clear_63 (by decide) ?_
        exact ih47 x12 M11 L _ _ ls hD hw (lv_sub hl [1, 0] rfl)
  have hh23 : ∀ (f : Nat) (v1 : Int32) (M : mwM) (L : mwL) (H : Heap) (locs : List Loc) (ls : Array Slot), fX1_clear_h23 fu f (v1, M, L) = some (M0, L0) → mw_W G ad NF TF FF M L H locs → lv_has ls 2 [(0, .ref (ad 3)), (1, .int v1)] → W p l e ({ frames := 1, cells := 0, slots := 0, locals := 21 }) s m [.ref (ad 3)].toArray below meth c H locs 0 0 (MQ below (mw_Qv G ad NF TF FF (mw_eqV M0 L0)) [.ref (ad 3)].toArray s 0 0 (mw_fr G)) (F0 m 23 ls []) := by
    intro f
    induction f with
    | zero => intro v1 M L H locs ls hD; cases hD
    | succ f23 ih23 =>
      intro v1 M L H locs ls hD hw hl
      replace hD : fX1_clear_i23 fu (fX1_clear_h23 fu f23) v1 M L = some (M0, L0) := hD
      unfold fX1_clear_i23 at hD
      refine lv_iload_n C.1.1 C.1.2.1 dX1_clear_23 rfl (lv_at hl 1 rfl) ?_
      refine lv_bipush (v := 12) C.1.1 C.1.2.1 dX1_clear_24 (by decide) ?_
      refine lv_icmp_ge (tgt := 45) C.1.1 C.1.2.1 dX1_clear_26 (by decide) (fun c5 => ?_) (fun c5 => ?_)
      · replace hD := g_pos c5 hD
        refine lv_iconst (v := 0) C.1.1 C.1.2.1 dX1_clear_45 (by decide) ?_
        refine lv_istore_n (lv' := [(1, .int 0), (0, .ref (ad 3))]) C.1.1 C.1.2.1 dX1_clear_46 rfl hl (by decide) rfl (fun ls hl => ?_)
        exact hh47 fu 0 M L _ _ ls hD hw (lv_sub hl [1, 0] rfl)
      · replace hD := g_neg c5 hD
        refine lv_aload_n C.1.1 C.1.2.1 dX1_clear_29 rfl (lv_at hl 0 rfl) ?_
        refine mr_getR C hw kc_1 0 (by decide) tf_3 ff_3_0 wd_510 dX1_clear_30 (by decide) rfl ?_
        refine lv_iload_n C.1.1 C.1.2.1 dX1_clear_33 rfl (lv_at hl 1 rfl) ?_
        obtain ⟨q6, hD⟩ := g_ck hD
        refine mr_aald C hw (by decide) tf_4 (by decide) (by decide) rfl rfl q6 (fr_4 _ (g_lt q6)) dX1_clear_34 ?_
        refine lv_iconst (v := (-1)) C.1.1 C.1.2.1 dX1_clear_35 (by decide) ?_
        obtain ⟨M7, eM7, hD⟩ := g_let hD
        refine mr_putNI C hw kc_2 5 (Ch_N0 (isCh_of (g_lt q6))) (Ch_T0 (isCh_of (g_lt q6))) nd_454 dX1_clear_36 (by decide) rfl rfl rfl rfl (fun H locs hw => ?_)
        replace hw : mw_W G ad NF TF FF M7 L H locs := by rw [eM7]; exact hw
        obtain ⟨x8, ex8, hD⟩ := g_let hD
        refine lv_iinc (v := x8) (lv' := [(1, .int x8), (0, .ref (ad 3))]) C.1.1 C.1.2.1 dX1_clear_39 hl (k := 1) rfl (by rw [ex8]; rfl) (by decide) rfl (fun ls hl => ?_)
        refine lv_goto (tgt := 23) C.1.1 C.1.2.1 dX1_clear_42 (by decide) ?_
        exact ih23 x8 M7 L _ _ ls hD hw (lv_sub hl [1, 0] rfl)
  have hh2 : ∀ (f : Nat) (v1 : Int32) (M : mwM) (L : mwL) (H : Heap) (locs : List Loc) (ls : Array Slot), fX1_clear_h2 fu f (v1, M, L) = some (M0, L0) → mw_W G ad NF TF FF M L H locs → lv_has ls 2 [(0, .ref (ad 3)), (1, .int v1)] → W p l e ({ frames := 1, cells := 0, slots := 0, locals := 21 }) s m [.ref (ad 3)].toArray below meth c H locs 0 0 (MQ below (mw_Qv G ad NF TF FF (mw_eqV M0 L0)) [.ref (ad 3)].toArray s 0 0 (mw_fr G)) (F0 m 2 ls []) := by
    intro f
    induction f with
    | zero => intro v1 M L H locs ls hD; cases hD
    | succ f2 ih2 =>
      intro v1 M L H locs ls hD hw hl
      replace hD : fX1_clear_i2 fu (fX1_clear_h2 fu f2) v1 M L = some (M0, L0) := hD
      unfold fX1_clear_i2 at hD
      refine lv_iload_n C.1.1 C.1.2.1 dX1_clear_2 rfl (lv_at hl 1 rfl) ?_
      refine lv_bipush (v := 12) C.1.1 C.1.2.1 dX1_clear_3 (by decide) ?_
      refine lv_icmp_ge (tgt := 21) C.1.1 C.1.2.1 dX1_clear_5 (by decide) (fun c1 => ?_) (fun c1 => ?_)
      · replace hD := g_pos c1 hD
        refine lv_iconst (v := 0) C.1.1 C.1.2.1 dX1_clear_21 (by decide) ?_
        refine lv_istore_n (lv' := [(1, .int 0), (0, .ref (ad 3))]) C.1.1 C.1.2.1 dX1_clear_22 rfl hl (by decide) rfl (fun ls hl => ?_)
        exact hh23 fu 0 M L _ _ ls hD hw (lv_sub hl [1, 0] rfl)
      · replace hD := g_neg c1 hD
        refine lv_aload_n C.1.1 C.1.2.1 dX1_clear_8 rfl (lv_at hl 0 rfl) ?_
        refine mr_getR C hw kc_1 8 (by decide) tf_3 ff_3_8 wd_531 dX1_clear_9 (by decide) rfl ?_
        refine lv_iload_n C.1.1 C.1.2.1 dX1_clear_12 rfl (lv_at hl 1 rfl) ?_
        refine lv_iconst (v := (-1)) C.1.1 C.1.2.1 dX1_clear_13 (by decide) ?_
        obtain ⟨q2, hD⟩ := g_ck hD
        obtain ⟨M3, eM3, hD⟩ := g_let hD
        refine mr_iast C hw (by decide) tf_283 q2 dX1_clear_14 (fun H locs hw => ?_)
        replace hw : mw_W G ad NF TF FF M3 L H locs := by rw [eM3]; exact hw
        obtain ⟨x4, ex4, hD⟩ := g_let hD
        refine lv_iinc (v := x4) (lv' := [(1, .int x4), (0, .ref (ad 3))]) C.1.1 C.1.2.1 dX1_clear_15 hl (k := 1) rfl (by rw [ex4]; rfl) (by decide) rfl (fun ls hl => ?_)
        refine lv_goto (tgt := 2) C.1.1 C.1.2.1 dX1_clear_18 (by decide) ?_
        exact ih2 x4 M3 L _ _ ls hD hw (lv_sub hl [1, 0] rfl)
  unfold DX1_clear at hD
  refine lv_iconst (v := 0) C.1.1 C.1.2.1 dX1_clear_0 (by decide) ?_
  refine lv_istore_n (lv' := [(1, .int 0), (0, .ref (ad 3))]) C.1.1 C.1.2.1 dX1_clear_1 rfl hl (by decide) rfl (fun ls hl => ?_)
  exact hh2 fu 0 M L _ _ ls hD hw (lv_sub hl [1, 0] rfl)

theorem dX1_addChart_0 : decode cX1_addChart 0 = .ok (.aload_n 0, 1) := by decide +kernel
theorem dX1_addChart_1 : decode cX1_addChart 1 = .ok (.getfield 11, 3) := by decide +kernel
theorem dX1_addChart_4 : decode cX1_addChart 4 = .ok (.aload_n 0, 1) := by decide +kernel
theorem dX1_addChart_5 : decode cX1_addChart 5 = .ok (.getfield 94, 3) := by decide +kernel
theorem dX1_addChart_8 : decode cX1_addChart 8 = .ok (.aaload, 1) := by decide +kernel
theorem dX1_addChart_9 : decode cX1_addChart 9 = .ok (.aload_n 0, 1) := by decide +kernel
theorem dX1_addChart_10 : decode cX1_addChart 10 = .ok (.getfield 20, 3) := by decide +kernel
theorem dX1_addChart_13 : decode cX1_addChart 13 = .ok (.getfield 116, 3) := by decide +kernel
theorem dX1_addChart_16 : decode cX1_addChart 16 = .ok (.iconst 1, 1) := by decide +kernel
theorem dX1_addChart_17 : decode cX1_addChart 17 = .ok (.aaload, 1) := by decide +kernel
theorem dX1_addChart_18 : decode cX1_addChart 18 = .ok (.iload_n 1, 1) := by decide +kernel
theorem dX1_addChart_19 : decode cX1_addChart 19 = .ok (.iaload, 1) := by decide +kernel
theorem dX1_addChart_20 : decode cX1_addChart 20 = .ok (.iload_n 2, 1) := by decide +kernel
theorem dX1_addChart_21 : decode cX1_addChart 21 = .ok (.invokevirtual 119, 3) := by decide +kernel
theorem dX1_addChart_24 : decode cX1_addChart 24 = .ok (.aload_n 0, 1) := by decide +kernel
theorem dX1_addChart_25 : decode cX1_addChart 25 = .ok (.getfield 66, 3) := by decide +kernel
theorem dX1_addChart_28 : decode cX1_addChart 28 = .ok (.iload_n 1, 1) := by decide +kernel
theorem dX1_addChart_29 : decode cX1_addChart 29 = .ok (.aload_n 0, 1) := by decide +kernel
theorem dX1_addChart_30 : decode cX1_addChart 30 = .ok (.getfield 94, 3) := by decide +kernel
theorem dX1_addChart_33 : decode cX1_addChart 33 = .ok (.iastore, 1) := by decide +kernel
theorem dX1_addChart_34 : decode cX1_addChart 34 = .ok (.aload_n 0, 1) := by decide +kernel
theorem dX1_addChart_35 : decode cX1_addChart 35 = .ok (.dup, 1) := by decide +kernel
theorem dX1_addChart_36 : decode cX1_addChart 36 = .ok (.getfield 94, 3) := by decide +kernel
theorem dX1_addChart_39 : decode cX1_addChart 39 = .ok (.iconst 1, 1) := by decide +kernel
theorem dX1_addChart_40 : decode cX1_addChart 40 = .ok (.iadd, 1) := by decide +kernel
theorem dX1_addChart_41 : decode cX1_addChart 41 = .ok (.putfield 94, 3) := by decide +kernel
theorem dX1_addChart_44 : decode cX1_addChart 44 = .ok (.return_, 1) := by decide +kernel
theorem cwX1_addChart : mw_cwV yX1_addChart cX1_addChart 3 (none) 2 := ⟨⟨wd_3, wd_977, by decide +kernel⟩, wd_975, wd_976⟩
set_option maxHeartbeats 4000000 in
set_option maxRecDepth 100000 in
theorem tX1_addChart (l : Launch) (G : mwG) (ad : Nat → Nat) (fu : Nat) (a1 : Int32) (a2 : Int32) (M : mwM) (L : mwL) {M0 : mwM} {L0 : mwL} (hD : DX1_addChart fu a1 a2 M L = some (M0, L0)) : Met l yX1_addChart (Cond.code yX1_addChart cX1_addChart 3 (none) :: GT) ({ frames := 2, cells := 0, slots := 0, locals := 45 }) (mw_Pre G ad NF TF FF M L [.ref (ad 3), .int a1, .int a2]) (mw_Qv G ad NF TF FF (mw_eqV M0 L0)) 0 0 (mw_fr G) := by
  refine mw_enter (by decide) (Nat.le_of_ble_eq_true rfl) ?_
  intro p e s m below meth c ls C hr hlocks hnm hw hl
  have hl : lv_has ls 3 [(0, .ref (ad 3)), (1, .int a1), (2, .int a2)] := hl
  unfold DX1_addChart at hD
  refine lv_aload_n C.1.1 C.1.2.1 dX1_addChart_0 rfl (lv_at hl 0 rfl) ?_
  refine mr_getR C hw kc_1 0 (by decide) tf_3 ff_3_0 wd_510 dX1_addChart_1 (by decide) rfl ?_
  refine lv_aload_n C.1.1 C.1.2.1 dX1_addChart_4 rfl (lv_at hl 0 rfl) ?_
  refine mr_getI C hw kc_1 14 (by decide) tf_3 wd_542 dX1_addChart_5 (by decide) rfl ?_
  obtain ⟨q1, hD⟩ := g_ck hD
  refine mr_aald C hw (by decide) tf_4 (by decide) (by decide) rfl rfl q1 (fr_4 _ (g_lt q1)) dX1_addChart_8 ?_
  refine lv_aload_n C.1.1 C.1.2.1 dX1_addChart_9 rfl (lv_at hl 0 rfl) ?_
  refine mr_getR C hw kc_1 1 (by decide) tf_3 ff_3_1 wd_514 dX1_addChart_10 (by decide) rfl ?_
  refine mr_getNR C hw kc_4 0 (by decide) tf_5 ff_5_0 nd_64 dX1_addChart_13 (by decide) rfl ?_
  refine lv_iconst (v := 1) C.1.1 C.1.2.1 dX1_addChart_16 (by decide) ?_
  refine mr_aald C hw (by decide) tf_6 (by decide) (by decide) rfl rfl (show vp_in 1 11 from by unfold vp_in; decide) ff_6_1 dX1_addChart_17 ?_
  refine lv_iload_n C.1.1 C.1.2.1 dX1_addChart_18 rfl (lv_at hl 1 rfl) ?_
  obtain ⟨q3, hD⟩ := g_ck hD
  refine mr_iald C hw (by decide) tf_8 q3 dX1_addChart_19 ?_
  refine lv_iload_n C.1.1 C.1.2.1 dX1_addChart_20 rfl (lv_at hl 2 rfl) ?_
  obtain ⟨M4, L5, h1, hD⟩ := g_b2 hD
  refine md_cvV (As := [.int (M 8 a1.toNatClampNeg), .int a2]) (rest := []) C hw (tX2_begin l G ad fu ((293 + 36 * (M 3 14).toNatClampNeg)) (M 8 a1.toNatClampNeg) a2 M L h1 (isCh_of (g_lt q1))) kc_2 (Ch_N0 (isCh_of (g_lt q1))) (Ch_T0 (isCh_of (g_lt q1))) wd_978 cwX2_begin ⟨Nat.le_of_ble_eq_true rfl, Nat.le_of_ble_eq_true rfl⟩ rfl hl.1 (Nat.le_of_ble_eq_true rfl) dX1_addChart_21 rfl rfl ⟨Nat.zero_le _, Nat.zero_le _⟩ rfl (fun H locs hw => ?_)
  refine lv_aload_n C.1.1 C.1.2.1 dX1_addChart_24 rfl (lv_at hl 0 rfl) ?_
  refine mr_getR C hw kc_1 8 (by decide) tf_3 ff_3_8 wd_531 dX1_addChart_25 (by decide) rfl ?_
  refine lv_iload_n C.1.1 C.1.2.1 dX1_addChart_28 rfl (lv_at hl 1 rfl) ?_
  refine lv_aload_n C.1.1 C.1.2.1 dX1_addChart_29 rfl (lv_at hl 0 rfl) ?_
  refine mr_getI C hw kc_1 14 (by decide) tf_3 wd_542 dX1_addChart_30 (by decide) rfl ?_
  obtain ⟨q6, hD⟩ := g_ck hD
  obtain ⟨M7, eM7, hD⟩ := g_let hD
  refine mr_iast C hw (by decide) tf_283 q6 dX1_addChart_33 (fun H locs hw => ?_)
  replace hw : mw_W G ad NF TF FF M7 L5 H locs := by rw [eM7]; exact hw
  refine lv_aload_n C.1.1 C.1.2.1 dX1_addChart_34 rfl (lv_at hl 0 rfl) ?_
  refine lv_dup C.1.1 C.1.2.1 dX1_addChart_35 rfl ?_
  refine mr_getI C hw kc_1 14 (by decide) tf_3 wd_542 dX1_addChart_36 (by decide) rfl ?_
  refine lv_iconst (v := 1) C.1.1 C.1.2.1 dX1_addChart_39 (by decide) ?_
  refine lv_iadd C.1.1 C.1.2.1 dX1_addChart_40 ?_
  obtain ⟨M8, eM8, hD⟩ := g_let hD
  refine mr_putI C hw kc_1 14 (by decide) tf_3 wd_542 dX1_addChart_41 (by decide) rfl rfl rfl rfl (fun H locs hw => ?_)
  replace hw : mw_W G ad NF TF FF M8 L5 H locs := by rw [eM8]; exact hw
  exact mr_vret C hr hlocks hw (Option.some.inj hD) dX1_addChart_44

theorem dX1_addRead_0 : decode cX1_addRead 0 = .ok (.aload_n 0, 1) := by decide +kernel
theorem dX1_addRead_1 : decode cX1_addRead 1 = .ok (.getfield 97, 3) := by decide +kernel
theorem dX1_addRead_4 : decode cX1_addRead 4 = .ok (.bipush 60, 2) := by decide +kernel
theorem dX1_addRead_6 : decode cX1_addRead 6 = .ok (.if_icmp .lt 6, 3) := by decide +kernel
theorem dX1_addRead_9 : decode cX1_addRead 9 = .ok (.bipush (-4), 2) := by decide +kernel
theorem dX1_addRead_11 : decode cX1_addRead 11 = .ok (.ireturn, 1) := by decide +kernel
theorem dX1_addRead_12 : decode cX1_addRead 12 = .ok (.aload_n 0, 1) := by decide +kernel
theorem dX1_addRead_13 : decode cX1_addRead 13 = .ok (.getfield 76, 3) := by decide +kernel
theorem dX1_addRead_16 : decode cX1_addRead 16 = .ok (.iconst 0, 1) := by decide +kernel
theorem dX1_addRead_17 : decode cX1_addRead 17 = .ok (.aaload, 1) := by decide +kernel
theorem dX1_addRead_18 : decode cX1_addRead 18 = .ok (.aload_n 0, 1) := by decide +kernel
theorem dX1_addRead_19 : decode cX1_addRead 19 = .ok (.getfield 97, 3) := by decide +kernel
theorem dX1_addRead_22 : decode cX1_addRead 22 = .ok (.iload_n 1, 1) := by decide +kernel
theorem dX1_addRead_23 : decode cX1_addRead 23 = .ok (.iastore, 1) := by decide +kernel
theorem dX1_addRead_24 : decode cX1_addRead 24 = .ok (.aload_n 0, 1) := by decide +kernel
theorem dX1_addRead_25 : decode cX1_addRead 25 = .ok (.getfield 76, 3) := by decide +kernel
theorem dX1_addRead_28 : decode cX1_addRead 28 = .ok (.iconst 1, 1) := by decide +kernel
theorem dX1_addRead_29 : decode cX1_addRead 29 = .ok (.aaload, 1) := by decide +kernel
theorem dX1_addRead_30 : decode cX1_addRead 30 = .ok (.aload_n 0, 1) := by decide +kernel
theorem dX1_addRead_31 : decode cX1_addRead 31 = .ok (.getfield 97, 3) := by decide +kernel
theorem dX1_addRead_34 : decode cX1_addRead 34 = .ok (.iload_n 2, 1) := by decide +kernel
theorem dX1_addRead_35 : decode cX1_addRead 35 = .ok (.iastore, 1) := by decide +kernel
theorem dX1_addRead_36 : decode cX1_addRead 36 = .ok (.aload_n 0, 1) := by decide +kernel
theorem dX1_addRead_37 : decode cX1_addRead 37 = .ok (.getfield 76, 3) := by decide +kernel
theorem dX1_addRead_40 : decode cX1_addRead 40 = .ok (.iconst 2, 1) := by decide +kernel
theorem dX1_addRead_41 : decode cX1_addRead 41 = .ok (.aaload, 1) := by decide +kernel
theorem dX1_addRead_42 : decode cX1_addRead 42 = .ok (.aload_n 0, 1) := by decide +kernel
theorem dX1_addRead_43 : decode cX1_addRead 43 = .ok (.getfield 97, 3) := by decide +kernel
theorem dX1_addRead_46 : decode cX1_addRead 46 = .ok (.iload_n 3, 1) := by decide +kernel
theorem dX1_addRead_47 : decode cX1_addRead 47 = .ok (.iastore, 1) := by decide +kernel
theorem dX1_addRead_48 : decode cX1_addRead 48 = .ok (.aload_n 0, 1) := by decide +kernel
theorem dX1_addRead_49 : decode cX1_addRead 49 = .ok (.getfield 76, 3) := by decide +kernel
theorem dX1_addRead_52 : decode cX1_addRead 52 = .ok (.iconst 3, 1) := by decide +kernel
theorem dX1_addRead_53 : decode cX1_addRead 53 = .ok (.aaload, 1) := by decide +kernel
theorem dX1_addRead_54 : decode cX1_addRead 54 = .ok (.aload_n 0, 1) := by decide +kernel
theorem dX1_addRead_55 : decode cX1_addRead 55 = .ok (.getfield 97, 3) := by decide +kernel
theorem dX1_addRead_58 : decode cX1_addRead 58 = .ok (.iload 4, 2) := by decide +kernel
theorem dX1_addRead_60 : decode cX1_addRead 60 = .ok (.iastore, 1) := by decide +kernel
theorem dX1_addRead_61 : decode cX1_addRead 61 = .ok (.aload_n 0, 1) := by decide +kernel
theorem dX1_addRead_62 : decode cX1_addRead 62 = .ok (.getfield 76, 3) := by decide +kernel
theorem dX1_addRead_65 : decode cX1_addRead 65 = .ok (.iconst 4, 1) := by decide +kernel
theorem dX1_addRead_66 : decode cX1_addRead 66 = .ok (.aaload, 1) := by decide +kernel
theorem dX1_addRead_67 : decode cX1_addRead 67 = .ok (.aload_n 0, 1) := by decide +kernel
theorem dX1_addRead_68 : decode cX1_addRead 68 = .ok (.getfield 97, 3) := by decide +kernel
theorem dX1_addRead_71 : decode cX1_addRead 71 = .ok (.iconst 0, 1) := by decide +kernel
theorem dX1_addRead_72 : decode cX1_addRead 72 = .ok (.iastore, 1) := by decide +kernel
theorem dX1_addRead_73 : decode cX1_addRead 73 = .ok (.aload_n 0, 1) := by decide +kernel
theorem dX1_addRead_74 : decode cX1_addRead 74 = .ok (.dup, 1) := by decide +kernel
theorem dX1_addRead_75 : decode cX1_addRead 75 = .ok (.getfield 97, 3) := by decide +kernel
theorem dX1_addRead_78 : decode cX1_addRead 78 = .ok (.iconst 1, 1) := by decide +kernel
theorem dX1_addRead_79 : decode cX1_addRead 79 = .ok (.iadd, 1) := by decide +kernel
theorem dX1_addRead_80 : decode cX1_addRead 80 = .ok (.putfield 97, 3) := by decide +kernel
theorem dX1_addRead_83 : decode cX1_addRead 83 = .ok (.aload_n 0, 1) := by decide +kernel
theorem dX1_addRead_84 : decode cX1_addRead 84 = .ok (.getfield 97, 3) := by decide +kernel
theorem dX1_addRead_87 : decode cX1_addRead 87 = .ok (.ireturn, 1) := by decide +kernel
theorem cwX1_addRead : mw_cwV yX1_addRead cX1_addRead 5 ((some .int)) 4 := ⟨⟨wd_3, wd_1103, by decide +kernel⟩, wd_1101, wd_1102⟩
set_option maxHeartbeats 4000000 in
set_option maxRecDepth 100000 in
theorem tX1_addRead (l : Launch) (G : mwG) (ad : Nat → Nat) (fu : Nat) (a1 : Int32) (a2 : Int32) (a3 : Int32) (a4 : Int32) (M : mwM) (L : mwL) {r0 : Int32} {M0 : mwM} {L0 : mwL} (hD : DX1_addRead fu a1 a2 a3 a4 M L = some (r0, M0, L0)) : Met l yX1_addRead (Cond.code yX1_addRead cX1_addRead 5 ((some .int)) :: GT) ({ frames := 0, cells := 0, slots := 0, locals := 0 }) (mw_Pre G ad NF TF FF M L [.ref (ad 3), .int a1, .int a2, .int a3, .int a4]) (mw_Qi G ad NF TF FF (mw_eqI r0 M0 L0)) 0 0 (mw_fr G) := by
  refine mw_enter (by decide) (Nat.le_of_ble_eq_true rfl) ?_
  intro p e s m below meth c ls C hr hlocks hnm hw hl
  have hl : lv_has ls 5 [(0, .ref (ad 3)), (1, .int a1), (2, .int a2), (3, .int a3), (4, .int a4)] := hl
  unfold DX1_addRead at hD
  refine lv_aload_n C.1.1 C.1.2.1 dX1_addRead_0 rfl (lv_at hl 0 rfl) ?_
  refine mr_getI C hw kc_1 15 (by decide) tf_3 wd_545 dX1_addRead_1 (by decide) rfl ?_
  refine lv_bipush (v := 60) C.1.1 C.1.2.1 dX1_addRead_4 (by decide) ?_
  refine lv_icmp_lt (tgt := 12) C.1.1 C.1.2.1 dX1_addRead_6 (by decide) (fun c1 => ?_) (fun c1 => ?_)
  · replace hD := g_pos c1 hD
    refine lv_aload_n C.1.1 C.1.2.1 dX1_addRead_12 rfl (lv_at hl 0 rfl) ?_
    refine mr_getR C hw kc_1 10 (by decide) tf_3 ff_3_10 wd_535 dX1_addRead_13 (by decide) rfl ?_
    refine lv_iconst (v := 0) C.1.1 C.1.2.1 dX1_addRead_16 (by decide) ?_
    refine mr_aald C hw (by decide) tf_285 (by decide) (by decide) rfl rfl (show vp_in 0 5 from by unfold vp_in; decide) ff_285_0 dX1_addRead_17 ?_
    refine lv_aload_n C.1.1 C.1.2.1 dX1_addRead_18 rfl (lv_at hl 0 rfl) ?_
    refine mr_getI C hw kc_1 15 (by decide) tf_3 wd_545 dX1_addRead_19 (by decide) rfl ?_
    refine lv_iload_n C.1.1 C.1.2.1 dX1_addRead_22 rfl (lv_at hl 1 rfl) ?_
    obtain ⟨q3, hD⟩ := g_ck hD
    obtain ⟨M4, eM4, hD⟩ := g_let hD
    refine mr_iast C hw (by decide) tf_286 q3 dX1_addRead_23 (fun H locs hw => ?_)
    replace hw : mw_W G ad NF TF FF M4 L H locs := by rw [eM4]; exact hw
    refine lv_aload_n C.1.1 C.1.2.1 dX1_addRead_24 rfl (lv_at hl 0 rfl) ?_
    refine mr_getR C hw kc_1 10 (by decide) tf_3 ff_3_10 wd_535 dX1_addRead_25 (by decide) rfl ?_
    refine lv_iconst (v := 1) C.1.1 C.1.2.1 dX1_addRead_28 (by decide) ?_
    refine mr_aald C hw (by decide) tf_285 (by decide) (by decide) rfl rfl (show vp_in 1 5 from by unfold vp_in; decide) ff_285_1 dX1_addRead_29 ?_
    refine lv_aload_n C.1.1 C.1.2.1 dX1_addRead_30 rfl (lv_at hl 0 rfl) ?_
    refine mr_getI C hw kc_1 15 (by decide) tf_3 wd_545 dX1_addRead_31 (by decide) rfl ?_
    refine lv_iload_n C.1.1 C.1.2.1 dX1_addRead_34 rfl (lv_at hl 2 rfl) ?_
    obtain ⟨q6, hD⟩ := g_ck hD
    obtain ⟨M7, eM7, hD⟩ := g_let hD
    refine mr_iast C hw (by decide) tf_287 q6 dX1_addRead_35 (fun H locs hw => ?_)
    replace hw : mw_W G ad NF TF FF M7 L H locs := by rw [eM7]; exact hw
    refine lv_aload_n C.1.1 C.1.2.1 dX1_addRead_36 rfl (lv_at hl 0 rfl) ?_
    refine mr_getR C hw kc_1 10 (by decide) tf_3 ff_3_10 wd_535 dX1_addRead_37 (by decide) rfl ?_
    refine lv_iconst (v := 2) C.1.1 C.1.2.1 dX1_addRead_40 (by decide) ?_
    refine mr_aald C hw (by decide) tf_285 (by decide) (by decide) rfl rfl (show vp_in 2 5 from by unfold vp_in; decide) ff_285_2 dX1_addRead_41 ?_
    refine lv_aload_n C.1.1 C.1.2.1 dX1_addRead_42 rfl (lv_at hl 0 rfl) ?_
    refine mr_getI C hw kc_1 15 (by decide) tf_3 wd_545 dX1_addRead_43 (by decide) rfl ?_
    refine lv_iload_n C.1.1 C.1.2.1 dX1_addRead_46 rfl (lv_at hl 3 rfl) ?_
    obtain ⟨q9, hD⟩ := g_ck hD
    obtain ⟨M10, eM10, hD⟩ := g_let hD
    refine mr_iast C hw (by decide) tf_288 q9 dX1_addRead_47 (fun H locs hw => ?_)
    replace hw : mw_W G ad NF TF FF M10 L H locs := by rw [eM10]; exact hw
    refine lv_aload_n C.1.1 C.1.2.1 dX1_addRead_48 rfl (lv_at hl 0 rfl) ?_
    refine mr_getR C hw kc_1 10 (by decide) tf_3 ff_3_10 wd_535 dX1_addRead_49 (by decide) rfl ?_
    refine lv_iconst (v := 3) C.1.1 C.1.2.1 dX1_addRead_52 (by decide) ?_
    refine mr_aald C hw (by decide) tf_285 (by decide) (by decide) rfl rfl (show vp_in 3 5 from by unfold vp_in; decide) ff_285_3 dX1_addRead_53 ?_
    refine lv_aload_n C.1.1 C.1.2.1 dX1_addRead_54 rfl (lv_at hl 0 rfl) ?_
    refine mr_getI C hw kc_1 15 (by decide) tf_3 wd_545 dX1_addRead_55 (by decide) rfl ?_
    refine lv_iload C.1.1 C.1.2.1 dX1_addRead_58 (lv_at hl 4 rfl) ?_
    obtain ⟨q12, hD⟩ := g_ck hD
    obtain ⟨M13, eM13, hD⟩ := g_let hD
    refine mr_iast C hw (by decide) tf_289 q12 dX1_addRead_60 (fun H locs hw => ?_)
    replace hw : mw_W G ad NF TF FF M13 L H locs := by rw [eM13]; exact hw
    refine lv_aload_n C.1.1 C.1.2.1 dX1_addRead_61 rfl (lv_at hl 0 rfl) ?_
    refine mr_getR C hw kc_1 10 (by decide) tf_3 ff_3_10 wd_535 dX1_addRead_62 (by decide) rfl ?_
    refine lv_iconst (v := 4) C.1.1 C.1.2.1 dX1_addRead_65 (by decide) ?_
    refine mr_aald C hw (by decide) tf_285 (by decide) (by decide) rfl rfl (show vp_in 4 5 from by unfold vp_in; decide) ff_285_4 dX1_addRead_66 ?_
    refine lv_aload_n C.1.1 C.1.2.1 dX1_addRead_67 rfl (lv_at hl 0 rfl) ?_
    refine mr_getI C hw kc_1 15 (by decide) tf_3 wd_545 dX1_addRead_68 (by decide) rfl ?_
    refine lv_iconst (v := 0) C.1.1 C.1.2.1 dX1_addRead_71 (by decide) ?_
    obtain ⟨q15, hD⟩ := g_ck hD
    obtain ⟨M16, eM16, hD⟩ := g_let hD
    refine mr_iast C hw (by decide) tf_290 q15 dX1_addRead_72 (fun H locs hw => ?_)
    replace hw : mw_W G ad NF TF FF M16 L H locs := by rw [eM16]; exact hw
    refine lv_aload_n C.1.1 C.1.2.1 dX1_addRead_73 rfl (lv_at hl 0 rfl) ?_
    refine lv_dup C.1.1 C.1.2.1 dX1_addRead_74 rfl ?_
    refine mr_getI C hw kc_1 15 (by decide) tf_3 wd_545 dX1_addRead_75 (by decide) rfl ?_
    refine lv_iconst (v := 1) C.1.1 C.1.2.1 dX1_addRead_78 (by decide) ?_
    refine lv_iadd C.1.1 C.1.2.1 dX1_addRead_79 ?_
    obtain ⟨M17, eM17, hD⟩ := g_let hD
    refine mr_putI C hw kc_1 15 (by decide) tf_3 wd_545 dX1_addRead_80 (by decide) rfl rfl rfl rfl (fun H locs hw => ?_)
    replace hw : mw_W G ad NF TF FF M17 L H locs := by rw [eM17]; exact hw
    refine lv_aload_n C.1.1 C.1.2.1 dX1_addRead_83 rfl (lv_at hl 0 rfl) ?_
    refine mr_getI C hw kc_1 15 (by decide) tf_3 wd_545 dX1_addRead_84 (by decide) rfl ?_
    exact mr_iret C hr hlocks hw rfl (Option.some.inj hD) dX1_addRead_87
  · replace hD := g_neg c1 hD
    refine lv_bipush (v := (-4)) C.1.1 C.1.2.1 dX1_addRead_9 (by decide) ?_
    exact mr_iret C hr hlocks hw rfl (Option.some.inj hD) dX1_addRead_11

theorem dX1_join_0 : decode cX1_join 0 = .ok (.aload_n 0, 1) := by decide +kernel
theorem dX1_join_1 : decode cX1_join 1 = .ok (.getfield 34, 3) := by decide +kernel
theorem dX1_join_4 : decode cX1_join 4 = .ok (.aload_n 0, 1) := by decide +kernel
theorem dX1_join_5 : decode cX1_join 5 = .ok (.getfield 91, 3) := by decide +kernel
theorem dX1_join_8 : decode cX1_join 8 = .ok (.invokevirtual 123, 3) := by decide +kernel
theorem dX1_join_11 : decode cX1_join 11 = .ok (.aload_n 0, 1) := by decide +kernel
theorem dX1_join_12 : decode cX1_join 12 = .ok (.getfield 27, 3) := by decide +kernel
theorem dX1_join_15 : decode cX1_join 15 = .ok (.aload_n 0, 1) := by decide +kernel
theorem dX1_join_16 : decode cX1_join 16 = .ok (.getfield 91, 3) := by decide +kernel
theorem dX1_join_19 : decode cX1_join 19 = .ok (.iconst 1, 1) := by decide +kernel
theorem dX1_join_20 : decode cX1_join 20 = .ok (.iadd, 1) := by decide +kernel
theorem dX1_join_21 : decode cX1_join 21 = .ok (.invokevirtual 127, 3) := by decide +kernel
theorem dX1_join_24 : decode cX1_join 24 = .ok (.aload_n 0, 1) := by decide +kernel
theorem dX1_join_25 : decode cX1_join 25 = .ok (.getfield 41, 3) := by decide +kernel
theorem dX1_join_28 : decode cX1_join 28 = .ok (.bipush 16, 2) := by decide +kernel
theorem dX1_join_30 : decode cX1_join 30 = .ok (.invokevirtual 129, 3) := by decide +kernel
theorem dX1_join_33 : decode cX1_join 33 = .ok (.iconst 0, 1) := by decide +kernel
theorem dX1_join_34 : decode cX1_join 34 = .ok (.istore_n 1, 1) := by decide +kernel
theorem dX1_join_35 : decode cX1_join 35 = .ok (.iload_n 1, 1) := by decide +kernel
theorem dX1_join_36 : decode cX1_join 36 = .ok (.aload_n 0, 1) := by decide +kernel
theorem dX1_join_37 : decode cX1_join 37 = .ok (.getfield 34, 3) := by decide +kernel
theorem dX1_join_40 : decode cX1_join 40 = .ok (.getfield 132, 3) := by decide +kernel
theorem dX1_join_43 : decode cX1_join 43 = .ok (.if_icmp .ge 41, 3) := by decide +kernel
theorem dX1_join_46 : decode cX1_join 46 = .ok (.aload_n 0, 1) := by decide +kernel
theorem dX1_join_47 : decode cX1_join 47 = .ok (.getfield 34, 3) := by decide +kernel
theorem dX1_join_50 : decode cX1_join 50 = .ok (.getfield 134, 3) := by decide +kernel
theorem dX1_join_53 : decode cX1_join 53 = .ok (.iconst 2, 1) := by decide +kernel
theorem dX1_join_54 : decode cX1_join 54 = .ok (.aaload, 1) := by decide +kernel
theorem dX1_join_55 : decode cX1_join 55 = .ok (.iload_n 1, 1) := by decide +kernel
theorem dX1_join_56 : decode cX1_join 56 = .ok (.iaload, 1) := by decide +kernel
theorem dX1_join_57 : decode cX1_join 57 = .ok (.ifCond .eq 21, 3) := by decide +kernel
theorem dX1_join_60 : decode cX1_join 60 = .ok (.aload_n 0, 1) := by decide +kernel
theorem dX1_join_61 : decode cX1_join 61 = .ok (.getfield 41, 3) := by decide +kernel
theorem dX1_join_64 : decode cX1_join 64 = .ok (.aload_n 0, 1) := by decide +kernel
theorem dX1_join_65 : decode cX1_join 65 = .ok (.getfield 34, 3) := by decide +kernel
theorem dX1_join_68 : decode cX1_join 68 = .ok (.getfield 134, 3) := by decide +kernel
theorem dX1_join_71 : decode cX1_join 71 = .ok (.iconst 2, 1) := by decide +kernel
theorem dX1_join_72 : decode cX1_join 72 = .ok (.aaload, 1) := by decide +kernel
theorem dX1_join_73 : decode cX1_join 73 = .ok (.iload_n 1, 1) := by decide +kernel
theorem dX1_join_74 : decode cX1_join 74 = .ok (.iaload, 1) := by decide +kernel
theorem dX1_join_75 : decode cX1_join 75 = .ok (.invokevirtual 129, 3) := by decide +kernel
theorem dX1_join_78 : decode cX1_join 78 = .ok (.iinc 1 1, 3) := by decide +kernel
theorem dX1_join_81 : decode cX1_join 81 = .ok (.goto (-46), 3) := by decide +kernel
theorem dX1_join_84 : decode cX1_join 84 = .ok (.iconst 0, 1) := by decide +kernel
theorem dX1_join_85 : decode cX1_join 85 = .ok (.istore_n 1, 1) := by decide +kernel
theorem dX1_join_86 : decode cX1_join 86 = .ok (.iload_n 1, 1) := by decide +kernel
theorem dX1_join_87 : decode cX1_join 87 = .ok (.aload_n 0, 1) := by decide +kernel
theorem dX1_join_88 : decode cX1_join 88 = .ok (.getfield 94, 3) := by decide +kernel
theorem dX1_join_91 : decode cX1_join 91 = .ok (.if_icmp .ge 18, 3) := by decide +kernel
theorem dX1_join_94 : decode cX1_join 94 = .ok (.aload_n 0, 1) := by decide +kernel
theorem dX1_join_95 : decode cX1_join 95 = .ok (.getfield 11, 3) := by decide +kernel
theorem dX1_join_98 : decode cX1_join 98 = .ok (.iload_n 1, 1) := by decide +kernel
theorem dX1_join_99 : decode cX1_join 99 = .ok (.aaload, 1) := by decide +kernel
theorem dX1_join_100 : decode cX1_join 100 = .ok (.invokevirtual 137, 3) := by decide +kernel
theorem dX1_join_103 : decode cX1_join 103 = .ok (.iinc 1 1, 3) := by decide +kernel
theorem dX1_join_106 : decode cX1_join 106 = .ok (.goto (-20), 3) := by decide +kernel
theorem dX1_join_109 : decode cX1_join 109 = .ok (.return_, 1) := by decide +kernel
theorem cwX1_join : mw_cwV yX1_join cX1_join 2 (none) 0 := ⟨⟨wd_3, wd_1132, by decide +kernel⟩, wd_1130, wd_1131⟩
set_option maxHeartbeats 4000000 in
set_option maxRecDepth 100000 in
theorem tX1_join (l : Launch) (G : mwG) (ad : Nat → Nat) (fu : Nat) (M : mwM) (L : mwL) {M0 : mwM} {L0 : mwL} (hD : DX1_join fu M L = some (M0, L0)) : Met l yX1_join (Cond.code yX1_join cX1_join 2 (none) :: GT) ({ frames := 48, cells := 0, slots := 0, locals := 1228 }) (mw_Pre G ad NF TF FF M L [.ref (ad 3)]) (mw_Qv G ad NF TF FF (mw_eqV M0 L0)) 0 0 (mw_fr G) := by
  refine mw_enter (by decide) (Nat.le_of_ble_eq_true rfl) ?_
  intro p e s m below meth c ls C hr hlocks hnm hw hl
  have hl : lv_has ls 2 [(0, .ref (ad 3))] := hl
  have hh86 : ∀ (f : Nat) (v1 : Int32) (M : mwM) (L : mwL) (H : Heap) (locs : List Loc) (ls : Array Slot), fX1_join_h86 fu f (v1, M, L) = some (M0, L0) → mw_W G ad NF TF FF M L H locs → lv_has ls 2 [(0, .ref (ad 3)), (1, .int v1)] → W p l e ({ frames := 48, cells := 0, slots := 0, locals := 1228 }) s m [.ref (ad 3)].toArray below meth c H locs 0 0 (MQ below (mw_Qv G ad NF TF FF (mw_eqV M0 L0)) [.ref (ad 3)].toArray s 0 0 (mw_fr G)) (F0 m 86 ls []) := by
    intro f
    induction f with
    | zero => intro v1 M L H locs ls hD; cases hD
    | succ f86 ih86 =>
      intro v1 M L H locs ls hD hw hl
      replace hD : fX1_join_i86 fu (fX1_join_h86 fu f86) v1 M L = some (M0, L0) := hD
      unfold fX1_join_i86 at hD
      refine lv_iload_n C.1.1 C.1.2.1 dX1_join_86 rfl (lv_at hl 1 rfl) ?_
      refine lv_aload_n C.1.1 C.1.2.1 dX1_join_87 rfl (lv_at hl 0 rfl) ?_
      refine mr_getI C hw kc_1 14 (by decide) tf_3 wd_542 dX1_join_88 (by decide) rfl ?_
      refine lv_icmp_ge (tgt := 109) C.1.1 C.1.2.1 dX1_join_91 (by decide) (fun c10 => ?_) (fun c10 => ?_)
      · replace hD := g_pos c10 hD
        exact mr_vret C hr hlocks hw (Option.some.inj hD) dX1_join_109
      · replace hD := g_neg c10 hD
        refine lv_aload_n C.1.1 C.1.2.1 dX1_join_94 rfl (lv_at hl 0 rfl) ?_
        refine mr_getR C hw kc_1 0 (by decide) tf_3 ff_3_0 wd_510 dX1_join_95 (by decide) rfl ?_
        refine lv_iload_n C.1.1 C.1.2.1 dX1_join_98 rfl (lv_at hl 1 rfl) ?_
        obtain ⟨q11, hD⟩ := g_ck hD
        refine mr_aald C hw (by decide) tf_4 (by decide) (by decide) rfl rfl q11 (fr_4 _ (g_lt q11)) dX1_join_99 ?_
        obtain ⟨M12, L13, h1, hD⟩ := g_b2 hD
        refine md_cvV (As := []) (rest := []) C hw (tX2_findDomains l G ad fu ((293 + 36 * v1.toNatClampNeg)) M L h1 (isCh_of (g_lt q11))) kc_2 (Ch_N0 (isCh_of (g_lt q11))) (Ch_T0 (isCh_of (g_lt q11))) wd_1216 cwX2_findDomains ⟨Nat.le_of_ble_eq_true rfl, Nat.le_of_ble_eq_true rfl⟩ rfl hl.1 (Nat.le_of_ble_eq_true rfl) dX1_join_100 rfl rfl ⟨Nat.zero_le _, Nat.zero_le _⟩ rfl (fun H locs hw => ?_)
        obtain ⟨x14, ex14, hD⟩ := g_let hD
        refine lv_iinc (v := x14) (lv' := [(1, .int x14), (0, .ref (ad 3))]) C.1.1 C.1.2.1 dX1_join_103 hl (k := 1) rfl (by rw [ex14]; rfl) (by decide) rfl (fun ls hl => ?_)
        refine lv_goto (tgt := 86) C.1.1 C.1.2.1 dX1_join_106 (by decide) ?_
        exact ih86 x14 M12 L13 _ _ ls hD hw (lv_sub hl [1, 0] rfl)
  have hh35 : ∀ (f : Nat) (v1 : Int32) (M : mwM) (L : mwL) (H : Heap) (locs : List Loc) (ls : Array Slot), fX1_join_h35 fu f (v1, M, L) = some (M0, L0) → mw_W G ad NF TF FF M L H locs → lv_has ls 2 [(0, .ref (ad 3)), (1, .int v1)] → W p l e ({ frames := 48, cells := 0, slots := 0, locals := 1228 }) s m [.ref (ad 3)].toArray below meth c H locs 0 0 (MQ below (mw_Qv G ad NF TF FF (mw_eqV M0 L0)) [.ref (ad 3)].toArray s 0 0 (mw_fr G)) (F0 m 35 ls []) := by
    intro f
    induction f with
    | zero => intro v1 M L H locs ls hD; cases hD
    | succ f35 ih35 =>
      intro v1 M L H locs ls hD hw hl
      replace hD : fX1_join_i35 fu (fX1_join_h35 fu f35) v1 M L = some (M0, L0) := hD
      have hb78 : ∀ (v1 : Int32) (M : mwM) (L : mwL) (H : Heap) (locs : List Loc) (ls : Array Slot), fX1_join_b78 fu (fX1_join_h35 fu f35) v1 M L = some (M0, L0) → mw_W G ad NF TF FF M L H locs → lv_has ls 2 [(0, .ref (ad 3)), (1, .int v1)] → W p l e ({ frames := 48, cells := 0, slots := 0, locals := 1228 }) s m [.ref (ad 3)].toArray below meth c H locs 0 0 (MQ below (mw_Qv G ad NF TF FF (mw_eqV M0 L0)) [.ref (ad 3)].toArray s 0 0 (mw_fr G)) (F0 m 78 ls []) := by
        intro v1 M L H locs ls hD hw hl
        unfold fX1_join_b78 at hD
        obtain ⟨x9, ex9, hD⟩ := g_let hD
        refine lv_iinc (v := x9) (lv' := [(1, .int x9), (0, .ref (ad 3))]) C.1.1 C.1.2.1 dX1_join_78 hl (k := 1) rfl (by rw [ex9]; rfl) (by decide) rfl (fun ls hl => ?_)
        refine lv_goto (tgt := 35) C.1.1 C.1.2.1 dX1_join_81 (by decide) ?_
        exact ih35 x9 M L _ _ ls hD hw (lv_sub hl [1, 0] rfl)
      unfold fX1_join_i35 at hD
      refine lv_iload_n C.1.1 C.1.2.1 dX1_join_35 rfl (lv_at hl 1 rfl) ?_
      refine lv_aload_n C.1.1 C.1.2.1 dX1_join_36 rfl (lv_at hl 0 rfl) ?_
      refine mr_getR C hw kc_1 3 (by decide) tf_3 ff_3_3 wd_519 dX1_join_37 (by decide) rfl ?_
      refine mr_getNI C hw kc_6 11 (by decide) tf_61 nd_247 dX1_join_40 (by decide) rfl ?_
      refine lv_icmp_ge (tgt := 84) C.1.1 C.1.2.1 dX1_join_43 (by decide) (fun c1 => ?_) (fun c1 => ?_)
      · replace hD := g_pos c1 hD
        refine lv_iconst (v := 0) C.1.1 C.1.2.1 dX1_join_84 (by decide) ?_
        refine lv_istore_n (lv' := [(1, .int 0), (0, .ref (ad 3))]) C.1.1 C.1.2.1 dX1_join_85 rfl hl (by decide) rfl (fun ls hl => ?_)
        exact hh86 fu 0 M L _ _ ls hD hw (lv_sub hl [1, 0] rfl)
      · replace hD := g_neg c1 hD
        refine lv_aload_n C.1.1 C.1.2.1 dX1_join_46 rfl (lv_at hl 0 rfl) ?_
        refine mr_getR C hw kc_1 3 (by decide) tf_3 ff_3_3 wd_519 dX1_join_47 (by decide) rfl ?_
        refine mr_getNR C hw kc_6 1 (by decide) tf_61 ff_61_1 nd_232 dX1_join_50 (by decide) rfl ?_
        refine lv_iconst (v := 2) C.1.1 C.1.2.1 dX1_join_53 (by decide) ?_
        refine mr_aald C hw (by decide) tf_73 (by decide) (by decide) rfl rfl (show vp_in 2 6 from by unfold vp_in; decide) ff_73_2 dX1_join_54 ?_
        refine lv_iload_n C.1.1 C.1.2.1 dX1_join_55 rfl (lv_at hl 1 rfl) ?_
        obtain ⟨q3, hD⟩ := g_ck hD
        refine mr_iald C hw (by decide) tf_76 q3 dX1_join_56 ?_
        refine lv_if_eq (tgt := 78) C.1.1 C.1.2.1 dX1_join_57 (by decide) (fun c4 => ?_) (fun c4 => ?_)
        · replace hD := g_pos c4 hD
          exact hb78 v1 M L _ _ ls hD hw (lv_sub hl [0, 1] rfl)
        · replace hD := g_neg c4 hD
          refine lv_aload_n C.1.1 C.1.2.1 dX1_join_60 rfl (lv_at hl 0 rfl) ?_
          refine mr_getR C hw kc_1 4 (by decide) tf_3 ff_3_4 wd_522 dX1_join_61 (by decide) rfl ?_
          refine lv_aload_n C.1.1 C.1.2.1 dX1_join_64 rfl (lv_at hl 0 rfl) ?_
          refine mr_getR C hw kc_1 3 (by decide) tf_3 ff_3_3 wd_519 dX1_join_65 (by decide) rfl ?_
          refine mr_getNR C hw kc_6 1 (by decide) tf_61 ff_61_1 nd_232 dX1_join_68 (by decide) rfl ?_
          refine lv_iconst (v := 2) C.1.1 C.1.2.1 dX1_join_71 (by decide) ?_
          refine mr_aald C hw (by decide) tf_73 (by decide) (by decide) rfl rfl (show vp_in 2 6 from by unfold vp_in; decide) ff_73_2 dX1_join_72 ?_
          refine lv_iload_n C.1.1 C.1.2.1 dX1_join_73 rfl (lv_at hl 1 rfl) ?_
          obtain ⟨q6, hD⟩ := g_ck hD
          refine mr_iald C hw (by decide) tf_76 q6 dX1_join_74 ?_
          obtain ⟨M7, L8, h1, hD⟩ := g_b2 hD
          refine md_cvV (As := [.int (M 76 v1.toNatClampNeg)]) (rest := []) C hw (tX3_learn l G ad fu (M 76 v1.toNatClampNeg) M L h1) kc_3 (by decide) tf_97 wd_1200 cwX3_learn ⟨Nat.le_of_ble_eq_true rfl, Nat.le_of_ble_eq_true rfl⟩ rfl hl.1 (Nat.le_of_ble_eq_true rfl) dX1_join_75 rfl rfl ⟨Nat.zero_le _, Nat.zero_le _⟩ rfl (fun H locs hw => ?_)
          exact hb78 v1 M7 L8 _ _ ls hD hw (lv_sub hl [0, 1] rfl)
  unfold DX1_join at hD
  refine lv_aload_n C.1.1 C.1.2.1 dX1_join_0 rfl (lv_at hl 0 rfl) ?_
  refine mr_getR C hw kc_1 3 (by decide) tf_3 ff_3_3 wd_519 dX1_join_1 (by decide) rfl ?_
  refine lv_aload_n C.1.1 C.1.2.1 dX1_join_4 rfl (lv_at hl 0 rfl) ?_
  refine mr_getI C hw kc_1 13 (by decide) tf_3 wd_539 dX1_join_5 (by decide) rfl ?_
  obtain ⟨M15, L16, h1, hD⟩ := g_b2 hD
  refine md_cvV (As := [.int (M 3 13)]) (rest := []) C hw (tX6_pack l G ad fu (M 3 13) M L h1) kc_6 (by decide) tf_61 wd_1133 cwX6_pack ⟨Nat.le_of_ble_eq_true rfl, Nat.le_of_ble_eq_true rfl⟩ rfl hl.1 (Nat.le_of_ble_eq_true rfl) dX1_join_8 rfl rfl ⟨Nat.zero_le _, Nat.zero_le _⟩ rfl (fun H locs hw => ?_)
  refine lv_aload_n C.1.1 C.1.2.1 dX1_join_11 rfl (lv_at hl 0 rfl) ?_
  refine mr_getR C hw kc_1 2 (by decide) tf_3 ff_3_2 wd_517 dX1_join_12 (by decide) rfl ?_
  refine lv_aload_n C.1.1 C.1.2.1 dX1_join_15 rfl (lv_at hl 0 rfl) ?_
  refine mr_getI C hw kc_1 13 (by decide) tf_3 wd_539 dX1_join_16 (by decide) rfl ?_
  refine lv_iconst (v := 1) C.1.1 C.1.2.1 dX1_join_19 (by decide) ?_
  refine lv_iadd C.1.1 C.1.2.1 dX1_join_20 ?_
  obtain ⟨M17, L18, h1, hD⟩ := g_b2 hD
  refine md_cvV (As := [.int ((M15 3 13) + 1)]) (rest := []) C hw (tX0_begin l G ad fu ((M15 3 13) + 1) M15 L16 h1) kc_0 (by decide) tf_20 wd_1195 cwX0_begin ⟨Nat.le_of_ble_eq_true rfl, Nat.le_of_ble_eq_true rfl⟩ rfl hl.1 (Nat.le_of_ble_eq_true rfl) dX1_join_21 rfl rfl ⟨Nat.zero_le _, Nat.zero_le _⟩ rfl (fun H locs hw => ?_)
  refine lv_aload_n C.1.1 C.1.2.1 dX1_join_24 rfl (lv_at hl 0 rfl) ?_
  refine mr_getR C hw kc_1 4 (by decide) tf_3 ff_3_4 wd_522 dX1_join_25 (by decide) rfl ?_
  refine lv_bipush (v := 16) C.1.1 C.1.2.1 dX1_join_28 (by decide) ?_
  obtain ⟨M19, L20, h1, hD⟩ := g_b2 hD
  refine md_cvV (As := [.int 16]) (rest := []) C hw (tX3_learn l G ad fu 16 M17 L18 h1) kc_3 (by decide) tf_97 wd_1200 cwX3_learn ⟨Nat.le_of_ble_eq_true rfl, Nat.le_of_ble_eq_true rfl⟩ rfl hl.1 (Nat.le_of_ble_eq_true rfl) dX1_join_30 rfl rfl ⟨Nat.zero_le _, Nat.zero_le _⟩ rfl (fun H locs hw => ?_)
  refine lv_iconst (v := 0) C.1.1 C.1.2.1 dX1_join_33 (by decide) ?_
  refine lv_istore_n (lv' := [(1, .int 0), (0, .ref (ad 3))]) C.1.1 C.1.2.1 dX1_join_34 rfl hl (by decide) rfl (fun ls hl => ?_)
  exact hh35 fu 0 M19 L20 _ _ ls hD hw (lv_sub hl [1, 0] rfl)

theorem dX1_sendFrame_0 : decode cX1_sendFrame 0 = .ok (.aload_n 0, 1) := by decide +kernel
theorem dX1_sendFrame_1 : decode cX1_sendFrame 1 = .ok (.getfield 34, 3) := by decide +kernel
theorem dX1_sendFrame_4 : decode cX1_sendFrame 4 = .ok (.iload_n 1, 1) := by decide +kernel
theorem dX1_sendFrame_5 : decode cX1_sendFrame 5 = .ok (.aload_n 0, 1) := by decide +kernel
theorem dX1_sendFrame_6 : decode cX1_sendFrame 6 = .ok (.getfield 11, 3) := by decide +kernel
theorem dX1_sendFrame_9 : decode cX1_sendFrame 9 = .ok (.invokevirtual 178, 3) := by decide +kernel
theorem dX1_sendFrame_12 : decode cX1_sendFrame 12 = .ok (.aload_n 0, 1) := by decide +kernel
theorem dX1_sendFrame_13 : decode cX1_sendFrame 13 = .ok (.getfield 34, 3) := by decide +kernel
theorem dX1_sendFrame_16 : decode cX1_sendFrame 16 = .ok (.getfield 134, 3) := by decide +kernel
theorem dX1_sendFrame_19 : decode cX1_sendFrame 19 = .ok (.iconst 2, 1) := by decide +kernel
theorem dX1_sendFrame_20 : decode cX1_sendFrame 20 = .ok (.aaload, 1) := by decide +kernel
theorem dX1_sendFrame_21 : decode cX1_sendFrame 21 = .ok (.iload_n 1, 1) := by decide +kernel
theorem dX1_sendFrame_22 : decode cX1_sendFrame 22 = .ok (.iaload, 1) := by decide +kernel
theorem dX1_sendFrame_23 : decode cX1_sendFrame 23 = .ok (.ifCond .eq 15, 3) := by decide +kernel
theorem dX1_sendFrame_26 : decode cX1_sendFrame 26 = .ok (.aload_n 0, 1) := by decide +kernel
theorem dX1_sendFrame_27 : decode cX1_sendFrame 27 = .ok (.getfield 34, 3) := by decide +kernel
theorem dX1_sendFrame_30 : decode cX1_sendFrame 30 = .ok (.iload_n 1, 1) := by decide +kernel
theorem dX1_sendFrame_31 : decode cX1_sendFrame 31 = .ok (.aload_n 0, 1) := by decide +kernel
theorem dX1_sendFrame_32 : decode cX1_sendFrame 32 = .ok (.getfield 41, 3) := by decide +kernel
theorem dX1_sendFrame_35 : decode cX1_sendFrame 35 = .ok (.invokevirtual 182, 3) := by decide +kernel
theorem dX1_sendFrame_38 : decode cX1_sendFrame 38 = .ok (.aload_n 0, 1) := by decide +kernel
theorem dX1_sendFrame_39 : decode cX1_sendFrame 39 = .ok (.getfield 27, 3) := by decide +kernel
theorem dX1_sendFrame_42 : decode cX1_sendFrame 42 = .ok (.aload_n 0, 1) := by decide +kernel
theorem dX1_sendFrame_43 : decode cX1_sendFrame 43 = .ok (.getfield 34, 3) := by decide +kernel
theorem dX1_sendFrame_46 : decode cX1_sendFrame 46 = .ok (.getfield 134, 3) := by decide +kernel
theorem dX1_sendFrame_49 : decode cX1_sendFrame 49 = .ok (.iconst 0, 1) := by decide +kernel
theorem dX1_sendFrame_50 : decode cX1_sendFrame 50 = .ok (.aaload, 1) := by decide +kernel
theorem dX1_sendFrame_51 : decode cX1_sendFrame 51 = .ok (.iload_n 1, 1) := by decide +kernel
theorem dX1_sendFrame_52 : decode cX1_sendFrame 52 = .ok (.iaload, 1) := by decide +kernel
theorem dX1_sendFrame_53 : decode cX1_sendFrame 53 = .ok (.aload_n 0, 1) := by decide +kernel
theorem dX1_sendFrame_54 : decode cX1_sendFrame 54 = .ok (.getfield 34, 3) := by decide +kernel
theorem dX1_sendFrame_57 : decode cX1_sendFrame 57 = .ok (.iload_n 1, 1) := by decide +kernel
theorem dX1_sendFrame_58 : decode cX1_sendFrame 58 = .ok (.invokevirtual 186, 3) := by decide +kernel
theorem dX1_sendFrame_61 : decode cX1_sendFrame 61 = .ok (.aload_n 0, 1) := by decide +kernel
theorem dX1_sendFrame_62 : decode cX1_sendFrame 62 = .ok (.getfield 34, 3) := by decide +kernel
theorem dX1_sendFrame_65 : decode cX1_sendFrame 65 = .ok (.getfield 190, 3) := by decide +kernel
theorem dX1_sendFrame_68 : decode cX1_sendFrame 68 = .ok (.invokevirtual 193, 3) := by decide +kernel
theorem dX1_sendFrame_71 : decode cX1_sendFrame 71 = .ok (.ifCond .ne 13, 3) := by decide +kernel
theorem dX1_sendFrame_74 : decode cX1_sendFrame 74 = .ok (.aload_n 0, 1) := by decide +kernel
theorem dX1_sendFrame_75 : decode cX1_sendFrame 75 = .ok (.getfield 83, 3) := by decide +kernel
theorem dX1_sendFrame_78 : decode cX1_sendFrame 78 = .ok (.iconst 0, 1) := by decide +kernel
theorem dX1_sendFrame_79 : decode cX1_sendFrame 79 = .ok (.dup2, 1) := by decide +kernel
theorem dX1_sendFrame_80 : decode cX1_sendFrame 80 = .ok (.iaload, 1) := by decide +kernel
theorem dX1_sendFrame_81 : decode cX1_sendFrame 81 = .ok (.iconst 1, 1) := by decide +kernel
theorem dX1_sendFrame_82 : decode cX1_sendFrame 82 = .ok (.iadd, 1) := by decide +kernel
theorem dX1_sendFrame_83 : decode cX1_sendFrame 83 = .ok (.iastore, 1) := by decide +kernel
theorem dX1_sendFrame_84 : decode cX1_sendFrame 84 = .ok (.return_, 1) := by decide +kernel
theorem cwX1_sendFrame : mw_cwV yX1_sendFrame cX1_sendFrame 2 (none) 1 := ⟨⟨wd_3, wd_1306, by decide +kernel⟩, wd_1305, sl_66⟩
set_option maxHeartbeats 4000000 in
set_option maxRecDepth 100000 in
theorem tX1_sendFrame (l : Launch) (G : mwG) (ad : Nat → Nat) (fu : Nat) (a1 : Int32) (M : mwM) (L : mwL) {M0 : mwM} {L0 : mwL} (hD : DX1_sendFrame fu a1 M L = some (M0, L0)) : Met l yX1_sendFrame (Cond.code yX1_sendFrame cX1_sendFrame 2 (none) :: GT) ({ frames := 4, cells := 0, slots := 0, locals := 102 }) (mw_Pre G ad NF TF FF M L [.ref (ad 3), .int a1]) (mw_Qv G ad NF TF FF (mw_eqV M0 L0)) 0 0 (mw_fr G) := by
  refine mw_enter (by decide) (Nat.le_of_ble_eq_true rfl) ?_
  intro p e s m below meth c ls C hr hlocks hnm hw hl
  have hl : lv_has ls 2 [(0, .ref (ad 3)), (1, .int a1)] := hl
  have hb84 : ∀ (M : mwM) (L : mwL) (H : Heap) (locs : List Loc) (ls : Array Slot), fX1_sendFrame_b84 fu a1 M L = some (M0, L0) → mw_W G ad NF TF FF M L H locs → lv_has ls 2 [] → W p l e ({ frames := 4, cells := 0, slots := 0, locals := 102 }) s m [.ref (ad 3), .int a1].toArray below meth c H locs 0 0 (MQ below (mw_Qv G ad NF TF FF (mw_eqV M0 L0)) [.ref (ad 3), .int a1].toArray s 0 0 (mw_fr G)) (F0 m 84 ls []) := by
    intro M L H locs ls hD hw hl
    unfold fX1_sendFrame_b84 at hD
    exact mr_vret C hr hlocks hw (Option.some.inj hD) dX1_sendFrame_84
  have hb38 : ∀ (M : mwM) (L : mwL) (H : Heap) (locs : List Loc) (ls : Array Slot), fX1_sendFrame_b38 fu a1 M L = some (M0, L0) → mw_W G ad NF TF FF M L H locs → lv_has ls 2 [(0, .ref (ad 3)), (1, .int a1)] → W p l e ({ frames := 4, cells := 0, slots := 0, locals := 102 }) s m [.ref (ad 3), .int a1].toArray below meth c H locs 0 0 (MQ below (mw_Qv G ad NF TF FF (mw_eqV M0 L0)) [.ref (ad 3), .int a1].toArray s 0 0 (mw_fr G)) (F0 m 38 ls []) := by
    intro M L H locs ls hD hw hl
    unfold fX1_sendFrame_b38 at hD
    refine lv_aload_n C.1.1 C.1.2.1 dX1_sendFrame_38 rfl (lv_at hl 0 rfl) ?_
    refine mr_getR C hw kc_1 2 (by decide) tf_3 ff_3_2 wd_517 dX1_sendFrame_39 (by decide) rfl ?_
    refine lv_aload_n C.1.1 C.1.2.1 dX1_sendFrame_42 rfl (lv_at hl 0 rfl) ?_
    refine mr_getR C hw kc_1 3 (by decide) tf_3 ff_3_3 wd_519 dX1_sendFrame_43 (by decide) rfl ?_
    refine mr_getNR C hw kc_6 1 (by decide) tf_61 ff_61_1 nd_232 dX1_sendFrame_46 (by decide) rfl ?_
    refine lv_iconst (v := 0) C.1.1 C.1.2.1 dX1_sendFrame_49 (by decide) ?_
    refine mr_aald C hw (by decide) tf_73 (by decide) (by decide) rfl rfl (show vp_in 0 6 from by unfold vp_in; decide) ff_73_0 dX1_sendFrame_50 ?_
    refine lv_iload_n C.1.1 C.1.2.1 dX1_sendFrame_51 rfl (lv_at hl 1 rfl) ?_
    obtain ⟨q2, hD⟩ := g_ck hD
    refine mr_iald C hw (by decide) tf_74 q2 dX1_sendFrame_52 ?_
    refine lv_aload_n C.1.1 C.1.2.1 dX1_sendFrame_53 rfl (lv_at hl 0 rfl) ?_
    refine mr_getR C hw kc_1 3 (by decide) tf_3 ff_3_3 wd_519 dX1_sendFrame_54 (by decide) rfl ?_
    refine lv_iload_n C.1.1 C.1.2.1 dX1_sendFrame_57 rfl (lv_at hl 1 rfl) ?_
    obtain ⟨r5, M3, L4, h1, hD⟩ := g_b3 hD
    refine md_cvI (As := [.int a1]) (rest := [.int (M 74 a1.toNatClampNeg), .ref (ad 20)]) C hw (tX6_identifierOf l G ad fu a1 M L h1) kc_6 (by decide) tf_61 wd_1331 cwX6_identifierOf ⟨Nat.le_of_ble_eq_true rfl, Nat.le_of_ble_eq_true rfl⟩ rfl hl.1 (Nat.le_of_ble_eq_true rfl) dX1_sendFrame_58 rfl rfl ⟨Nat.zero_le _, Nat.zero_le _⟩ rfl (fun H locs hw => ?_)
    refine lv_aload_n C.1.1 C.1.2.1 dX1_sendFrame_61 rfl (lv_at hl 0 rfl) ?_
    refine mr_getR C hw kc_1 3 (by decide) tf_3 ff_3_3 wd_519 dX1_sendFrame_62 (by decide) rfl ?_
    refine mr_getNR C hw kc_6 8 (by decide) tf_61 ff_61_8 nd_241 dX1_sendFrame_65 (by decide) rfl ?_
    obtain ⟨r8, M6, L7, h1, hD⟩ := g_b3 hD
    refine md_cvI (As := [.int (M 74 a1.toNatClampNeg), .int r5, .ref (ad 95)]) (rest := []) C hw (tX0_send l G ad fu (M 74 a1.toNatClampNeg) r5 95 8 M3 L4 h1 (by decide) tf_95) kc_0 (by decide) tf_20 wd_1332 cwX0_send ⟨Nat.le_of_ble_eq_true rfl, Nat.le_of_ble_eq_true rfl⟩ rfl hl.1 (Nat.le_of_ble_eq_true rfl) dX1_sendFrame_68 rfl rfl ⟨Nat.zero_le _, Nat.zero_le _⟩ rfl (fun H locs hw => ?_)
    refine lv_if_ne (tgt := 84) C.1.1 C.1.2.1 dX1_sendFrame_71 (by decide) (fun c9 => ?_) (fun c9 => ?_)
    · replace hD := g_neg c9 hD
      exact hb84 M6 L7 _ _ ls hD hw (lv_sub hl [] rfl)
    · replace hD := g_pos c9 hD
      refine lv_aload_n C.1.1 C.1.2.1 dX1_sendFrame_74 rfl (lv_at hl 0 rfl) ?_
      refine mr_getR C hw kc_1 12 (by decide) tf_3 ff_3_12 wd_537 dX1_sendFrame_75 (by decide) rfl ?_
      refine lv_iconst (v := 0) C.1.1 C.1.2.1 dX1_sendFrame_78 (by decide) ?_
      refine lv_dup2_11 C.1.1 C.1.2.1 dX1_sendFrame_79 rfl rfl ?_
      refine mr_iald C hw (by decide) tf_292 (show vp_in 0 5 from by unfold vp_in; decide) dX1_sendFrame_80 ?_
      refine lv_iconst (v := 1) C.1.1 C.1.2.1 dX1_sendFrame_81 (by decide) ?_
      refine lv_iadd C.1.1 C.1.2.1 dX1_sendFrame_82 ?_
      obtain ⟨M12, eM12, hD⟩ := g_let hD
      refine mr_iast C hw (by decide) tf_292 (show vp_in 0 5 from by unfold vp_in; decide) dX1_sendFrame_83 (fun H locs hw => ?_)
      replace hw : mw_W G ad NF TF FF M12 L7 H locs := by rw [eM12]; exact hw
      exact hb84 M12 L7 _ _ ls hD hw (lv_sub hl [] rfl)
  unfold DX1_sendFrame at hD
  refine lv_aload_n C.1.1 C.1.2.1 dX1_sendFrame_0 rfl (lv_at hl 0 rfl) ?_
  refine mr_getR C hw kc_1 3 (by decide) tf_3 ff_3_3 wd_519 dX1_sendFrame_1 (by decide) rfl ?_
  refine lv_iload_n C.1.1 C.1.2.1 dX1_sendFrame_4 rfl (lv_at hl 1 rfl) ?_
  refine lv_aload_n C.1.1 C.1.2.1 dX1_sendFrame_5 rfl (lv_at hl 0 rfl) ?_
  refine mr_getR C hw kc_1 0 (by decide) tf_3 ff_3_0 wd_510 dX1_sendFrame_6 (by decide) rfl ?_
  obtain ⟨M13, L14, h1, hD⟩ := g_b2 hD
  refine md_cvV (As := [.int a1, .ref (ad 4)]) (rest := []) C hw (tX6_fill l G ad fu a1 M L h1) kc_6 (by decide) tf_61 wd_1307 cwX6_fill ⟨Nat.le_of_ble_eq_true rfl, Nat.le_of_ble_eq_true rfl⟩ rfl hl.1 (Nat.le_of_ble_eq_true rfl) dX1_sendFrame_9 rfl rfl ⟨Nat.zero_le _, Nat.zero_le _⟩ rfl (fun H locs hw => ?_)
  refine lv_aload_n C.1.1 C.1.2.1 dX1_sendFrame_12 rfl (lv_at hl 0 rfl) ?_
  refine mr_getR C hw kc_1 3 (by decide) tf_3 ff_3_3 wd_519 dX1_sendFrame_13 (by decide) rfl ?_
  refine mr_getNR C hw kc_6 1 (by decide) tf_61 ff_61_1 nd_232 dX1_sendFrame_16 (by decide) rfl ?_
  refine lv_iconst (v := 2) C.1.1 C.1.2.1 dX1_sendFrame_19 (by decide) ?_
  refine mr_aald C hw (by decide) tf_73 (by decide) (by decide) rfl rfl (show vp_in 2 6 from by unfold vp_in; decide) ff_73_2 dX1_sendFrame_20 ?_
  refine lv_iload_n C.1.1 C.1.2.1 dX1_sendFrame_21 rfl (lv_at hl 1 rfl) ?_
  obtain ⟨q16, hD⟩ := g_ck hD
  refine mr_iald C hw (by decide) tf_76 q16 dX1_sendFrame_22 ?_
  refine lv_if_eq (tgt := 38) C.1.1 C.1.2.1 dX1_sendFrame_23 (by decide) (fun c17 => ?_) (fun c17 => ?_)
  · replace hD := g_pos c17 hD
    exact hb38 M13 L14 _ _ ls hD hw (lv_sub hl [0, 1] rfl)
  · replace hD := g_neg c17 hD
    refine lv_aload_n C.1.1 C.1.2.1 dX1_sendFrame_26 rfl (lv_at hl 0 rfl) ?_
    refine mr_getR C hw kc_1 3 (by decide) tf_3 ff_3_3 wd_519 dX1_sendFrame_27 (by decide) rfl ?_
    refine lv_iload_n C.1.1 C.1.2.1 dX1_sendFrame_30 rfl (lv_at hl 1 rfl) ?_
    refine lv_aload_n C.1.1 C.1.2.1 dX1_sendFrame_31 rfl (lv_at hl 0 rfl) ?_
    refine mr_getR C hw kc_1 4 (by decide) tf_3 ff_3_4 wd_522 dX1_sendFrame_32 (by decide) rfl ?_
    obtain ⟨M18, L19, h1, hD⟩ := g_b2 hD
    refine md_cvV (As := [.int a1, .ref (ad 97)]) (rest := []) C hw (tX6_seal l G ad fu a1 M13 L14 h1) kc_6 (by decide) tf_61 wd_1319 cwX6_seal ⟨Nat.le_of_ble_eq_true rfl, Nat.le_of_ble_eq_true rfl⟩ rfl hl.1 (Nat.le_of_ble_eq_true rfl) dX1_sendFrame_35 rfl rfl ⟨Nat.zero_le _, Nat.zero_le _⟩ rfl (fun H locs hw => ?_)
    exact hb38 M18 L19 _ _ ls hD hw (lv_sub hl [0, 1] rfl)

theorem dX1_sendFrames_0 : decode cX1_sendFrames 0 = .ok (.iload_n 1, 1) := by decide +kernel
theorem dX1_sendFrames_1 : decode cX1_sendFrames 1 = .ok (.aload_n 0, 1) := by decide +kernel
theorem dX1_sendFrames_2 : decode cX1_sendFrames 2 = .ok (.getfield 34, 3) := by decide +kernel
theorem dX1_sendFrames_5 : decode cX1_sendFrames 5 = .ok (.getfield 165, 3) := by decide +kernel
theorem dX1_sendFrames_8 : decode cX1_sendFrames 8 = .ok (.if_icmp .ge 4, 3) := by decide +kernel
theorem dX1_sendFrames_11 : decode cX1_sendFrames 11 = .ok (.return_, 1) := by decide +kernel
theorem dX1_sendFrames_12 : decode cX1_sendFrames 12 = .ok (.iconst 0, 1) := by decide +kernel
theorem dX1_sendFrames_13 : decode cX1_sendFrames 13 = .ok (.istore_n 2, 1) := by decide +kernel
theorem dX1_sendFrames_14 : decode cX1_sendFrames 14 = .ok (.iload_n 2, 1) := by decide +kernel
theorem dX1_sendFrames_15 : decode cX1_sendFrames 15 = .ok (.aload_n 0, 1) := by decide +kernel
theorem dX1_sendFrames_16 : decode cX1_sendFrames 16 = .ok (.getfield 34, 3) := by decide +kernel
theorem dX1_sendFrames_19 : decode cX1_sendFrames 19 = .ok (.getfield 132, 3) := by decide +kernel
theorem dX1_sendFrames_22 : decode cX1_sendFrames 22 = .ok (.if_icmp .ge 45, 3) := by decide +kernel
theorem dX1_sendFrames_25 : decode cX1_sendFrames 25 = .ok (.aload_n 0, 1) := by decide +kernel
theorem dX1_sendFrames_26 : decode cX1_sendFrames 26 = .ok (.getfield 34, 3) := by decide +kernel
theorem dX1_sendFrames_29 : decode cX1_sendFrames 29 = .ok (.iload_n 2, 1) := by decide +kernel
theorem dX1_sendFrames_30 : decode cX1_sendFrames 30 = .ok (.iload_n 1, 1) := by decide +kernel
theorem dX1_sendFrames_31 : decode cX1_sendFrames 31 = .ok (.invokevirtual 168, 3) := by decide +kernel
theorem dX1_sendFrames_34 : decode cX1_sendFrames 34 = .ok (.ifCond .eq 27, 3) := by decide +kernel
theorem dX1_sendFrames_37 : decode cX1_sendFrames 37 = .ok (.aload_n 0, 1) := by decide +kernel
theorem dX1_sendFrames_38 : decode cX1_sendFrames 38 = .ok (.getfield 70, 3) := by decide +kernel
theorem dX1_sendFrames_41 : decode cX1_sendFrames 41 = .ok (.aload_n 0, 1) := by decide +kernel
theorem dX1_sendFrames_42 : decode cX1_sendFrames 42 = .ok (.getfield 34, 3) := by decide +kernel
theorem dX1_sendFrames_45 : decode cX1_sendFrames 45 = .ok (.getfield 134, 3) := by decide +kernel
theorem dX1_sendFrames_48 : decode cX1_sendFrames 48 = .ok (.iconst 0, 1) := by decide +kernel
theorem dX1_sendFrames_49 : decode cX1_sendFrames 49 = .ok (.aaload, 1) := by decide +kernel
theorem dX1_sendFrames_50 : decode cX1_sendFrames 50 = .ok (.iload_n 2, 1) := by decide +kernel
theorem dX1_sendFrames_51 : decode cX1_sendFrames 51 = .ok (.iaload, 1) := by decide +kernel
theorem dX1_sendFrames_52 : decode cX1_sendFrames 52 = .ok (.baload, 1) := by decide +kernel
theorem dX1_sendFrames_53 : decode cX1_sendFrames 53 = .ok (.ifCond .ne 8, 3) := by decide +kernel
theorem dX1_sendFrames_56 : decode cX1_sendFrames 56 = .ok (.aload_n 0, 1) := by decide +kernel
theorem dX1_sendFrames_57 : decode cX1_sendFrames 57 = .ok (.iload_n 2, 1) := by decide +kernel
theorem dX1_sendFrames_58 : decode cX1_sendFrames 58 = .ok (.invokevirtual 172, 3) := by decide +kernel
theorem dX1_sendFrames_61 : decode cX1_sendFrames 61 = .ok (.iinc 2 1, 3) := by decide +kernel
theorem dX1_sendFrames_64 : decode cX1_sendFrames 64 = .ok (.goto (-50), 3) := by decide +kernel
theorem dX1_sendFrames_67 : decode cX1_sendFrames 67 = .ok (.aload_n 0, 1) := by decide +kernel
theorem dX1_sendFrames_68 : decode cX1_sendFrames 68 = .ok (.getfield 34, 3) := by decide +kernel
theorem dX1_sendFrames_71 : decode cX1_sendFrames 71 = .ok (.invokevirtual 175, 3) := by decide +kernel
theorem dX1_sendFrames_74 : decode cX1_sendFrames 74 = .ok (.return_, 1) := by decide +kernel
theorem cwX1_sendFrames : mw_cwV yX1_sendFrames cX1_sendFrames 3 (none) 1 := ⟨⟨wd_3, wd_1298, by decide +kernel⟩, wd_1297, sl_65⟩
set_option maxHeartbeats 4000000 in
set_option maxRecDepth 100000 in
theorem tX1_sendFrames (l : Launch) (G : mwG) (ad : Nat → Nat) (fu : Nat) (a1 : Int32) (M : mwM) (L : mwL) {M0 : mwM} {L0 : mwL} (hD : DX1_sendFrames fu a1 M L = some (M0, L0)) : Met l yX1_sendFrames (Cond.code yX1_sendFrames cX1_sendFrames 3 (none) :: GT) ({ frames := 5, cells := 0, slots := 0, locals := 123 }) (mw_Pre G ad NF TF FF M L [.ref (ad 3), .int a1]) (mw_Qv G ad NF TF FF (mw_eqV M0 L0)) 0 0 (mw_fr G) := by
  refine mw_enter (by decide) (Nat.le_of_ble_eq_true rfl) ?_
  intro p e s m below meth c ls C hr hlocks hnm hw hl
  have hl : lv_has ls 3 [(0, .ref (ad 3)), (1, .int a1)] := hl
  have hh14 : ∀ (f : Nat) (v2 : Int32) (M : mwM) (L : mwL) (H : Heap) (locs : List Loc) (ls : Array Slot), fX1_sendFrames_h14 fu a1 f (v2, M, L) = some (M0, L0) → mw_W G ad NF TF FF M L H locs → lv_has ls 3 [(0, .ref (ad 3)), (1, .int a1), (2, .int v2)] → W p l e ({ frames := 5, cells := 0, slots := 0, locals := 123 }) s m [.ref (ad 3), .int a1].toArray below meth c H locs 0 0 (MQ below (mw_Qv G ad NF TF FF (mw_eqV M0 L0)) [.ref (ad 3), .int a1].toArray s 0 0 (mw_fr G)) (F0 m 14 ls []) := by
    intro f
    induction f with
    | zero => intro v2 M L H locs ls hD; cases hD
    | succ f14 ih14 =>
      intro v2 M L H locs ls hD hw hl
      replace hD : fX1_sendFrames_i14 fu a1 (fX1_sendFrames_h14 fu a1 f14) v2 M L = some (M0, L0) := hD
      have hb61 : ∀ (v2 : Int32) (M : mwM) (L : mwL) (H : Heap) (locs : List Loc) (ls : Array Slot), fX1_sendFrames_b61 fu a1 (fX1_sendFrames_h14 fu a1 f14) v2 M L = some (M0, L0) → mw_W G ad NF TF FF M L H locs → lv_has ls 3 [(0, .ref (ad 3)), (1, .int a1), (2, .int v2)] → W p l e ({ frames := 5, cells := 0, slots := 0, locals := 123 }) s m [.ref (ad 3), .int a1].toArray below meth c H locs 0 0 (MQ below (mw_Qv G ad NF TF FF (mw_eqV M0 L0)) [.ref (ad 3), .int a1].toArray s 0 0 (mw_fr G)) (F0 m 61 ls []) := by
        intro v2 M L H locs ls hD hw hl
        unfold fX1_sendFrames_b61 at hD
        obtain ⟨x14, ex14, hD⟩ := g_let hD
        refine lv_iinc (v := x14) (lv' := [(2, .int x14), (0, .ref (ad 3)), (1, .int a1)]) C.1.1 C.1.2.1 dX1_sendFrames_61 hl (k := 2) rfl (by rw [ex14]; rfl) (by decide) rfl (fun ls hl => ?_)
        refine lv_goto (tgt := 14) C.1.1 C.1.2.1 dX1_sendFrames_64 (by decide) ?_
        exact ih14 x14 M L _ _ ls hD hw (lv_sub hl [1, 2, 0] rfl)
      unfold fX1_sendFrames_i14 at hD
      refine lv_iload_n C.1.1 C.1.2.1 dX1_sendFrames_14 rfl (lv_at hl 2 rfl) ?_
      refine lv_aload_n C.1.1 C.1.2.1 dX1_sendFrames_15 rfl (lv_at hl 0 rfl) ?_
      refine mr_getR C hw kc_1 3 (by decide) tf_3 ff_3_3 wd_519 dX1_sendFrames_16 (by decide) rfl ?_
      refine mr_getNI C hw kc_6 11 (by decide) tf_61 nd_247 dX1_sendFrames_19 (by decide) rfl ?_
      refine lv_icmp_ge (tgt := 67) C.1.1 C.1.2.1 dX1_sendFrames_22 (by decide) (fun c1 => ?_) (fun c1 => ?_)
      · replace hD := g_pos c1 hD
        refine lv_aload_n C.1.1 C.1.2.1 dX1_sendFrames_67 rfl (lv_at hl 0 rfl) ?_
        refine mr_getR C hw kc_1 3 (by decide) tf_3 ff_3_3 wd_519 dX1_sendFrames_68 (by decide) rfl ?_
        obtain ⟨M2, L3, h1, hD⟩ := g_b2 hD
        refine md_cvV (As := []) (rest := []) C hw (tX6_findSoonest l G ad fu M L h1) kc_6 (by decide) tf_61 wd_1336 cwX6_findSoonest ⟨Nat.le_of_ble_eq_true rfl, Nat.le_of_ble_eq_true rfl⟩ rfl hl.1 (Nat.le_of_ble_eq_true rfl) dX1_sendFrames_71 rfl rfl ⟨Nat.zero_le _, Nat.zero_le _⟩ rfl (fun H locs hw => ?_)
        exact mr_vret C hr hlocks hw (Option.some.inj hD) dX1_sendFrames_74
      · replace hD := g_neg c1 hD
        refine lv_aload_n C.1.1 C.1.2.1 dX1_sendFrames_25 rfl (lv_at hl 0 rfl) ?_
        refine mr_getR C hw kc_1 3 (by decide) tf_3 ff_3_3 wd_519 dX1_sendFrames_26 (by decide) rfl ?_
        refine lv_iload_n C.1.1 C.1.2.1 dX1_sendFrames_29 rfl (lv_at hl 2 rfl) ?_
        refine lv_iload_n C.1.1 C.1.2.1 dX1_sendFrames_30 rfl (lv_at hl 1 rfl) ?_
        obtain ⟨r6, M4, L5, h1, hD⟩ := g_b3 hD
        refine md_cvI (As := [.int v2, .int a1]) (rest := []) C hw (tX6_takeTurn l G ad fu v2 a1 M L h1) kc_6 (by decide) tf_61 wd_1299 cwX6_takeTurn ⟨Nat.le_of_ble_eq_true rfl, Nat.le_of_ble_eq_true rfl⟩ rfl hl.1 (Nat.le_of_ble_eq_true rfl) dX1_sendFrames_31 rfl rfl ⟨Nat.zero_le _, Nat.zero_le _⟩ rfl (fun H locs hw => ?_)
        refine lv_if_eq (tgt := 61) C.1.1 C.1.2.1 dX1_sendFrames_34 (by decide) (fun c7 => ?_) (fun c7 => ?_)
        · replace hD := g_pos c7 hD
          exact hb61 v2 M4 L5 _ _ ls hD hw (lv_sub hl [0, 1, 2] rfl)
        · replace hD := g_neg c7 hD
          refine lv_aload_n C.1.1 C.1.2.1 dX1_sendFrames_37 rfl (lv_at hl 0 rfl) ?_
          refine mr_getR C hw kc_1 9 (by decide) tf_3 ff_3_9 wd_533 dX1_sendFrames_38 (by decide) rfl ?_
          refine lv_aload_n C.1.1 C.1.2.1 dX1_sendFrames_41 rfl (lv_at hl 0 rfl) ?_
          refine mr_getR C hw kc_1 3 (by decide) tf_3 ff_3_3 wd_519 dX1_sendFrames_42 (by decide) rfl ?_
          refine mr_getNR C hw kc_6 1 (by decide) tf_61 ff_61_1 nd_232 dX1_sendFrames_45 (by decide) rfl ?_
          refine lv_iconst (v := 0) C.1.1 C.1.2.1 dX1_sendFrames_48 (by decide) ?_
          refine mr_aald C hw (by decide) tf_73 (by decide) (by decide) rfl rfl (show vp_in 0 6 from by unfold vp_in; decide) ff_73_0 dX1_sendFrames_49 ?_
          refine lv_iload_n C.1.1 C.1.2.1 dX1_sendFrames_50 rfl (lv_at hl 2 rfl) ?_
          obtain ⟨q9, hD⟩ := g_ck hD
          refine mr_iald C hw (by decide) tf_74 q9 dX1_sendFrames_51 ?_
          obtain ⟨q10, hD⟩ := g_ck hD
          refine mr_zald C hw (by decide) tf_284 q10 dX1_sendFrames_52 ?_
          refine lv_if_ne (tgt := 61) C.1.1 C.1.2.1 dX1_sendFrames_53 (by decide) (fun c11 => ?_) (fun c11 => ?_)
          · replace hD := g_neg c11 hD
            exact hb61 v2 M4 L5 _ _ ls hD hw (lv_sub hl [0, 1, 2] rfl)
          · replace hD := g_pos c11 hD
            refine lv_aload_n C.1.1 C.1.2.1 dX1_sendFrames_56 rfl (lv_at hl 0 rfl) ?_
            refine lv_iload_n C.1.1 C.1.2.1 dX1_sendFrames_57 rfl (lv_at hl 2 rfl) ?_
            obtain ⟨M12, L13, h1, hD⟩ := g_b2 hD
            refine md_cvV (As := [.int v2]) (rest := []) C hw (tX1_sendFrame l G ad fu v2 M4 L5 h1) kc_1 (by decide) tf_3 wd_1303 cwX1_sendFrame ⟨Nat.le_of_ble_eq_true rfl, Nat.le_of_ble_eq_true rfl⟩ rfl hl.1 (Nat.le_of_ble_eq_true rfl) dX1_sendFrames_58 rfl rfl ⟨Nat.zero_le _, Nat.zero_le _⟩ rfl (fun H locs hw => ?_)
            exact hb61 v2 M12 L13 _ _ ls hD hw (lv_sub hl [0, 1, 2] rfl)
  unfold DX1_sendFrames at hD
  refine lv_iload_n C.1.1 C.1.2.1 dX1_sendFrames_0 rfl (lv_at hl 1 rfl) ?_
  refine lv_aload_n C.1.1 C.1.2.1 dX1_sendFrames_1 rfl (lv_at hl 0 rfl) ?_
  refine mr_getR C hw kc_1 3 (by decide) tf_3 ff_3_3 wd_519 dX1_sendFrames_2 (by decide) rfl ?_
  refine mr_getNI C hw kc_6 14 (by decide) tf_61 nd_252 dX1_sendFrames_5 (by decide) rfl ?_
  refine lv_icmp_ge (tgt := 12) C.1.1 C.1.2.1 dX1_sendFrames_8 (by decide) (fun c15 => ?_) (fun c15 => ?_)
  · replace hD := g_pos c15 hD
    refine lv_iconst (v := 0) C.1.1 C.1.2.1 dX1_sendFrames_12 (by decide) ?_
    refine lv_istore_n (lv' := [(2, .int 0), (0, .ref (ad 3)), (1, .int a1)]) C.1.1 C.1.2.1 dX1_sendFrames_13 rfl hl (by decide) rfl (fun ls hl => ?_)
    exact hh14 fu 0 M L _ _ ls hD hw (lv_sub hl [1, 2, 0] rfl)
  · replace hD := g_neg c15 hD
    exact mr_vret C hr hlocks hw (Option.some.inj hD) dX1_sendFrames_11

theorem dX1_takeOfTransfer_0 : decode cX1_takeOfTransfer 0 = .ok (.iload_n 2, 1) := by decide +kernel
theorem dX1_takeOfTransfer_1 : decode cX1_takeOfTransfer 1 = .ok (.iconst 2, 1) := by decide +kernel
theorem dX1_takeOfTransfer_2 : decode cX1_takeOfTransfer 2 = .ok (.idiv, 1) := by decide +kernel
theorem dX1_takeOfTransfer_3 : decode cX1_takeOfTransfer 3 = .ok (.istore_n 3, 1) := by decide +kernel
theorem dX1_takeOfTransfer_4 : decode cX1_takeOfTransfer 4 = .ok (.iload_n 2, 1) := by decide +kernel
theorem dX1_takeOfTransfer_5 : decode cX1_takeOfTransfer 5 = .ok (.iconst 2, 1) := by decide +kernel
theorem dX1_takeOfTransfer_6 : decode cX1_takeOfTransfer 6 = .ok (.irem, 1) := by decide +kernel
theorem dX1_takeOfTransfer_7 : decode cX1_takeOfTransfer 7 = .ok (.iconst 1, 1) := by decide +kernel
theorem dX1_takeOfTransfer_8 : decode cX1_takeOfTransfer 8 = .ok (.if_icmp .ne 7, 3) := by decide +kernel
theorem dX1_takeOfTransfer_11 : decode cX1_takeOfTransfer 11 = .ok (.iconst 1, 1) := by decide +kernel
theorem dX1_takeOfTransfer_12 : decode cX1_takeOfTransfer 12 = .ok (.goto 4, 3) := by decide +kernel
theorem dX1_takeOfTransfer_15 : decode cX1_takeOfTransfer 15 = .ok (.iconst 0, 1) := by decide +kernel
theorem dX1_takeOfTransfer_16 : decode cX1_takeOfTransfer 16 = .ok (.istore 4, 2) := by decide +kernel
theorem dX1_takeOfTransfer_18 : decode cX1_takeOfTransfer 18 = .ok (.iload_n 3, 1) := by decide +kernel
theorem dX1_takeOfTransfer_19 : decode cX1_takeOfTransfer 19 = .ok (.aload_n 0, 1) := by decide +kernel
theorem dX1_takeOfTransfer_20 : decode cX1_takeOfTransfer 20 = .ok (.getfield 91, 3) := by decide +kernel
theorem dX1_takeOfTransfer_23 : decode cX1_takeOfTransfer 23 = .ok (.if_icmp .ge 20, 3) := by decide +kernel
theorem dX1_takeOfTransfer_26 : decode cX1_takeOfTransfer 26 = .ok (.iload_n 1, 1) := by decide +kernel
theorem dX1_takeOfTransfer_27 : decode cX1_takeOfTransfer 27 = .ok (.iload 4, 2) := by decide +kernel
theorem dX1_takeOfTransfer_29 : decode cX1_takeOfTransfer 29 = .ok (.ifCond .eq 10, 3) := by decide +kernel
theorem dX1_takeOfTransfer_32 : decode cX1_takeOfTransfer 32 = .ok (.aload_n 0, 1) := by decide +kernel
theorem dX1_takeOfTransfer_33 : decode cX1_takeOfTransfer 33 = .ok (.getfield 91, 3) := by decide +kernel
theorem dX1_takeOfTransfer_36 : decode cX1_takeOfTransfer 36 = .ok (.goto 4, 3) := by decide +kernel
theorem dX1_takeOfTransfer_39 : decode cX1_takeOfTransfer 39 = .ok (.iload_n 3, 1) := by decide +kernel
theorem dX1_takeOfTransfer_40 : decode cX1_takeOfTransfer 40 = .ok (.if_icmp .eq 4, 3) := by decide +kernel
theorem dX1_takeOfTransfer_43 : decode cX1_takeOfTransfer 43 = .ok (.return_, 1) := by decide +kernel
theorem dX1_takeOfTransfer_44 : decode cX1_takeOfTransfer 44 = .ok (.aload_n 0, 1) := by decide +kernel
theorem dX1_takeOfTransfer_45 : decode cX1_takeOfTransfer 45 = .ok (.getfield 55, 3) := by decide +kernel
theorem dX1_takeOfTransfer_48 : decode cX1_takeOfTransfer 48 = .ok (.iload_n 3, 1) := by decide +kernel
theorem dX1_takeOfTransfer_49 : decode cX1_takeOfTransfer 49 = .ok (.iload 4, 2) := by decide +kernel
theorem dX1_takeOfTransfer_51 : decode cX1_takeOfTransfer 51 = .ok (.invokevirtual 257, 3) := by decide +kernel
theorem dX1_takeOfTransfer_54 : decode cX1_takeOfTransfer 54 = .ok (.istore 5, 2) := by decide +kernel
theorem dX1_takeOfTransfer_56 : decode cX1_takeOfTransfer 56 = .ok (.iload 5, 2) := by decide +kernel
theorem dX1_takeOfTransfer_58 : decode cX1_takeOfTransfer 58 = .ok (.ifCond .ne 4, 3) := by decide +kernel
theorem dX1_takeOfTransfer_61 : decode cX1_takeOfTransfer 61 = .ok (.return_, 1) := by decide +kernel
theorem dX1_takeOfTransfer_62 : decode cX1_takeOfTransfer 62 = .ok (.aload_n 0, 1) := by decide +kernel
theorem dX1_takeOfTransfer_63 : decode cX1_takeOfTransfer 63 = .ok (.getfield 55, 3) := by decide +kernel
theorem dX1_takeOfTransfer_66 : decode cX1_takeOfTransfer 66 = .ok (.iload 5, 2) := by decide +kernel
theorem dX1_takeOfTransfer_68 : decode cX1_takeOfTransfer 68 = .ok (.invokevirtual 261, 3) := by decide +kernel
theorem dX1_takeOfTransfer_71 : decode cX1_takeOfTransfer 71 = .ok (.ifCond .eq 60, 3) := by decide +kernel
theorem dX1_takeOfTransfer_74 : decode cX1_takeOfTransfer 74 = .ok (.aload_n 0, 1) := by decide +kernel
theorem dX1_takeOfTransfer_75 : decode cX1_takeOfTransfer 75 = .ok (.getfield 62, 3) := by decide +kernel
theorem dX1_takeOfTransfer_78 : decode cX1_takeOfTransfer 78 = .ok (.aload_n 0, 1) := by decide +kernel
theorem dX1_takeOfTransfer_79 : decode cX1_takeOfTransfer 79 = .ok (.iload_n 3, 1) := by decide +kernel
theorem dX1_takeOfTransfer_80 : decode cX1_takeOfTransfer 80 = .ok (.aload_n 0, 1) := by decide +kernel
theorem dX1_takeOfTransfer_81 : decode cX1_takeOfTransfer 81 = .ok (.getfield 55, 3) := by decide +kernel
theorem dX1_takeOfTransfer_84 : decode cX1_takeOfTransfer 84 = .ok (.getfield 264, 3) := by decide +kernel
theorem dX1_takeOfTransfer_87 : decode cX1_takeOfTransfer 87 = .ok (.iload 5, 2) := by decide +kernel
theorem dX1_takeOfTransfer_89 : decode cX1_takeOfTransfer 89 = .ok (.aaload, 1) := by decide +kernel
theorem dX1_takeOfTransfer_90 : decode cX1_takeOfTransfer 90 = .ok (.aload_n 0, 1) := by decide +kernel
theorem dX1_takeOfTransfer_91 : decode cX1_takeOfTransfer 91 = .ok (.getfield 55, 3) := by decide +kernel
theorem dX1_takeOfTransfer_94 : decode cX1_takeOfTransfer 94 = .ok (.getfield 266, 3) := by decide +kernel
theorem dX1_takeOfTransfer_97 : decode cX1_takeOfTransfer 97 = .ok (.iconst 2, 1) := by decide +kernel
theorem dX1_takeOfTransfer_98 : decode cX1_takeOfTransfer 98 = .ok (.aaload, 1) := by decide +kernel
theorem dX1_takeOfTransfer_99 : decode cX1_takeOfTransfer 99 = .ok (.iload 5, 2) := by decide +kernel
theorem dX1_takeOfTransfer_101 : decode cX1_takeOfTransfer 101 = .ok (.iaload, 1) := by decide +kernel
theorem dX1_takeOfTransfer_102 : decode cX1_takeOfTransfer 102 = .ok (.invokevirtual 269, 3) := by decide +kernel
theorem dX1_takeOfTransfer_105 : decode cX1_takeOfTransfer 105 = .ok (.aload_n 0, 1) := by decide +kernel
theorem dX1_takeOfTransfer_106 : decode cX1_takeOfTransfer 106 = .ok (.getfield 55, 3) := by decide +kernel
theorem dX1_takeOfTransfer_109 : decode cX1_takeOfTransfer 109 = .ok (.iload_n 3, 1) := by decide +kernel
theorem dX1_takeOfTransfer_110 : decode cX1_takeOfTransfer 110 = .ok (.iconst 0, 1) := by decide +kernel
theorem dX1_takeOfTransfer_111 : decode cX1_takeOfTransfer 111 = .ok (.aload_n 0, 1) := by decide +kernel
theorem dX1_takeOfTransfer_112 : decode cX1_takeOfTransfer 112 = .ok (.getfield 62, 3) := by decide +kernel
theorem dX1_takeOfTransfer_115 : decode cX1_takeOfTransfer 115 = .ok (.getfield 273, 3) := by decide +kernel
theorem dX1_takeOfTransfer_118 : decode cX1_takeOfTransfer 118 = .ok (.aload_n 0, 1) := by decide +kernel
theorem dX1_takeOfTransfer_119 : decode cX1_takeOfTransfer 119 = .ok (.getfield 62, 3) := by decide +kernel
theorem dX1_takeOfTransfer_122 : decode cX1_takeOfTransfer 122 = .ok (.getfield 276, 3) := by decide +kernel
theorem dX1_takeOfTransfer_125 : decode cX1_takeOfTransfer 125 = .ok (.invokevirtual 279, 3) := by decide +kernel
theorem dX1_takeOfTransfer_128 : decode cX1_takeOfTransfer 128 = .ok (.goto 32, 3) := by decide +kernel
theorem dX1_takeOfTransfer_131 : decode cX1_takeOfTransfer 131 = .ok (.iload_n 3, 1) := by decide +kernel
theorem dX1_takeOfTransfer_132 : decode cX1_takeOfTransfer 132 = .ok (.aload_n 0, 1) := by decide +kernel
theorem dX1_takeOfTransfer_133 : decode cX1_takeOfTransfer 133 = .ok (.getfield 103, 3) := by decide +kernel
theorem dX1_takeOfTransfer_136 : decode cX1_takeOfTransfer 136 = .ok (.if_icmp .ne 24, 3) := by decide +kernel
theorem dX1_takeOfTransfer_139 : decode cX1_takeOfTransfer 139 = .ok (.aload_n 0, 1) := by decide +kernel
theorem dX1_takeOfTransfer_140 : decode cX1_takeOfTransfer 140 = .ok (.iload 5, 2) := by decide +kernel
theorem dX1_takeOfTransfer_142 : decode cX1_takeOfTransfer 142 = .ok (.putfield 106, 3) := by decide +kernel
theorem dX1_takeOfTransfer_145 : decode cX1_takeOfTransfer 145 = .ok (.aload_n 0, 1) := by decide +kernel
theorem dX1_takeOfTransfer_146 : decode cX1_takeOfTransfer 146 = .ok (.iconst (-1), 1) := by decide +kernel
theorem dX1_takeOfTransfer_147 : decode cX1_takeOfTransfer 147 = .ok (.putfield 103, 3) := by decide +kernel
theorem dX1_takeOfTransfer_150 : decode cX1_takeOfTransfer 150 = .ok (.aload_n 0, 1) := by decide +kernel
theorem dX1_takeOfTransfer_151 : decode cX1_takeOfTransfer 151 = .ok (.getfield 83, 3) := by decide +kernel
theorem dX1_takeOfTransfer_154 : decode cX1_takeOfTransfer 154 = .ok (.iconst 3, 1) := by decide +kernel
theorem dX1_takeOfTransfer_155 : decode cX1_takeOfTransfer 155 = .ok (.dup2, 1) := by decide +kernel
theorem dX1_takeOfTransfer_156 : decode cX1_takeOfTransfer 156 = .ok (.iaload, 1) := by decide +kernel
theorem dX1_takeOfTransfer_157 : decode cX1_takeOfTransfer 157 = .ok (.iconst 1, 1) := by decide +kernel
theorem dX1_takeOfTransfer_158 : decode cX1_takeOfTransfer 158 = .ok (.iadd, 1) := by decide +kernel
theorem dX1_takeOfTransfer_159 : decode cX1_takeOfTransfer 159 = .ok (.iastore, 1) := by decide +kernel
theorem dX1_takeOfTransfer_160 : decode cX1_takeOfTransfer 160 = .ok (.return_, 1) := by decide +kernel
theorem cwX1_takeOfTransfer : mw_cwV yX1_takeOfTransfer cX1_takeOfTransfer 6 (none) 2 := ⟨⟨wd_3, wd_1511, by decide +kernel⟩, wd_1510, sl_102⟩
set_option maxHeartbeats 4000000 in
set_option maxRecDepth 100000 in
theorem tX1_takeOfTransfer (l : Launch) (G : mwG) (ad : Nat → Nat) (fu : Nat) (a1 : Int32) (a2 : Int32) (M : mwM) (L : mwL) {M0 : mwM} {L0 : mwL} (hD : DX1_takeOfTransfer fu a1 a2 M L = some (M0, L0)) : Met l yX1_takeOfTransfer (Cond.code yX1_takeOfTransfer cX1_takeOfTransfer 6 (none) :: GT) ({ frames := 4, cells := 0, slots := 0, locals := 102 }) (mw_Pre G ad NF TF FF M L [.ref (ad 3), .int a1, .int a2]) (mw_Qv G ad NF TF FF (mw_eqV M0 L0)) 0 0 (mw_fr G) := by
  refine mw_enter (by decide) (Nat.le_of_ble_eq_true rfl) ?_
  intro p e s m below meth c ls C hr hlocks hnm hw hl
  have hl : lv_has ls 6 [(0, .ref (ad 3)), (1, .int a1), (2, .int a2)] := hl
  have hb43 : ∀ (M : mwM) (L : mwL) (H : Heap) (locs : List Loc) (ls : Array Slot), fX1_takeOfTransfer_b43 fu a1 a2 M L = some (M0, L0) → mw_W G ad NF TF FF M L H locs → lv_has ls 6 [] → W p l e ({ frames := 4, cells := 0, slots := 0, locals := 102 }) s m [.ref (ad 3), .int a1, .int a2].toArray below meth c H locs 0 0 (MQ below (mw_Qv G ad NF TF FF (mw_eqV M0 L0)) [.ref (ad 3), .int a1, .int a2].toArray s 0 0 (mw_fr G)) (F0 m 43 ls []) := by
    intro M L H locs ls hD hw hl
    unfold fX1_takeOfTransfer_b43 at hD
    exact mr_vret C hr hlocks hw (Option.some.inj hD) dX1_takeOfTransfer_43
  have hb160 : ∀ (M : mwM) (L : mwL) (H : Heap) (locs : List Loc) (ls : Array Slot), fX1_takeOfTransfer_b160 fu a1 a2 M L = some (M0, L0) → mw_W G ad NF TF FF M L H locs → lv_has ls 6 [] → W p l e ({ frames := 4, cells := 0, slots := 0, locals := 102 }) s m [.ref (ad 3), .int a1, .int a2].toArray below meth c H locs 0 0 (MQ below (mw_Qv G ad NF TF FF (mw_eqV M0 L0)) [.ref (ad 3), .int a1, .int a2].toArray s 0 0 (mw_fr G)) (F0 m 160 ls []) := by
    intro M L H locs ls hD hw hl
    unfold fX1_takeOfTransfer_b160 at hD
    exact mr_vret C hr hlocks hw (Option.some.inj hD) dX1_takeOfTransfer_160
  have hb40 : ∀ (v3 : Int32) (v4 : Int32) (s1 : Int32) (M : mwM) (L : mwL) (H : Heap) (locs : List Loc) (ls : Array Slot), fX1_takeOfTransfer_b40 fu a1 a2 v3 v4 s1 M L = some (M0, L0) → mw_W G ad NF TF FF M L H locs → lv_has ls 6 [(0, .ref (ad 3)), (3, .int v3), (4, .int v4)] → W p l e ({ frames := 4, cells := 0, slots := 0, locals := 102 }) s m [.ref (ad 3), .int a1, .int a2].toArray below meth c H locs 0 0 (MQ below (mw_Qv G ad NF TF FF (mw_eqV M0 L0)) [.ref (ad 3), .int a1, .int a2].toArray s 0 0 (mw_fr G)) (F0 m 40 ls [.int s1, .int a1]) := by
    intro v3 v4 s1 M L H locs ls hD hw hl
    unfold fX1_takeOfTransfer_b40 at hD
    refine lv_icmp_eq (tgt := 44) C.1.1 C.1.2.1 dX1_takeOfTransfer_40 (by decide) (fun c3 => ?_) (fun c3 => ?_)
    · replace hD := g_pos c3 hD
      refine lv_aload_n C.1.1 C.1.2.1 dX1_takeOfTransfer_44 rfl (lv_at hl 0 rfl) ?_
      refine mr_getR C hw kc_1 6 (by decide) tf_3 ff_3_6 wd_528 dX1_takeOfTransfer_45 (by decide) rfl ?_
      refine lv_iload_n C.1.1 C.1.2.1 dX1_takeOfTransfer_48 rfl (lv_at hl 1 rfl) ?_
      refine lv_iload C.1.1 C.1.2.1 dX1_takeOfTransfer_49 (lv_at hl 2 rfl) ?_
      obtain ⟨r6, M4, L5, h1, hD⟩ := g_b3 hD
      refine md_cvI (As := [.int v3, .int v4]) (rest := []) C hw (tX9_reach l G ad fu v3 v4 M L h1) kc_9 (by decide) tf_154 wd_1512 cwX9_reach ⟨Nat.le_of_ble_eq_true rfl, Nat.le_of_ble_eq_true rfl⟩ rfl hl.1 (Nat.le_of_ble_eq_true rfl) dX1_takeOfTransfer_51 rfl rfl ⟨Nat.zero_le _, Nat.zero_le _⟩ rfl (fun H locs hw => ?_)
      refine lv_istore (lv' := [(5, .int r6), (0, .ref (ad 3)), (3, .int v3), (4, .int v4)]) C.1.1 C.1.2.1 dX1_takeOfTransfer_54 hl (by decide) rfl (fun ls hl => ?_)
      refine lv_iload C.1.1 C.1.2.1 dX1_takeOfTransfer_56 (lv_at hl 0 rfl) ?_
      refine lv_if_ne (tgt := 62) C.1.1 C.1.2.1 dX1_takeOfTransfer_58 (by decide) (fun c7 => ?_) (fun c7 => ?_)
      · replace hD := g_neg c7 hD
        refine lv_aload_n C.1.1 C.1.2.1 dX1_takeOfTransfer_62 rfl (lv_at hl 1 rfl) ?_
        refine mr_getR C hw kc_1 6 (by decide) tf_3 ff_3_6 wd_528 dX1_takeOfTransfer_63 (by decide) rfl ?_
        refine lv_iload C.1.1 C.1.2.1 dX1_takeOfTransfer_66 (lv_at hl 0 rfl) ?_
        obtain ⟨r10, M8, L9, h1, hD⟩ := g_b3 hD
        refine md_cvI (As := [.int r6]) (rest := []) C hw (tX9_isQuestion l G ad fu r6 M4 L5 h1) kc_9 (by decide) tf_154 wd_1540 cwX9_isQuestion ⟨Nat.le_of_ble_eq_true rfl, Nat.le_of_ble_eq_true rfl⟩ rfl hl.1 (Nat.le_of_ble_eq_true rfl) dX1_takeOfTransfer_68 rfl rfl ⟨Nat.zero_le _, Nat.zero_le _⟩ rfl (fun H locs hw => ?_)
        refine lv_if_eq (tgt := 131) C.1.1 C.1.2.1 dX1_takeOfTransfer_71 (by decide) (fun c11 => ?_) (fun c11 => ?_)
        · replace hD := g_pos c11 hD
          refine lv_iload_n C.1.1 C.1.2.1 dX1_takeOfTransfer_131 rfl (lv_at hl 2 rfl) ?_
          refine lv_aload_n C.1.1 C.1.2.1 dX1_takeOfTransfer_132 rfl (lv_at hl 1 rfl) ?_
          refine mr_getI C hw kc_1 17 (by decide) tf_3 wd_549 dX1_takeOfTransfer_133 (by decide) rfl ?_
          refine lv_icmp_ne (tgt := 160) C.1.1 C.1.2.1 dX1_takeOfTransfer_136 (by decide) (fun c12 => ?_) (fun c12 => ?_)
          · replace hD := g_neg c12 hD
            exact hb160 M8 L9 _ _ ls hD hw (lv_sub hl [] rfl)
          · replace hD := g_pos c12 hD
            refine lv_aload_n C.1.1 C.1.2.1 dX1_takeOfTransfer_139 rfl (lv_at hl 1 rfl) ?_
            refine lv_iload C.1.1 C.1.2.1 dX1_takeOfTransfer_140 (lv_at hl 0 rfl) ?_
            obtain ⟨M13, eM13, hD⟩ := g_let hD
            refine mr_putI C hw kc_1 18 (by decide) tf_3 wd_551 dX1_takeOfTransfer_142 (by decide) rfl rfl rfl rfl (fun H locs hw => ?_)
            replace hw : mw_W G ad NF TF FF M13 L9 H locs := by rw [eM13]; exact hw
            refine lv_aload_n C.1.1 C.1.2.1 dX1_takeOfTransfer_145 rfl (lv_at hl 1 rfl) ?_
            refine lv_iconst (v := (-1)) C.1.1 C.1.2.1 dX1_takeOfTransfer_146 (by decide) ?_
            obtain ⟨M14, eM14, hD⟩ := g_let hD
            refine mr_putI C hw kc_1 17 (by decide) tf_3 wd_549 dX1_takeOfTransfer_147 (by decide) rfl rfl rfl rfl (fun H locs hw => ?_)
            replace hw : mw_W G ad NF TF FF M14 L9 H locs := by rw [eM14]; exact hw
            refine lv_aload_n C.1.1 C.1.2.1 dX1_takeOfTransfer_150 rfl (lv_at hl 1 rfl) ?_
            refine mr_getR C hw kc_1 12 (by decide) tf_3 ff_3_12 wd_537 dX1_takeOfTransfer_151 (by decide) rfl ?_
            refine lv_iconst (v := 3) C.1.1 C.1.2.1 dX1_takeOfTransfer_154 (by decide) ?_
            refine lv_dup2_11 C.1.1 C.1.2.1 dX1_takeOfTransfer_155 rfl rfl ?_
            refine mr_iald C hw (by decide) tf_292 (show vp_in 3 5 from by unfold vp_in; decide) dX1_takeOfTransfer_156 ?_
            refine lv_iconst (v := 1) C.1.1 C.1.2.1 dX1_takeOfTransfer_157 (by decide) ?_
            refine lv_iadd C.1.1 C.1.2.1 dX1_takeOfTransfer_158 ?_
            obtain ⟨M17, eM17, hD⟩ := g_let hD
            refine mr_iast C hw (by decide) tf_292 (show vp_in 3 5 from by unfold vp_in; decide) dX1_takeOfTransfer_159 (fun H locs hw => ?_)
            replace hw : mw_W G ad NF TF FF M17 L9 H locs := by rw [eM17]; exact hw
            exact hb160 M17 L9 _ _ ls hD hw (lv_sub hl [] rfl)
        · replace hD := g_neg c11 hD
          refine lv_aload_n C.1.1 C.1.2.1 dX1_takeOfTransfer_74 rfl (lv_at hl 1 rfl) ?_
          refine mr_getR C hw kc_1 7 (by decide) tf_3 ff_3_7 wd_530 dX1_takeOfTransfer_75 (by decide) rfl ?_
          refine lv_aload_n C.1.1 C.1.2.1 dX1_takeOfTransfer_78 rfl (lv_at hl 1 rfl) ?_
          refine lv_iload_n C.1.1 C.1.2.1 dX1_takeOfTransfer_79 rfl (lv_at hl 2 rfl) ?_
          refine lv_aload_n C.1.1 C.1.2.1 dX1_takeOfTransfer_80 rfl (lv_at hl 1 rfl) ?_
          refine mr_getR C hw kc_1 6 (by decide) tf_3 ff_3_6 wd_528 dX1_takeOfTransfer_81 (by decide) rfl ?_
          refine mr_getNR C hw kc_9 1 (by decide) tf_154 ff_154_1 nd_362 dX1_takeOfTransfer_84 (by decide) rfl ?_
          refine lv_iload C.1.1 C.1.2.1 dX1_takeOfTransfer_87 (lv_at hl 0 rfl) ?_
          obtain ⟨q18, hD⟩ := g_ck hD
          refine mr_aald C hw (by decide) tf_161 (by decide) (by decide) rfl rfl q18 (fr_161 _ (g_lt q18)).1 dX1_takeOfTransfer_89 ?_
          refine lv_aload_n C.1.1 C.1.2.1 dX1_takeOfTransfer_90 rfl (lv_at hl 1 rfl) ?_
          refine mr_getR C hw kc_1 6 (by decide) tf_3 ff_3_6 wd_528 dX1_takeOfTransfer_91 (by decide) rfl ?_
          refine mr_getNR C hw kc_9 0 (by decide) tf_154 ff_154_0 nd_359 dX1_takeOfTransfer_94 (by decide) rfl ?_
          refine lv_iconst (v := 2) C.1.1 C.1.2.1 dX1_takeOfTransfer_97 (by decide) ?_
          refine mr_aald C hw (by decide) tf_155 (by decide) (by decide) rfl rfl (show vp_in 2 5 from by unfold vp_in; decide) ff_155_2 dX1_takeOfTransfer_98 ?_
          refine lv_iload C.1.1 C.1.2.1 dX1_takeOfTransfer_99 (lv_at hl 0 rfl) ?_
          obtain ⟨q20, hD⟩ := g_ck hD
          refine mr_iald C hw (by decide) tf_158 q20 dX1_takeOfTransfer_101 ?_
          obtain ⟨M21, L22, h1, hD⟩ := g_b2 hD
          refine md_cvV (As := [.ref (ad 3), .int v3, .ref (ad (162 + r6.toNatClampNeg)), .int (M8 158 r6.toNatClampNeg)]) (rest := []) C hw (tX7_makeReply l G ad fu v3 ((162 + r6.toNatClampNeg)) 100 (M8 158 r6.toNatClampNeg) M8 L9 h1 (fr_161 _ (g_lt q18)).2.2 (fr_161 _ (g_lt q18)).2.1) kc_7 (by decide) tf_275 wd_1541 cwX7_makeReply ⟨Nat.le_of_ble_eq_true rfl, Nat.le_of_ble_eq_true rfl⟩ rfl hl.1 (Nat.le_of_ble_eq_true rfl) dX1_takeOfTransfer_102 rfl rfl ⟨Nat.zero_le _, Nat.zero_le _⟩ rfl (fun H locs hw => ?_)
          refine lv_aload_n C.1.1 C.1.2.1 dX1_takeOfTransfer_105 rfl (lv_at hl 1 rfl) ?_
          refine mr_getR C hw kc_1 6 (by decide) tf_3 ff_3_6 wd_528 dX1_takeOfTransfer_106 (by decide) rfl ?_
          refine lv_iload_n C.1.1 C.1.2.1 dX1_takeOfTransfer_109 rfl (lv_at hl 2 rfl) ?_
          refine lv_iconst (v := 0) C.1.1 C.1.2.1 dX1_takeOfTransfer_110 (by decide) ?_
          refine lv_aload_n C.1.1 C.1.2.1 dX1_takeOfTransfer_111 rfl (lv_at hl 1 rfl) ?_
          refine mr_getR C hw kc_1 7 (by decide) tf_3 ff_3_7 wd_530 dX1_takeOfTransfer_112 (by decide) rfl ?_
          refine mr_getNR C hw kc_7 6 (by decide) tf_275 ff_275_6 nd_414 dX1_takeOfTransfer_115 (by decide) rfl ?_
          refine lv_aload_n C.1.1 C.1.2.1 dX1_takeOfTransfer_118 rfl (lv_at hl 1 rfl) ?_
          refine mr_getR C hw kc_1 7 (by decide) tf_3 ff_3_7 wd_530 dX1_takeOfTransfer_119 (by decide) rfl ?_
          refine mr_getNI C hw kc_7 7 (by decide) tf_275 nd_416 dX1_takeOfTransfer_122 (by decide) rfl ?_
          obtain ⟨M23, L24, h1, hD⟩ := g_b2 hD
          refine md_cvV (As := [.int v3, .int 0, .ref (ad 282), .int (M21 275 7)]) (rest := []) C hw (tX9_make l G ad fu v3 0 282 20 (M21 275 7) M21 L22 h1 (by decide) tf_282) kc_9 (by decide) tf_154 wd_1600 cwX9_make ⟨Nat.le_of_ble_eq_true rfl, Nat.le_of_ble_eq_true rfl⟩ rfl hl.1 (Nat.le_of_ble_eq_true rfl) dX1_takeOfTransfer_125 rfl rfl ⟨Nat.zero_le _, Nat.zero_le _⟩ rfl (fun H locs hw => ?_)
          refine lv_goto (tgt := 160) C.1.1 C.1.2.1 dX1_takeOfTransfer_128 (by decide) ?_
          exact hb160 M23 L24 _ _ ls hD hw (lv_sub hl [] rfl)
      · replace hD := g_pos c7 hD
        exact mr_vret C hr hlocks hw (Option.some.inj hD) dX1_takeOfTransfer_61
    · replace hD := g_neg c3 hD
      exact hb43 M L _ _ ls hD hw (lv_sub hl [] rfl)
  have hb16 : ∀ (v3 : Int32) (s0 : Int32) (M : mwM) (L : mwL) (H : Heap) (locs : List Loc) (ls : Array Slot), fX1_takeOfTransfer_b16 fu a1 a2 v3 s0 M L = some (M0, L0) → mw_W G ad NF TF FF M L H locs → lv_has ls 6 [(0, .ref (ad 3)), (1, .int a1), (3, .int v3)] → W p l e ({ frames := 4, cells := 0, slots := 0, locals := 102 }) s m [.ref (ad 3), .int a1, .int a2].toArray below meth c H locs 0 0 (MQ below (mw_Qv G ad NF TF FF (mw_eqV M0 L0)) [.ref (ad 3), .int a1, .int a2].toArray s 0 0 (mw_fr G)) (F0 m 16 ls [.int s0]) := by
    intro v3 s0 M L H locs ls hD hw hl
    unfold fX1_takeOfTransfer_b16 at hD
    refine lv_istore (lv' := [(4, .int s0), (0, .ref (ad 3)), (1, .int a1), (3, .int v3)]) C.1.1 C.1.2.1 dX1_takeOfTransfer_16 hl (by decide) rfl (fun ls hl => ?_)
    refine lv_iload_n C.1.1 C.1.2.1 dX1_takeOfTransfer_18 rfl (lv_at hl 3 rfl) ?_
    refine lv_aload_n C.1.1 C.1.2.1 dX1_takeOfTransfer_19 rfl (lv_at hl 1 rfl) ?_
    refine mr_getI C hw kc_1 13 (by decide) tf_3 wd_539 dX1_takeOfTransfer_20 (by decide) rfl ?_
    refine lv_icmp_ge (tgt := 43) C.1.1 C.1.2.1 dX1_takeOfTransfer_23 (by decide) (fun c1 => ?_) (fun c1 => ?_)
    · replace hD := g_pos c1 hD
      exact hb43 M L _ _ ls hD hw (lv_sub hl [] rfl)
    · replace hD := g_neg c1 hD
      refine lv_iload_n C.1.1 C.1.2.1 dX1_takeOfTransfer_26 rfl (lv_at hl 2 rfl) ?_
      refine lv_iload C.1.1 C.1.2.1 dX1_takeOfTransfer_27 (lv_at hl 0 rfl) ?_
      refine lv_if_eq (tgt := 39) C.1.1 C.1.2.1 dX1_takeOfTransfer_29 (by decide) (fun c2 => ?_) (fun c2 => ?_)
      · replace hD := g_pos c2 hD
        refine lv_iload_n C.1.1 C.1.2.1 dX1_takeOfTransfer_39 rfl (lv_at hl 3 rfl) ?_
        exact hb40 v3 s0 v3 M L _ _ ls hD hw (lv_sub hl [1, 3, 0] rfl)
      · replace hD := g_neg c2 hD
        refine lv_aload_n C.1.1 C.1.2.1 dX1_takeOfTransfer_32 rfl (lv_at hl 1 rfl) ?_
        refine mr_getI C hw kc_1 13 (by decide) tf_3 wd_539 dX1_takeOfTransfer_33 (by decide) rfl ?_
        refine lv_goto (tgt := 40) C.1.1 C.1.2.1 dX1_takeOfTransfer_36 (by decide) ?_
        exact hb40 v3 s0 (M 3 13) M L _ _ ls hD hw (lv_sub hl [1, 3, 0] rfl)
  unfold DX1_takeOfTransfer at hD
  refine lv_iload_n C.1.1 C.1.2.1 dX1_takeOfTransfer_0 rfl (lv_at hl 2 rfl) ?_
  refine lv_iconst (v := 2) C.1.1 C.1.2.1 dX1_takeOfTransfer_1 (by decide) ?_
  refine lv_idiv C.1.1 C.1.2.1 dX1_takeOfTransfer_2 (by decide) ?_
  obtain ⟨x26, ex26, hD⟩ := g_let hD
  refine W.eq (g2 := F0 m 3 ls (.int x26 :: [])) (by rw [ex26]) ?_
  refine lv_istore_n (lv' := [(3, .int x26), (0, .ref (ad 3)), (1, .int a1), (2, .int a2)]) C.1.1 C.1.2.1 dX1_takeOfTransfer_3 rfl hl (by decide) rfl (fun ls hl => ?_)
  refine lv_iload_n C.1.1 C.1.2.1 dX1_takeOfTransfer_4 rfl (lv_at hl 3 rfl) ?_
  refine lv_iconst (v := 2) C.1.1 C.1.2.1 dX1_takeOfTransfer_5 (by decide) ?_
  refine lv_irem C.1.1 C.1.2.1 dX1_takeOfTransfer_6 (by decide) ?_
  refine lv_iconst (v := 1) C.1.1 C.1.2.1 dX1_takeOfTransfer_7 (by decide) ?_
  refine lv_icmp_ne (tgt := 15) C.1.1 C.1.2.1 dX1_takeOfTransfer_8 (by decide) (fun c28 => ?_) (fun c28 => ?_)
  · replace hD := g_neg c28 hD
    refine lv_iconst (v := 0) C.1.1 C.1.2.1 dX1_takeOfTransfer_15 (by decide) ?_
    exact hb16 x26 0 M L _ _ ls hD hw (lv_sub hl [1, 2, 0] rfl)
  · replace hD := g_pos c28 hD
    refine lv_iconst (v := 1) C.1.1 C.1.2.1 dX1_takeOfTransfer_11 (by decide) ?_
    refine lv_goto (tgt := 16) C.1.1 C.1.2.1 dX1_takeOfTransfer_12 (by decide) ?_
    exact hb16 x26 1 M L _ _ ls hD hw (lv_sub hl [1, 2, 0] rfl)

theorem dX1_takeRead_0 : decode cX1_takeRead 0 = .ok (.aload_n 0, 1) := by decide +kernel
theorem dX1_takeRead_1 : decode cX1_takeRead 1 = .ok (.getfield 76, 3) := by decide +kernel
theorem dX1_takeRead_4 : decode cX1_takeRead 4 = .ok (.iconst 4, 1) := by decide +kernel
theorem dX1_takeRead_5 : decode cX1_takeRead 5 = .ok (.aaload, 1) := by decide +kernel
theorem dX1_takeRead_6 : decode cX1_takeRead 6 = .ok (.iload_n 1, 1) := by decide +kernel
theorem dX1_takeRead_7 : decode cX1_takeRead 7 = .ok (.iaload, 1) := by decide +kernel
theorem dX1_takeRead_8 : decode cX1_takeRead 8 = .ok (.iconst 1, 1) := by decide +kernel
theorem dX1_takeRead_9 : decode cX1_takeRead 9 = .ok (.if_icmp .ne 15, 3) := by decide +kernel
theorem dX1_takeRead_12 : decode cX1_takeRead 12 = .ok (.aload_n 0, 1) := by decide +kernel
theorem dX1_takeRead_13 : decode cX1_takeRead 13 = .ok (.getfield 79, 3) := by decide +kernel
theorem dX1_takeRead_16 : decode cX1_takeRead 16 = .ok (.iload_n 1, 1) := by decide +kernel
theorem dX1_takeRead_17 : decode cX1_takeRead 17 = .ok (.laload, 1) := by decide +kernel
theorem dX1_takeRead_18 : decode cX1_takeRead 18 = .ok (.lload_n 2, 1) := by decide +kernel
theorem dX1_takeRead_19 : decode cX1_takeRead 19 = .ok (.lcmp, 1) := by decide +kernel
theorem dX1_takeRead_20 : decode cX1_takeRead 20 = .ok (.ifCond .ne 4, 3) := by decide +kernel
theorem dX1_takeRead_23 : decode cX1_takeRead 23 = .ok (.return_, 1) := by decide +kernel
theorem dX1_takeRead_24 : decode cX1_takeRead 24 = .ok (.aload_n 0, 1) := by decide +kernel
theorem dX1_takeRead_25 : decode cX1_takeRead 25 = .ok (.getfield 76, 3) := by decide +kernel
theorem dX1_takeRead_28 : decode cX1_takeRead 28 = .ok (.iconst 4, 1) := by decide +kernel
theorem dX1_takeRead_29 : decode cX1_takeRead 29 = .ok (.aaload, 1) := by decide +kernel
theorem dX1_takeRead_30 : decode cX1_takeRead 30 = .ok (.iload_n 1, 1) := by decide +kernel
theorem dX1_takeRead_31 : decode cX1_takeRead 31 = .ok (.iconst 1, 1) := by decide +kernel
theorem dX1_takeRead_32 : decode cX1_takeRead 32 = .ok (.iastore, 1) := by decide +kernel
theorem dX1_takeRead_33 : decode cX1_takeRead 33 = .ok (.aload_n 0, 1) := by decide +kernel
theorem dX1_takeRead_34 : decode cX1_takeRead 34 = .ok (.getfield 79, 3) := by decide +kernel
theorem dX1_takeRead_37 : decode cX1_takeRead 37 = .ok (.iload_n 1, 1) := by decide +kernel
theorem dX1_takeRead_38 : decode cX1_takeRead 38 = .ok (.lload_n 2, 1) := by decide +kernel
theorem dX1_takeRead_39 : decode cX1_takeRead 39 = .ok (.lastore, 1) := by decide +kernel
theorem dX1_takeRead_40 : decode cX1_takeRead 40 = .ok (.aload_n 0, 1) := by decide +kernel
theorem dX1_takeRead_41 : decode cX1_takeRead 41 = .ok (.getfield 11, 3) := by decide +kernel
theorem dX1_takeRead_44 : decode cX1_takeRead 44 = .ok (.aload_n 0, 1) := by decide +kernel
theorem dX1_takeRead_45 : decode cX1_takeRead 45 = .ok (.getfield 76, 3) := by decide +kernel
theorem dX1_takeRead_48 : decode cX1_takeRead 48 = .ok (.iconst 1, 1) := by decide +kernel
theorem dX1_takeRead_49 : decode cX1_takeRead 49 = .ok (.aaload, 1) := by decide +kernel
theorem dX1_takeRead_50 : decode cX1_takeRead 50 = .ok (.iload_n 1, 1) := by decide +kernel
theorem dX1_takeRead_51 : decode cX1_takeRead 51 = .ok (.iaload, 1) := by decide +kernel
theorem dX1_takeRead_52 : decode cX1_takeRead 52 = .ok (.aaload, 1) := by decide +kernel
theorem dX1_takeRead_53 : decode cX1_takeRead 53 = .ok (.astore 4, 2) := by decide +kernel
theorem dX1_takeRead_55 : decode cX1_takeRead 55 = .ok (.aload 4, 2) := by decide +kernel
theorem dX1_takeRead_57 : decode cX1_takeRead 57 = .ok (.getfield 250, 3) := by decide +kernel
theorem dX1_takeRead_60 : decode cX1_takeRead 60 = .ok (.aload_n 0, 1) := by decide +kernel
theorem dX1_takeRead_61 : decode cX1_takeRead 61 = .ok (.getfield 76, 3) := by decide +kernel
theorem dX1_takeRead_64 : decode cX1_takeRead 64 = .ok (.iconst 2, 1) := by decide +kernel
theorem dX1_takeRead_65 : decode cX1_takeRead 65 = .ok (.aaload, 1) := by decide +kernel
theorem dX1_takeRead_66 : decode cX1_takeRead 66 = .ok (.iload_n 1, 1) := by decide +kernel
theorem dX1_takeRead_67 : decode cX1_takeRead 67 = .ok (.iaload, 1) := by decide +kernel
theorem dX1_takeRead_68 : decode cX1_takeRead 68 = .ok (.lload_n 2, 1) := by decide +kernel
theorem dX1_takeRead_69 : decode cX1_takeRead 69 = .ok (.lastore, 1) := by decide +kernel
theorem dX1_takeRead_70 : decode cX1_takeRead 70 = .ok (.aload_n 0, 1) := by decide +kernel
theorem dX1_takeRead_71 : decode cX1_takeRead 71 = .ok (.getfield 76, 3) := by decide +kernel
theorem dX1_takeRead_74 : decode cX1_takeRead 74 = .ok (.iconst 3, 1) := by decide +kernel
theorem dX1_takeRead_75 : decode cX1_takeRead 75 = .ok (.aaload, 1) := by decide +kernel
theorem dX1_takeRead_76 : decode cX1_takeRead 76 = .ok (.iload_n 1, 1) := by decide +kernel
theorem dX1_takeRead_77 : decode cX1_takeRead 77 = .ok (.iaload, 1) := by decide +kernel
theorem dX1_takeRead_78 : decode cX1_takeRead 78 = .ok (.ifCond .eq 29, 3) := by decide +kernel
theorem dX1_takeRead_81 : decode cX1_takeRead 81 = .ok (.aload 4, 2) := by decide +kernel
theorem dX1_takeRead_83 : decode cX1_takeRead 83 = .ok (.aload_n 0, 1) := by decide +kernel
theorem dX1_takeRead_84 : decode cX1_takeRead 84 = .ok (.getfield 76, 3) := by decide +kernel
theorem dX1_takeRead_87 : decode cX1_takeRead 87 = .ok (.iconst 3, 1) := by decide +kernel
theorem dX1_takeRead_88 : decode cX1_takeRead 88 = .ok (.aaload, 1) := by decide +kernel
theorem dX1_takeRead_89 : decode cX1_takeRead 89 = .ok (.iload_n 1, 1) := by decide +kernel
theorem dX1_takeRead_90 : decode cX1_takeRead 90 = .ok (.iaload, 1) := by decide +kernel
theorem dX1_takeRead_91 : decode cX1_takeRead 91 = .ok (.invokevirtual 253, 3) := by decide +kernel
theorem dX1_takeRead_94 : decode cX1_takeRead 94 = .ok (.ifCond .ne 13, 3) := by decide +kernel
theorem dX1_takeRead_97 : decode cX1_takeRead 97 = .ok (.aload_n 0, 1) := by decide +kernel
theorem dX1_takeRead_98 : decode cX1_takeRead 98 = .ok (.getfield 83, 3) := by decide +kernel
theorem dX1_takeRead_101 : decode cX1_takeRead 101 = .ok (.iconst 2, 1) := by decide +kernel
theorem dX1_takeRead_102 : decode cX1_takeRead 102 = .ok (.dup2, 1) := by decide +kernel
theorem dX1_takeRead_103 : decode cX1_takeRead 103 = .ok (.iaload, 1) := by decide +kernel
theorem dX1_takeRead_104 : decode cX1_takeRead 104 = .ok (.iconst 1, 1) := by decide +kernel
theorem dX1_takeRead_105 : decode cX1_takeRead 105 = .ok (.iadd, 1) := by decide +kernel
theorem dX1_takeRead_106 : decode cX1_takeRead 106 = .ok (.iastore, 1) := by decide +kernel
theorem dX1_takeRead_107 : decode cX1_takeRead 107 = .ok (.return_, 1) := by decide +kernel
theorem cwX1_takeRead : mw_cwV yX1_takeRead cX1_takeRead 5 (none) 2 := ⟨⟨wd_3, wd_1642, by decide +kernel⟩, wd_1641, sl_115⟩
set_option maxHeartbeats 4000000 in
set_option maxRecDepth 100000 in
theorem tX1_takeRead (l : Launch) (G : mwG) (ad : Nat → Nat) (fu : Nat) (a1 : Int32) (a2 : Int64) (M : mwM) (L : mwL) {M0 : mwM} {L0 : mwL} (hD : DX1_takeRead fu a1 a2 M L = some (M0, L0)) : Met l yX1_takeRead (Cond.code yX1_takeRead cX1_takeRead 5 (none) :: GT) ({ frames := 1, cells := 0, slots := 0, locals := 21 }) (mw_Pre G ad NF TF FF M L [.ref (ad 3), .int a1, .long a2]) (mw_Qv G ad NF TF FF (mw_eqV M0 L0)) 0 0 (mw_fr G) := by
  refine mw_enter (by decide) (Nat.le_of_ble_eq_true rfl) ?_
  intro p e s m below meth c ls C hr hlocks hnm hw hl
  have hl : lv_has ls 5 [(0, .ref (ad 3)), (1, .int a1), (2, .long a2)] := hl
  have hb107 : ∀ (M : mwM) (L : mwL) (H : Heap) (locs : List Loc) (ls : Array Slot), fX1_takeRead_b107 fu a1 a2 M L = some (M0, L0) → mw_W G ad NF TF FF M L H locs → lv_has ls 5 [] → W p l e ({ frames := 1, cells := 0, slots := 0, locals := 21 }) s m [.ref (ad 3), .int a1, .long a2].toArray below meth c H locs 0 0 (MQ below (mw_Qv G ad NF TF FF (mw_eqV M0 L0)) [.ref (ad 3), .int a1, .long a2].toArray s 0 0 (mw_fr G)) (F0 m 107 ls []) := by
    intro M L H locs ls hD hw hl
    unfold fX1_takeRead_b107 at hD
    exact mr_vret C hr hlocks hw (Option.some.inj hD) dX1_takeRead_107
  have hb24 : ∀ (M : mwM) (L : mwL) (H : Heap) (locs : List Loc) (ls : Array Slot), fX1_takeRead_b24 fu a1 a2 M L = some (M0, L0) → mw_W G ad NF TF FF M L H locs → lv_has ls 5 [(0, .ref (ad 3)), (1, .int a1), (2, .long a2)] → W p l e ({ frames := 1, cells := 0, slots := 0, locals := 21 }) s m [.ref (ad 3), .int a1, .long a2].toArray below meth c H locs 0 0 (MQ below (mw_Qv G ad NF TF FF (mw_eqV M0 L0)) [.ref (ad 3), .int a1, .long a2].toArray s 0 0 (mw_fr G)) (F0 m 24 ls []) := by
    intro M L H locs ls hD hw hl
    unfold fX1_takeRead_b24 at hD
    refine lv_aload_n C.1.1 C.1.2.1 dX1_takeRead_24 rfl (lv_at hl 0 rfl) ?_
    refine mr_getR C hw kc_1 10 (by decide) tf_3 ff_3_10 wd_535 dX1_takeRead_25 (by decide) rfl ?_
    refine lv_iconst (v := 4) C.1.1 C.1.2.1 dX1_takeRead_28 (by decide) ?_
    refine mr_aald C hw (by decide) tf_285 (by decide) (by decide) rfl rfl (show vp_in 4 5 from by unfold vp_in; decide) ff_285_4 dX1_takeRead_29 ?_
    refine lv_iload_n C.1.1 C.1.2.1 dX1_takeRead_30 rfl (lv_at hl 1 rfl) ?_
    refine lv_iconst (v := 1) C.1.1 C.1.2.1 dX1_takeRead_31 (by decide) ?_
    obtain ⟨q2, hD⟩ := g_ck hD
    obtain ⟨M3, eM3, hD⟩ := g_let hD
    refine mr_iast C hw (by decide) tf_290 q2 dX1_takeRead_32 (fun H locs hw => ?_)
    replace hw : mw_W G ad NF TF FF M3 L H locs := by rw [eM3]; exact hw
    refine lv_aload_n C.1.1 C.1.2.1 dX1_takeRead_33 rfl (lv_at hl 0 rfl) ?_
    refine mr_getR C hw kc_1 11 (by decide) tf_3 ff_3_11 wd_536 dX1_takeRead_34 (by decide) rfl ?_
    refine lv_iload_n C.1.1 C.1.2.1 dX1_takeRead_37 rfl (lv_at hl 1 rfl) ?_
    refine lv_lload_n C.1.1 C.1.2.1 dX1_takeRead_38 rfl (lv_at hl 2 rfl) ?_
    obtain ⟨q4, hD⟩ := g_ck hD
    obtain ⟨L5, eL5, hD⟩ := g_let hD
    refine mr_last C hw (by decide) tf_291 q4 dX1_takeRead_39 (fun H locs hw => ?_)
    replace hw : mw_W G ad NF TF FF M3 L5 H locs := by rw [eL5]; exact hw
    refine lv_aload_n C.1.1 C.1.2.1 dX1_takeRead_40 rfl (lv_at hl 0 rfl) ?_
    refine mr_getR C hw kc_1 0 (by decide) tf_3 ff_3_0 wd_510 dX1_takeRead_41 (by decide) rfl ?_
    refine lv_aload_n C.1.1 C.1.2.1 dX1_takeRead_44 rfl (lv_at hl 0 rfl) ?_
    refine mr_getR C hw kc_1 10 (by decide) tf_3 ff_3_10 wd_535 dX1_takeRead_45 (by decide) rfl ?_
    refine lv_iconst (v := 1) C.1.1 C.1.2.1 dX1_takeRead_48 (by decide) ?_
    refine mr_aald C hw (by decide) tf_285 (by decide) (by decide) rfl rfl (show vp_in 1 5 from by unfold vp_in; decide) ff_285_1 dX1_takeRead_49 ?_
    refine lv_iload_n C.1.1 C.1.2.1 dX1_takeRead_50 rfl (lv_at hl 1 rfl) ?_
    obtain ⟨q7, hD⟩ := g_ck hD
    refine mr_iald C hw (by decide) tf_287 q7 dX1_takeRead_51 ?_
    obtain ⟨q8, hD⟩ := g_ck hD
    refine mr_aald C hw (by decide) tf_4 (by decide) (by decide) rfl rfl q8 (fr_4 _ (g_lt q8)) dX1_takeRead_52 ?_
    refine lv_astore (lv' := [(4, .ref (ad ((293 + 36 * (M3 287 a1.toNatClampNeg).toNatClampNeg) + 0))), (0, .ref (ad 3)), (1, .int a1), (2, .long a2)]) C.1.1 C.1.2.1 dX1_takeRead_53 hl (by decide) rfl (fun ls hl => ?_)
    refine lv_aload C.1.1 C.1.2.1 dX1_takeRead_55 (lv_at hl 0 rfl) ?_
    refine mr_getNR C hw kc_2 3 (Ch_N0 (isCh_of (g_lt q8))) (Ch_T0 (isCh_of (g_lt q8))) (Ch_F0_3 (isCh_of (g_lt q8))) nd_449 dX1_takeRead_57 (by decide) rfl ?_
    refine lv_aload_n C.1.1 C.1.2.1 dX1_takeRead_60 rfl (lv_at hl 1 rfl) ?_
    refine mr_getR C hw kc_1 10 (by decide) tf_3 ff_3_10 wd_535 dX1_takeRead_61 (by decide) rfl ?_
    refine lv_iconst (v := 2) C.1.1 C.1.2.1 dX1_takeRead_64 (by decide) ?_
    refine mr_aald C hw (by decide) tf_285 (by decide) (by decide) rfl rfl (show vp_in 2 5 from by unfold vp_in; decide) ff_285_2 dX1_takeRead_65 ?_
    refine lv_iload_n C.1.1 C.1.2.1 dX1_takeRead_66 rfl (lv_at hl 2 rfl) ?_
    obtain ⟨q10, hD⟩ := g_ck hD
    refine mr_iald C hw (by decide) tf_288 q10 dX1_takeRead_67 ?_
    refine lv_lload_n C.1.1 C.1.2.1 dX1_takeRead_68 rfl (lv_at hl 3 rfl) ?_
    obtain ⟨q11, hD⟩ := g_ck hD
    obtain ⟨L12, eL12, hD⟩ := g_let hD
    refine mr_last C hw (Ch_N34 (isCh_of (g_lt q8))) (Ch_T34 (isCh_of (g_lt q8))) q11 dX1_takeRead_69 (fun H locs hw => ?_)
    replace hw : mw_W G ad NF TF FF M3 L12 H locs := by rw [eL12]; exact hw
    refine lv_aload_n C.1.1 C.1.2.1 dX1_takeRead_70 rfl (lv_at hl 1 rfl) ?_
    refine mr_getR C hw kc_1 10 (by decide) tf_3 ff_3_10 wd_535 dX1_takeRead_71 (by decide) rfl ?_
    refine lv_iconst (v := 3) C.1.1 C.1.2.1 dX1_takeRead_74 (by decide) ?_
    refine mr_aald C hw (by decide) tf_285 (by decide) (by decide) rfl rfl (show vp_in 3 5 from by unfold vp_in; decide) ff_285_3 dX1_takeRead_75 ?_
    refine lv_iload_n C.1.1 C.1.2.1 dX1_takeRead_76 rfl (lv_at hl 2 rfl) ?_
    obtain ⟨q14, hD⟩ := g_ck hD
    refine mr_iald C hw (by decide) tf_289 q14 dX1_takeRead_77 ?_
    refine lv_if_eq (tgt := 107) C.1.1 C.1.2.1 dX1_takeRead_78 (by decide) (fun c15 => ?_) (fun c15 => ?_)
    · replace hD := g_pos c15 hD
      exact hb107 M3 L12 _ _ ls hD hw (lv_sub hl [] rfl)
    · replace hD := g_neg c15 hD
      refine lv_aload C.1.1 C.1.2.1 dX1_takeRead_81 (lv_at hl 0 rfl) ?_
      refine lv_aload_n C.1.1 C.1.2.1 dX1_takeRead_83 rfl (lv_at hl 1 rfl) ?_
      refine mr_getR C hw kc_1 10 (by decide) tf_3 ff_3_10 wd_535 dX1_takeRead_84 (by decide) rfl ?_
      refine lv_iconst (v := 3) C.1.1 C.1.2.1 dX1_takeRead_87 (by decide) ?_
      refine mr_aald C hw (by decide) tf_285 (by decide) (by decide) rfl rfl (show vp_in 3 5 from by unfold vp_in; decide) ff_285_3 dX1_takeRead_88 ?_
      refine lv_iload_n C.1.1 C.1.2.1 dX1_takeRead_89 rfl (lv_at hl 2 rfl) ?_
      obtain ⟨q17, hD⟩ := g_ck hD
      refine mr_iald C hw (by decide) tf_289 q17 dX1_takeRead_90 ?_
      obtain ⟨r20, M18, L19, h1, hD⟩ := g_b3 hD
      refine md_cvI (As := [.int (M3 289 a1.toNatClampNeg)]) (rest := []) C hw (tX2_queue l G ad fu ((293 + 36 * (M3 287 a1.toNatClampNeg).toNatClampNeg)) (M3 289 a1.toNatClampNeg) M3 L12 h1 (isCh_of (g_lt q8))) kc_2 (Ch_N0 (isCh_of (g_lt q8))) (Ch_T0 (isCh_of (g_lt q8))) wd_1643 cwX2_queue ⟨Nat.le_of_ble_eq_true rfl, Nat.le_of_ble_eq_true rfl⟩ rfl hl.1 (Nat.le_of_ble_eq_true rfl) dX1_takeRead_91 rfl rfl ⟨Nat.zero_le _, Nat.zero_le _⟩ rfl (fun H locs hw => ?_)
      refine lv_if_ne (tgt := 107) C.1.1 C.1.2.1 dX1_takeRead_94 (by decide) (fun c21 => ?_) (fun c21 => ?_)
      · replace hD := g_neg c21 hD
        exact hb107 M18 L19 _ _ ls hD hw (lv_sub hl [] rfl)
      · replace hD := g_pos c21 hD
        refine lv_aload_n C.1.1 C.1.2.1 dX1_takeRead_97 rfl (lv_at hl 1 rfl) ?_
        refine mr_getR C hw kc_1 12 (by decide) tf_3 ff_3_12 wd_537 dX1_takeRead_98 (by decide) rfl ?_
        refine lv_iconst (v := 2) C.1.1 C.1.2.1 dX1_takeRead_101 (by decide) ?_
        refine lv_dup2_11 C.1.1 C.1.2.1 dX1_takeRead_102 rfl rfl ?_
        refine mr_iald C hw (by decide) tf_292 (show vp_in 2 5 from by unfold vp_in; decide) dX1_takeRead_103 ?_
        refine lv_iconst (v := 1) C.1.1 C.1.2.1 dX1_takeRead_104 (by decide) ?_
        refine lv_iadd C.1.1 C.1.2.1 dX1_takeRead_105 ?_
        obtain ⟨M24, eM24, hD⟩ := g_let hD
        refine mr_iast C hw (by decide) tf_292 (show vp_in 2 5 from by unfold vp_in; decide) dX1_takeRead_106 (fun H locs hw => ?_)
        replace hw : mw_W G ad NF TF FF M24 L19 H locs := by rw [eM24]; exact hw
        exact hb107 M24 L19 _ _ ls hD hw (lv_sub hl [] rfl)
  unfold DX1_takeRead at hD
  refine lv_aload_n C.1.1 C.1.2.1 dX1_takeRead_0 rfl (lv_at hl 0 rfl) ?_
  refine mr_getR C hw kc_1 10 (by decide) tf_3 ff_3_10 wd_535 dX1_takeRead_1 (by decide) rfl ?_
  refine lv_iconst (v := 4) C.1.1 C.1.2.1 dX1_takeRead_4 (by decide) ?_
  refine mr_aald C hw (by decide) tf_285 (by decide) (by decide) rfl rfl (show vp_in 4 5 from by unfold vp_in; decide) ff_285_4 dX1_takeRead_5 ?_
  refine lv_iload_n C.1.1 C.1.2.1 dX1_takeRead_6 rfl (lv_at hl 1 rfl) ?_
  obtain ⟨q26, hD⟩ := g_ck hD
  refine mr_iald C hw (by decide) tf_290 q26 dX1_takeRead_7 ?_
  refine lv_iconst (v := 1) C.1.1 C.1.2.1 dX1_takeRead_8 (by decide) ?_
  refine lv_icmp_ne (tgt := 24) C.1.1 C.1.2.1 dX1_takeRead_9 (by decide) (fun c27 => ?_) (fun c27 => ?_)
  · replace hD := g_neg c27 hD
    exact hb24 M L _ _ ls hD hw (lv_sub hl [0, 1, 2] rfl)
  · replace hD := g_pos c27 hD
    refine lv_aload_n C.1.1 C.1.2.1 dX1_takeRead_12 rfl (lv_at hl 0 rfl) ?_
    refine mr_getR C hw kc_1 11 (by decide) tf_3 ff_3_11 wd_536 dX1_takeRead_13 (by decide) rfl ?_
    refine lv_iload_n C.1.1 C.1.2.1 dX1_takeRead_16 rfl (lv_at hl 1 rfl) ?_
    obtain ⟨q28, hD⟩ := g_ck hD
    refine mr_lald C hw (by decide) tf_291 q28 dX1_takeRead_17 ?_
    refine lv_lload_n C.1.1 C.1.2.1 dX1_takeRead_18 rfl (lv_at hl 2 rfl) ?_
    refine W.lcmp C.1.1 C.1.2.1 dX1_takeRead_19 ?_
    refine lv_if_ne (tgt := 24) C.1.1 C.1.2.1 dX1_takeRead_20 (by decide) (fun c29 => ?_) (fun c29 => ?_)
    · replace hD := g_neg c29 hD
      exact hb24 M L _ _ ls hD hw (lv_sub hl [0, 1, 2] rfl)
    · replace hD := g_pos c29 hD
      exact mr_vret C hr hlocks hw (Option.some.inj hD) dX1_takeRead_23

theorem dX1_takeSignals_0 : decode cX1_takeSignals 0 = .ok (.iload_n 2, 1) := by decide +kernel
theorem dX1_takeSignals_1 : decode cX1_takeSignals 1 = .ok (.ifCond .ge 4, 3) := by decide +kernel
theorem dX1_takeSignals_4 : decode cX1_takeSignals 4 = .ok (.return_, 1) := by decide +kernel
theorem dX1_takeSignals_5 : decode cX1_takeSignals 5 = .ok (.aload_n 0, 1) := by decide +kernel
theorem dX1_takeSignals_6 : decode cX1_takeSignals 6 = .ok (.getfield 34, 3) := by decide +kernel
theorem dX1_takeSignals_9 : decode cX1_takeSignals 9 = .ok (.getfield 134, 3) := by decide +kernel
theorem dX1_takeSignals_12 : decode cX1_takeSignals 12 = .ok (.iconst 2, 1) := by decide +kernel
theorem dX1_takeSignals_13 : decode cX1_takeSignals 13 = .ok (.aaload, 1) := by decide +kernel
theorem dX1_takeSignals_14 : decode cX1_takeSignals 14 = .ok (.iload_n 2, 1) := by decide +kernel
theorem dX1_takeSignals_15 : decode cX1_takeSignals 15 = .ok (.iaload, 1) := by decide +kernel
theorem dX1_takeSignals_16 : decode cX1_takeSignals 16 = .ok (.ifCond .eq 31, 3) := by decide +kernel
theorem dX1_takeSignals_19 : decode cX1_takeSignals 19 = .ok (.aload_n 0, 1) := by decide +kernel
theorem dX1_takeSignals_20 : decode cX1_takeSignals 20 = .ok (.getfield 34, 3) := by decide +kernel
theorem dX1_takeSignals_23 : decode cX1_takeSignals 23 = .ok (.iload_n 1, 1) := by decide +kernel
theorem dX1_takeSignals_24 : decode cX1_takeSignals 24 = .ok (.iload_n 2, 1) := by decide +kernel
theorem dX1_takeSignals_25 : decode cX1_takeSignals 25 = .ok (.aload_n 3, 1) := by decide +kernel
theorem dX1_takeSignals_26 : decode cX1_takeSignals 26 = .ok (.aload_n 0, 1) := by decide +kernel
theorem dX1_takeSignals_27 : decode cX1_takeSignals 27 = .ok (.getfield 41, 3) := by decide +kernel
theorem dX1_takeSignals_30 : decode cX1_takeSignals 30 = .ok (.invokevirtual 224, 3) := by decide +kernel
theorem dX1_takeSignals_33 : decode cX1_takeSignals 33 = .ok (.ifCond .ne 14, 3) := by decide +kernel
theorem dX1_takeSignals_36 : decode cX1_takeSignals 36 = .ok (.aload_n 0, 1) := by decide +kernel
theorem dX1_takeSignals_37 : decode cX1_takeSignals 37 = .ok (.getfield 83, 3) := by decide +kernel
theorem dX1_takeSignals_40 : decode cX1_takeSignals 40 = .ok (.iconst 1, 1) := by decide +kernel
theorem dX1_takeSignals_41 : decode cX1_takeSignals 41 = .ok (.dup2, 1) := by decide +kernel
theorem dX1_takeSignals_42 : decode cX1_takeSignals 42 = .ok (.iaload, 1) := by decide +kernel
theorem dX1_takeSignals_43 : decode cX1_takeSignals 43 = .ok (.iconst 1, 1) := by decide +kernel
theorem dX1_takeSignals_44 : decode cX1_takeSignals 44 = .ok (.iadd, 1) := by decide +kernel
theorem dX1_takeSignals_45 : decode cX1_takeSignals 45 = .ok (.iastore, 1) := by decide +kernel
theorem dX1_takeSignals_46 : decode cX1_takeSignals 46 = .ok (.return_, 1) := by decide +kernel
theorem dX1_takeSignals_47 : decode cX1_takeSignals 47 = .ok (.iconst 0, 1) := by decide +kernel
theorem dX1_takeSignals_48 : decode cX1_takeSignals 48 = .ok (.istore 4, 2) := by decide +kernel
theorem dX1_takeSignals_50 : decode cX1_takeSignals 50 = .ok (.iload 4, 2) := by decide +kernel
theorem dX1_takeSignals_52 : decode cX1_takeSignals 52 = .ok (.aload_n 0, 1) := by decide +kernel
theorem dX1_takeSignals_53 : decode cX1_takeSignals 53 = .ok (.getfield 48, 3) := by decide +kernel
theorem dX1_takeSignals_56 : decode cX1_takeSignals 56 = .ok (.getfield 228, 3) := by decide +kernel
theorem dX1_takeSignals_59 : decode cX1_takeSignals 59 = .ok (.if_icmp .ge 55, 3) := by decide +kernel
theorem dX1_takeSignals_62 : decode cX1_takeSignals 62 = .ok (.aload_n 0, 1) := by decide +kernel
theorem dX1_takeSignals_63 : decode cX1_takeSignals 63 = .ok (.getfield 48, 3) := by decide +kernel
theorem dX1_takeSignals_66 : decode cX1_takeSignals 66 = .ok (.iload 4, 2) := by decide +kernel
theorem dX1_takeSignals_68 : decode cX1_takeSignals 68 = .ok (.iload_n 1, 1) := by decide +kernel
theorem dX1_takeSignals_69 : decode cX1_takeSignals 69 = .ok (.invokevirtual 230, 3) := by decide +kernel
theorem dX1_takeSignals_72 : decode cX1_takeSignals 72 = .ok (.ifCond .eq 36, 3) := by decide +kernel
theorem dX1_takeSignals_75 : decode cX1_takeSignals 75 = .ok (.aload_n 0, 1) := by decide +kernel
theorem dX1_takeSignals_76 : decode cX1_takeSignals 76 = .ok (.getfield 34, 3) := by decide +kernel
theorem dX1_takeSignals_79 : decode cX1_takeSignals 79 = .ok (.aload_n 0, 1) := by decide +kernel
theorem dX1_takeSignals_80 : decode cX1_takeSignals 80 = .ok (.getfield 48, 3) := by decide +kernel
theorem dX1_takeSignals_83 : decode cX1_takeSignals 83 = .ok (.iload 4, 2) := by decide +kernel
theorem dX1_takeSignals_85 : decode cX1_takeSignals 85 = .ok (.invokevirtual 233, 3) := by decide +kernel
theorem dX1_takeSignals_88 : decode cX1_takeSignals 88 = .ok (.iload_n 2, 1) := by decide +kernel
theorem dX1_takeSignals_89 : decode cX1_takeSignals 89 = .ok (.invokevirtual 236, 3) := by decide +kernel
theorem dX1_takeSignals_92 : decode cX1_takeSignals 92 = .ok (.ifCond .eq 16, 3) := by decide +kernel
theorem dX1_takeSignals_95 : decode cX1_takeSignals 95 = .ok (.aload_n 0, 1) := by decide +kernel
theorem dX1_takeSignals_96 : decode cX1_takeSignals 96 = .ok (.getfield 48, 3) := by decide +kernel
theorem dX1_takeSignals_99 : decode cX1_takeSignals 99 = .ok (.iload 4, 2) := by decide +kernel
theorem dX1_takeSignals_101 : decode cX1_takeSignals 101 = .ok (.aload_n 0, 1) := by decide +kernel
theorem dX1_takeSignals_102 : decode cX1_takeSignals 102 = .ok (.getfield 100, 3) := by decide +kernel
theorem dX1_takeSignals_105 : decode cX1_takeSignals 105 = .ok (.invokevirtual 239, 3) := by decide +kernel
theorem dX1_takeSignals_108 : decode cX1_takeSignals 108 = .ok (.iinc 4 1, 3) := by decide +kernel
theorem dX1_takeSignals_111 : decode cX1_takeSignals 111 = .ok (.goto (-61), 3) := by decide +kernel
theorem dX1_takeSignals_114 : decode cX1_takeSignals 114 = .ok (.iconst 0, 1) := by decide +kernel
theorem dX1_takeSignals_115 : decode cX1_takeSignals 115 = .ok (.istore 4, 2) := by decide +kernel
theorem dX1_takeSignals_117 : decode cX1_takeSignals 117 = .ok (.iload 4, 2) := by decide +kernel
theorem dX1_takeSignals_119 : decode cX1_takeSignals 119 = .ok (.aload_n 0, 1) := by decide +kernel
theorem dX1_takeSignals_120 : decode cX1_takeSignals 120 = .ok (.getfield 97, 3) := by decide +kernel
theorem dX1_takeSignals_123 : decode cX1_takeSignals 123 = .ok (.if_icmp .ge 73, 3) := by decide +kernel
theorem dX1_takeSignals_126 : decode cX1_takeSignals 126 = .ok (.aload_n 0, 1) := by decide +kernel
theorem dX1_takeSignals_127 : decode cX1_takeSignals 127 = .ok (.getfield 11, 3) := by decide +kernel
theorem dX1_takeSignals_130 : decode cX1_takeSignals 130 = .ok (.aload_n 0, 1) := by decide +kernel
theorem dX1_takeSignals_131 : decode cX1_takeSignals 131 = .ok (.getfield 76, 3) := by decide +kernel
theorem dX1_takeSignals_134 : decode cX1_takeSignals 134 = .ok (.iconst 1, 1) := by decide +kernel
theorem dX1_takeSignals_135 : decode cX1_takeSignals 135 = .ok (.aaload, 1) := by decide +kernel
theorem dX1_takeSignals_136 : decode cX1_takeSignals 136 = .ok (.iload 4, 2) := by decide +kernel
theorem dX1_takeSignals_138 : decode cX1_takeSignals 138 = .ok (.iaload, 1) := by decide +kernel
theorem dX1_takeSignals_139 : decode cX1_takeSignals 139 = .ok (.aaload, 1) := by decide +kernel
theorem dX1_takeSignals_140 : decode cX1_takeSignals 140 = .ok (.getfield 87, 3) := by decide +kernel
theorem dX1_takeSignals_143 : decode cX1_takeSignals 143 = .ok (.iload_n 1, 1) := by decide +kernel
theorem dX1_takeSignals_144 : decode cX1_takeSignals 144 = .ok (.if_icmp .ne 46, 3) := by decide +kernel
theorem dX1_takeSignals_147 : decode cX1_takeSignals 147 = .ok (.aload_n 0, 1) := by decide +kernel
theorem dX1_takeSignals_148 : decode cX1_takeSignals 148 = .ok (.getfield 34, 3) := by decide +kernel
theorem dX1_takeSignals_151 : decode cX1_takeSignals 151 = .ok (.aload_n 0, 1) := by decide +kernel
theorem dX1_takeSignals_152 : decode cX1_takeSignals 152 = .ok (.getfield 76, 3) := by decide +kernel
theorem dX1_takeSignals_155 : decode cX1_takeSignals 155 = .ok (.iconst 0, 1) := by decide +kernel
theorem dX1_takeSignals_156 : decode cX1_takeSignals 156 = .ok (.aaload, 1) := by decide +kernel
theorem dX1_takeSignals_157 : decode cX1_takeSignals 157 = .ok (.iload 4, 2) := by decide +kernel
theorem dX1_takeSignals_159 : decode cX1_takeSignals 159 = .ok (.iaload, 1) := by decide +kernel
theorem dX1_takeSignals_160 : decode cX1_takeSignals 160 = .ok (.iload_n 2, 1) := by decide +kernel
theorem dX1_takeSignals_161 : decode cX1_takeSignals 161 = .ok (.invokevirtual 236, 3) := by decide +kernel
theorem dX1_takeSignals_164 : decode cX1_takeSignals 164 = .ok (.ifCond .eq 26, 3) := by decide +kernel
theorem dX1_takeSignals_167 : decode cX1_takeSignals 167 = .ok (.aload_n 0, 1) := by decide +kernel
theorem dX1_takeSignals_168 : decode cX1_takeSignals 168 = .ok (.iload 4, 2) := by decide +kernel
theorem dX1_takeSignals_170 : decode cX1_takeSignals 170 = .ok (.aload_n 0, 1) := by decide +kernel
theorem dX1_takeSignals_171 : decode cX1_takeSignals 171 = .ok (.getfield 34, 3) := by decide +kernel
theorem dX1_takeSignals_174 : decode cX1_takeSignals 174 = .ok (.aload_n 0, 1) := by decide +kernel
theorem dX1_takeSignals_175 : decode cX1_takeSignals 175 = .ok (.getfield 76, 3) := by decide +kernel
theorem dX1_takeSignals_178 : decode cX1_takeSignals 178 = .ok (.iconst 0, 1) := by decide +kernel
theorem dX1_takeSignals_179 : decode cX1_takeSignals 179 = .ok (.aaload, 1) := by decide +kernel
theorem dX1_takeSignals_180 : decode cX1_takeSignals 180 = .ok (.iload 4, 2) := by decide +kernel
theorem dX1_takeSignals_182 : decode cX1_takeSignals 182 = .ok (.iaload, 1) := by decide +kernel
theorem dX1_takeSignals_183 : decode cX1_takeSignals 183 = .ok (.aload_n 3, 1) := by decide +kernel
theorem dX1_takeSignals_184 : decode cX1_takeSignals 184 = .ok (.invokevirtual 242, 3) := by decide +kernel
theorem dX1_takeSignals_187 : decode cX1_takeSignals 187 = .ok (.invokevirtual 246, 3) := by decide +kernel
theorem dX1_takeSignals_190 : decode cX1_takeSignals 190 = .ok (.iinc 4 1, 3) := by decide +kernel
theorem dX1_takeSignals_193 : decode cX1_takeSignals 193 = .ok (.goto (-76), 3) := by decide +kernel
theorem dX1_takeSignals_196 : decode cX1_takeSignals 196 = .ok (.return_, 1) := by decide +kernel
theorem cwX1_takeSignals : mw_cwV yX1_takeSignals cX1_takeSignals 5 (none) 3 := ⟨⟨wd_3, wd_1611, by decide +kernel⟩, wd_1610, sl_114⟩
set_option maxHeartbeats 4000000 in
set_option maxRecDepth 100000 in
theorem tX1_takeSignals (l : Launch) (G : mwG) (ad : Nat → Nat) (fu : Nat) (a1 : Int32) (a2 : Int32) (a3 : Nat) (n3 : Nat) (M : mwM) (L : mwL) {M0 : mwM} {L0 : mwL} (hD : DX1_takeSignals fu a1 a2 a3 n3 M L = some (M0, L0)) (hk3 : a3 < NF) (hT3 : TF a3 = (0, n3)) : Met l yX1_takeSignals (Cond.code yX1_takeSignals cX1_takeSignals 5 (none) :: GT) ({ frames := 4, cells := 0, slots := 0, locals := 104 }) (mw_Pre G ad NF TF FF M L [.ref (ad 3), .int a1, .int a2, .ref (ad a3)]) (mw_Qv G ad NF TF FF (mw_eqV M0 L0)) 0 0 (mw_fr G) := by
  refine mw_enter (by decide) (Nat.le_of_ble_eq_true rfl) ?_
  intro p e s m below meth c ls C hr hlocks hnm hw hl
  have hl : lv_has ls 5 [(0, .ref (ad 3)), (1, .int a1), (2, .int a2), (3, .ref (ad a3))] := hl
  have hh117 : ∀ (f : Nat) (v4 : Int32) (M : mwM) (L : mwL) (H : Heap) (locs : List Loc) (ls : Array Slot), fX1_takeSignals_h117 fu a1 a2 a3 n3 f (v4, M, L) = some (M0, L0) → mw_W G ad NF TF FF M L H locs → lv_has ls 5 [(0, .ref (ad 3)), (1, .int a1), (2, .int a2), (3, .ref (ad a3)), (4, .int v4)] → W p l e ({ frames := 4, cells := 0, slots := 0, locals := 104 }) s m [.ref (ad 3), .int a1, .int a2, .ref (ad a3)].toArray below meth c H locs 0 0 (MQ below (mw_Qv G ad NF TF FF (mw_eqV M0 L0)) [.ref (ad 3), .int a1, .int a2, .ref (ad a3)].toArray s 0 0 (mw_fr G)) (F0 m 117 ls []) := by
    intro f
    induction f with
    | zero => intro v4 M L H locs ls hD; cases hD
    | succ f117 ih117 =>
      intro v4 M L H locs ls hD hw hl
      replace hD : fX1_takeSignals_i117 fu a1 a2 a3 n3 (fX1_takeSignals_h117 fu a1 a2 a3 n3 f117) v4 M L = some (M0, L0) := hD
      have hb190 : ∀ (v4 : Int32) (M : mwM) (L : mwL) (H : Heap) (locs : List Loc) (ls : Array Slot), fX1_takeSignals_b190 fu a1 a2 a3 n3 (fX1_takeSignals_h117 fu a1 a2 a3 n3 f117) v4 M L = some (M0, L0) → mw_W G ad NF TF FF M L H locs → lv_has ls 5 [(0, .ref (ad 3)), (1, .int a1), (2, .int a2), (3, .ref (ad a3)), (4, .int v4)] → W p l e ({ frames := 4, cells := 0, slots := 0, locals := 104 }) s m [.ref (ad 3), .int a1, .int a2, .ref (ad a3)].toArray below meth c H locs 0 0 (MQ below (mw_Qv G ad NF TF FF (mw_eqV M0 L0)) [.ref (ad 3), .int a1, .int a2, .ref (ad a3)].toArray s 0 0 (mw_fr G)) (F0 m 190 ls []) := by
        intro v4 M L H locs ls hD hw hl
        unfold fX1_takeSignals_b190 at hD
        obtain ⟨x34, ex34, hD⟩ := g_let hD
        refine lv_iinc (v := x34) (lv' := [(4, .int x34), (0, .ref (ad 3)), (1, .int a1), (2, .int a2), (3, .ref (ad a3))]) C.1.1 C.1.2.1 dX1_takeSignals_190 hl (k := 4) rfl (by rw [ex34]; rfl) (by decide) rfl (fun ls hl => ?_)
        refine lv_goto (tgt := 117) C.1.1 C.1.2.1 dX1_takeSignals_193 (by decide) ?_
        exact ih117 x34 M L _ _ ls hD hw (lv_sub hl [1, 2, 3, 4, 0] rfl)
      unfold fX1_takeSignals_i117 at hD
      refine lv_iload C.1.1 C.1.2.1 dX1_takeSignals_117 (lv_at hl 4 rfl) ?_
      refine lv_aload_n C.1.1 C.1.2.1 dX1_takeSignals_119 rfl (lv_at hl 0 rfl) ?_
      refine mr_getI C hw kc_1 15 (by decide) tf_3 wd_545 dX1_takeSignals_120 (by decide) rfl ?_
      refine lv_icmp_ge (tgt := 196) C.1.1 C.1.2.1 dX1_takeSignals_123 (by decide) (fun c16 => ?_) (fun c16 => ?_)
      · replace hD := g_pos c16 hD
        exact mr_vret C hr hlocks hw (Option.some.inj hD) dX1_takeSignals_196
      · replace hD := g_neg c16 hD
        refine lv_aload_n C.1.1 C.1.2.1 dX1_takeSignals_126 rfl (lv_at hl 0 rfl) ?_
        refine mr_getR C hw kc_1 0 (by decide) tf_3 ff_3_0 wd_510 dX1_takeSignals_127 (by decide) rfl ?_
        refine lv_aload_n C.1.1 C.1.2.1 dX1_takeSignals_130 rfl (lv_at hl 0 rfl) ?_
        refine mr_getR C hw kc_1 10 (by decide) tf_3 ff_3_10 wd_535 dX1_takeSignals_131 (by decide) rfl ?_
        refine lv_iconst (v := 1) C.1.1 C.1.2.1 dX1_takeSignals_134 (by decide) ?_
        refine mr_aald C hw (by decide) tf_285 (by decide) (by decide) rfl rfl (show vp_in 1 5 from by unfold vp_in; decide) ff_285_1 dX1_takeSignals_135 ?_
        refine lv_iload C.1.1 C.1.2.1 dX1_takeSignals_136 (lv_at hl 4 rfl) ?_
        obtain ⟨q18, hD⟩ := g_ck hD
        refine mr_iald C hw (by decide) tf_287 q18 dX1_takeSignals_138 ?_
        obtain ⟨q19, hD⟩ := g_ck hD
        refine mr_aald C hw (by decide) tf_4 (by decide) (by decide) rfl rfl q19 (fr_4 _ (g_lt q19)) dX1_takeSignals_139 ?_
        refine mr_getNI C hw kc_2 5 (Ch_N0 (isCh_of (g_lt q19))) (Ch_T0 (isCh_of (g_lt q19))) nd_454 dX1_takeSignals_140 (by decide) rfl ?_
        refine lv_iload_n C.1.1 C.1.2.1 dX1_takeSignals_143 rfl (lv_at hl 1 rfl) ?_
        refine lv_icmp_ne (tgt := 190) C.1.1 C.1.2.1 dX1_takeSignals_144 (by decide) (fun c20 => ?_) (fun c20 => ?_)
        · replace hD := g_neg c20 hD
          exact hb190 v4 M L _ _ ls hD hw (lv_sub hl [0, 1, 2, 3, 4] rfl)
        · replace hD := g_pos c20 hD
          refine lv_aload_n C.1.1 C.1.2.1 dX1_takeSignals_147 rfl (lv_at hl 0 rfl) ?_
          refine mr_getR C hw kc_1 3 (by decide) tf_3 ff_3_3 wd_519 dX1_takeSignals_148 (by decide) rfl ?_
          refine lv_aload_n C.1.1 C.1.2.1 dX1_takeSignals_151 rfl (lv_at hl 0 rfl) ?_
          refine mr_getR C hw kc_1 10 (by decide) tf_3 ff_3_10 wd_535 dX1_takeSignals_152 (by decide) rfl ?_
          refine lv_iconst (v := 0) C.1.1 C.1.2.1 dX1_takeSignals_155 (by decide) ?_
          refine mr_aald C hw (by decide) tf_285 (by decide) (by decide) rfl rfl (show vp_in 0 5 from by unfold vp_in; decide) ff_285_0 dX1_takeSignals_156 ?_
          refine lv_iload C.1.1 C.1.2.1 dX1_takeSignals_157 (lv_at hl 4 rfl) ?_
          obtain ⟨q22, hD⟩ := g_ck hD
          refine mr_iald C hw (by decide) tf_286 q22 dX1_takeSignals_159 ?_
          refine lv_iload_n C.1.1 C.1.2.1 dX1_takeSignals_160 rfl (lv_at hl 2 rfl) ?_
          obtain ⟨r25, M23, L24, h1, hD⟩ := g_b3 hD
          refine md_cvI (As := [.int (M 286 v4.toNatClampNeg), .int a2]) (rest := []) C hw (tX6_isIn l G ad fu (M 286 v4.toNatClampNeg) a2 M L h1) kc_6 (by decide) tf_61 wd_1625 cwX6_isIn ⟨Nat.le_of_ble_eq_true rfl, Nat.le_of_ble_eq_true rfl⟩ rfl hl.1 (Nat.le_of_ble_eq_true rfl) dX1_takeSignals_161 rfl rfl ⟨Nat.zero_le _, Nat.zero_le _⟩ rfl (fun H locs hw => ?_)
          refine lv_if_eq (tgt := 190) C.1.1 C.1.2.1 dX1_takeSignals_164 (by decide) (fun c26 => ?_) (fun c26 => ?_)
          · replace hD := g_pos c26 hD
            exact hb190 v4 M23 L24 _ _ ls hD hw (lv_sub hl [0, 1, 2, 3, 4] rfl)
          · replace hD := g_neg c26 hD
            refine lv_aload_n C.1.1 C.1.2.1 dX1_takeSignals_167 rfl (lv_at hl 0 rfl) ?_
            refine lv_iload C.1.1 C.1.2.1 dX1_takeSignals_168 (lv_at hl 4 rfl) ?_
            refine lv_aload_n C.1.1 C.1.2.1 dX1_takeSignals_170 rfl (lv_at hl 0 rfl) ?_
            refine mr_getR C hw kc_1 3 (by decide) tf_3 ff_3_3 wd_519 dX1_takeSignals_171 (by decide) rfl ?_
            refine lv_aload_n C.1.1 C.1.2.1 dX1_takeSignals_174 rfl (lv_at hl 0 rfl) ?_
            refine mr_getR C hw kc_1 10 (by decide) tf_3 ff_3_10 wd_535 dX1_takeSignals_175 (by decide) rfl ?_
            refine lv_iconst (v := 0) C.1.1 C.1.2.1 dX1_takeSignals_178 (by decide) ?_
            refine mr_aald C hw (by decide) tf_285 (by decide) (by decide) rfl rfl (show vp_in 0 5 from by unfold vp_in; decide) ff_285_0 dX1_takeSignals_179 ?_
            refine lv_iload C.1.1 C.1.2.1 dX1_takeSignals_180 (lv_at hl 4 rfl) ?_
            obtain ⟨q28, hD⟩ := g_ck hD
            refine mr_iald C hw (by decide) tf_286 q28 dX1_takeSignals_182 ?_
            refine lv_aload_n C.1.1 C.1.2.1 dX1_takeSignals_183 rfl (lv_at hl 3 rfl) ?_
            obtain ⟨r31, M29, L30, h1, hD⟩ := g_b3 hD
            refine md_cvL (As := [.int (M23 286 v4.toNatClampNeg), .ref (ad a3)]) (rest := [.int v4, .ref (ad 3)]) C hw (tX6_valueIn l G ad fu (M23 286 v4.toNatClampNeg) a3 n3 M23 L24 h1 hk3 hT3) kc_6 (by decide) tf_61 wd_1635 cwX6_valueIn ⟨Nat.le_of_ble_eq_true rfl, Nat.le_of_ble_eq_true rfl⟩ rfl hl.1 (Nat.le_of_ble_eq_true rfl) dX1_takeSignals_184 rfl rfl ⟨Nat.zero_le _, Nat.zero_le _⟩ rfl (fun H locs hw => ?_)
            obtain ⟨M32, L33, h1, hD⟩ := g_b2 hD
            refine md_cvV (As := [.int v4, .long r31]) (rest := []) C hw (tX1_takeRead l G ad fu v4 r31 M29 L30 h1) kc_1 (by decide) tf_3 wd_1639 cwX1_takeRead ⟨Nat.le_of_ble_eq_true rfl, Nat.le_of_ble_eq_true rfl⟩ rfl hl.1 (Nat.le_of_ble_eq_true rfl) dX1_takeSignals_187 rfl rfl ⟨Nat.zero_le _, Nat.zero_le _⟩ rfl (fun H locs hw => ?_)
            exact hb190 v4 M32 L33 _ _ ls hD hw (lv_sub hl [0, 1, 2, 3, 4] rfl)
  have hh50 : ∀ (f : Nat) (v4 : Int32) (M : mwM) (L : mwL) (H : Heap) (locs : List Loc) (ls : Array Slot), fX1_takeSignals_h50 fu a1 a2 a3 n3 f (v4, M, L) = some (M0, L0) → mw_W G ad NF TF FF M L H locs → lv_has ls 5 [(0, .ref (ad 3)), (1, .int a1), (2, .int a2), (3, .ref (ad a3)), (4, .int v4)] → W p l e ({ frames := 4, cells := 0, slots := 0, locals := 104 }) s m [.ref (ad 3), .int a1, .int a2, .ref (ad a3)].toArray below meth c H locs 0 0 (MQ below (mw_Qv G ad NF TF FF (mw_eqV M0 L0)) [.ref (ad 3), .int a1, .int a2, .ref (ad a3)].toArray s 0 0 (mw_fr G)) (F0 m 50 ls []) := by
    intro f
    induction f with
    | zero => intro v4 M L H locs ls hD; cases hD
    | succ f50 ih50 =>
      intro v4 M L H locs ls hD hw hl
      replace hD : fX1_takeSignals_i50 fu a1 a2 a3 n3 (fX1_takeSignals_h50 fu a1 a2 a3 n3 f50) v4 M L = some (M0, L0) := hD
      have hb108 : ∀ (v4 : Int32) (M : mwM) (L : mwL) (H : Heap) (locs : List Loc) (ls : Array Slot), fX1_takeSignals_b108 fu a1 a2 a3 n3 (fX1_takeSignals_h50 fu a1 a2 a3 n3 f50) v4 M L = some (M0, L0) → mw_W G ad NF TF FF M L H locs → lv_has ls 5 [(0, .ref (ad 3)), (1, .int a1), (2, .int a2), (3, .ref (ad a3)), (4, .int v4)] → W p l e ({ frames := 4, cells := 0, slots := 0, locals := 104 }) s m [.ref (ad 3), .int a1, .int a2, .ref (ad a3)].toArray below meth c H locs 0 0 (MQ below (mw_Qv G ad NF TF FF (mw_eqV M0 L0)) [.ref (ad 3), .int a1, .int a2, .ref (ad a3)].toArray s 0 0 (mw_fr G)) (F0 m 108 ls []) := by
        intro v4 M L H locs ls hD hw hl
        unfold fX1_takeSignals_b108 at hD
        obtain ⟨x15, ex15, hD⟩ := g_let hD
        refine lv_iinc (v := x15) (lv' := [(4, .int x15), (0, .ref (ad 3)), (1, .int a1), (2, .int a2), (3, .ref (ad a3))]) C.1.1 C.1.2.1 dX1_takeSignals_108 hl (k := 4) rfl (by rw [ex15]; rfl) (by decide) rfl (fun ls hl => ?_)
        refine lv_goto (tgt := 50) C.1.1 C.1.2.1 dX1_takeSignals_111 (by decide) ?_
        exact ih50 x15 M L _ _ ls hD hw (lv_sub hl [1, 2, 3, 4, 0] rfl)
      unfold fX1_takeSignals_i50 at hD
      refine lv_iload C.1.1 C.1.2.1 dX1_takeSignals_50 (lv_at hl 4 rfl) ?_
      refine lv_aload_n C.1.1 C.1.2.1 dX1_takeSignals_52 rfl (lv_at hl 0 rfl) ?_
      refine mr_getR C hw kc_1 5 (by decide) tf_3 ff_3_5 wd_524 dX1_takeSignals_53 (by decide) rfl ?_
      refine mr_getNI C hw kc_10 2 (by decide) tf_139 nd_333 dX1_takeSignals_56 (by decide) rfl ?_
      refine lv_icmp_ge (tgt := 114) C.1.1 C.1.2.1 dX1_takeSignals_59 (by decide) (fun c1 => ?_) (fun c1 => ?_)
      · replace hD := g_pos c1 hD
        refine lv_iconst (v := 0) C.1.1 C.1.2.1 dX1_takeSignals_114 (by decide) ?_
        refine lv_istore (lv' := [(4, .int 0), (0, .ref (ad 3)), (1, .int a1), (2, .int a2), (3, .ref (ad a3))]) C.1.1 C.1.2.1 dX1_takeSignals_115 hl (by decide) rfl (fun ls hl => ?_)
        exact hh117 fu 0 M L _ _ ls hD hw (lv_sub hl [1, 2, 3, 4, 0] rfl)
      · replace hD := g_neg c1 hD
        refine lv_aload_n C.1.1 C.1.2.1 dX1_takeSignals_62 rfl (lv_at hl 0 rfl) ?_
        refine mr_getR C hw kc_1 5 (by decide) tf_3 ff_3_5 wd_524 dX1_takeSignals_63 (by decide) rfl ?_
        refine lv_iload C.1.1 C.1.2.1 dX1_takeSignals_66 (lv_at hl 4 rfl) ?_
        refine lv_iload_n C.1.1 C.1.2.1 dX1_takeSignals_68 rfl (lv_at hl 1 rfl) ?_
        obtain ⟨r4, M2, L3, h1, hD⟩ := g_b3 hD
        refine md_cvI (As := [.int v4, .int a1]) (rest := []) C hw (tX10_isWatching l G ad fu v4 a1 M L h1) kc_10 (by decide) tf_139 wd_1617 cwX10_isWatching ⟨Nat.le_of_ble_eq_true rfl, Nat.le_of_ble_eq_true rfl⟩ rfl hl.1 (Nat.le_of_ble_eq_true rfl) dX1_takeSignals_69 rfl rfl ⟨Nat.zero_le _, Nat.zero_le _⟩ rfl (fun H locs hw => ?_)
        refine lv_if_eq (tgt := 108) C.1.1 C.1.2.1 dX1_takeSignals_72 (by decide) (fun c5 => ?_) (fun c5 => ?_)
        · replace hD := g_pos c5 hD
          exact hb108 v4 M2 L3 _ _ ls hD hw (lv_sub hl [0, 1, 2, 3, 4] rfl)
        · replace hD := g_neg c5 hD
          refine lv_aload_n C.1.1 C.1.2.1 dX1_takeSignals_75 rfl (lv_at hl 0 rfl) ?_
          refine mr_getR C hw kc_1 3 (by decide) tf_3 ff_3_3 wd_519 dX1_takeSignals_76 (by decide) rfl ?_
          refine lv_aload_n C.1.1 C.1.2.1 dX1_takeSignals_79 rfl (lv_at hl 0 rfl) ?_
          refine mr_getR C hw kc_1 5 (by decide) tf_3 ff_3_5 wd_524 dX1_takeSignals_80 (by decide) rfl ?_
          refine lv_iload C.1.1 C.1.2.1 dX1_takeSignals_83 (lv_at hl 4 rfl) ?_
          obtain ⟨r8, M6, L7, h1, hD⟩ := g_b3 hD
          refine md_cvI (As := [.int v4]) (rest := [.ref (ad 61)]) C hw (tX10_signalOf l G ad fu v4 M2 L3 h1) kc_10 (by decide) tf_139 wd_1621 cwX10_signalOf ⟨Nat.le_of_ble_eq_true rfl, Nat.le_of_ble_eq_true rfl⟩ rfl hl.1 (Nat.le_of_ble_eq_true rfl) dX1_takeSignals_85 rfl rfl ⟨Nat.zero_le _, Nat.zero_le _⟩ rfl (fun H locs hw => ?_)
          refine lv_iload_n C.1.1 C.1.2.1 dX1_takeSignals_88 rfl (lv_at hl 2 rfl) ?_
          obtain ⟨r11, M9, L10, h1, hD⟩ := g_b3 hD
          refine md_cvI (As := [.int r8, .int a2]) (rest := []) C hw (tX6_isIn l G ad fu r8 a2 M6 L7 h1) kc_6 (by decide) tf_61 wd_1625 cwX6_isIn ⟨Nat.le_of_ble_eq_true rfl, Nat.le_of_ble_eq_true rfl⟩ rfl hl.1 (Nat.le_of_ble_eq_true rfl) dX1_takeSignals_89 rfl rfl ⟨Nat.zero_le _, Nat.zero_le _⟩ rfl (fun H locs hw => ?_)
          refine lv_if_eq (tgt := 108) C.1.1 C.1.2.1 dX1_takeSignals_92 (by decide) (fun c12 => ?_) (fun c12 => ?_)
          · replace hD := g_pos c12 hD
            exact hb108 v4 M9 L10 _ _ ls hD hw (lv_sub hl [0, 1, 2, 3, 4] rfl)
          · replace hD := g_neg c12 hD
            refine lv_aload_n C.1.1 C.1.2.1 dX1_takeSignals_95 rfl (lv_at hl 0 rfl) ?_
            refine mr_getR C hw kc_1 5 (by decide) tf_3 ff_3_5 wd_524 dX1_takeSignals_96 (by decide) rfl ?_
            refine lv_iload C.1.1 C.1.2.1 dX1_takeSignals_99 (lv_at hl 4 rfl) ?_
            refine lv_aload_n C.1.1 C.1.2.1 dX1_takeSignals_101 rfl (lv_at hl 0 rfl) ?_
            refine mr_getI C hw kc_1 16 (by decide) tf_3 wd_547 dX1_takeSignals_102 (by decide) rfl ?_
            obtain ⟨M13, L14, h1, hD⟩ := g_b2 hD
            refine md_cvV (As := [.int v4, .int (M9 3 16)]) (rest := []) C hw (tX10_notePassed l G ad fu v4 (M9 3 16) M9 L10 h1) kc_10 (by decide) tf_139 wd_1629 cwX10_notePassed ⟨Nat.le_of_ble_eq_true rfl, Nat.le_of_ble_eq_true rfl⟩ rfl hl.1 (Nat.le_of_ble_eq_true rfl) dX1_takeSignals_105 rfl rfl ⟨Nat.zero_le _, Nat.zero_le _⟩ rfl (fun H locs hw => ?_)
            exact hb108 v4 M13 L14 _ _ ls hD hw (lv_sub hl [0, 1, 2, 3, 4] rfl)
  have hb47 : ∀ (M : mwM) (L : mwL) (H : Heap) (locs : List Loc) (ls : Array Slot), fX1_takeSignals_b47 fu a1 a2 a3 n3 M L = some (M0, L0) → mw_W G ad NF TF FF M L H locs → lv_has ls 5 [(0, .ref (ad 3)), (1, .int a1), (2, .int a2), (3, .ref (ad a3))] → W p l e ({ frames := 4, cells := 0, slots := 0, locals := 104 }) s m [.ref (ad 3), .int a1, .int a2, .ref (ad a3)].toArray below meth c H locs 0 0 (MQ below (mw_Qv G ad NF TF FF (mw_eqV M0 L0)) [.ref (ad 3), .int a1, .int a2, .ref (ad a3)].toArray s 0 0 (mw_fr G)) (F0 m 47 ls []) := by
    intro M L H locs ls hD hw hl
    unfold fX1_takeSignals_b47 at hD
    refine lv_iconst (v := 0) C.1.1 C.1.2.1 dX1_takeSignals_47 (by decide) ?_
    refine lv_istore (lv' := [(4, .int 0), (0, .ref (ad 3)), (1, .int a1), (2, .int a2), (3, .ref (ad a3))]) C.1.1 C.1.2.1 dX1_takeSignals_48 hl (by decide) rfl (fun ls hl => ?_)
    exact hh50 fu 0 M L _ _ ls hD hw (lv_sub hl [1, 2, 3, 4, 0] rfl)
  unfold DX1_takeSignals at hD
  refine lv_iload_n C.1.1 C.1.2.1 dX1_takeSignals_0 rfl (lv_at hl 2 rfl) ?_
  refine lv_if_ge (tgt := 5) C.1.1 C.1.2.1 dX1_takeSignals_1 (by decide) (fun c35 => ?_) (fun c35 => ?_)
  · replace hD := g_pos c35 hD
    refine lv_aload_n C.1.1 C.1.2.1 dX1_takeSignals_5 rfl (lv_at hl 0 rfl) ?_
    refine mr_getR C hw kc_1 3 (by decide) tf_3 ff_3_3 wd_519 dX1_takeSignals_6 (by decide) rfl ?_
    refine mr_getNR C hw kc_6 1 (by decide) tf_61 ff_61_1 nd_232 dX1_takeSignals_9 (by decide) rfl ?_
    refine lv_iconst (v := 2) C.1.1 C.1.2.1 dX1_takeSignals_12 (by decide) ?_
    refine mr_aald C hw (by decide) tf_73 (by decide) (by decide) rfl rfl (show vp_in 2 6 from by unfold vp_in; decide) ff_73_2 dX1_takeSignals_13 ?_
    refine lv_iload_n C.1.1 C.1.2.1 dX1_takeSignals_14 rfl (lv_at hl 2 rfl) ?_
    obtain ⟨q37, hD⟩ := g_ck hD
    refine mr_iald C hw (by decide) tf_76 q37 dX1_takeSignals_15 ?_
    refine lv_if_eq (tgt := 47) C.1.1 C.1.2.1 dX1_takeSignals_16 (by decide) (fun c38 => ?_) (fun c38 => ?_)
    · replace hD := g_pos c38 hD
      exact hb47 M L _ _ ls hD hw (lv_sub hl [0, 1, 2, 3] rfl)
    · replace hD := g_neg c38 hD
      refine lv_aload_n C.1.1 C.1.2.1 dX1_takeSignals_19 rfl (lv_at hl 0 rfl) ?_
      refine mr_getR C hw kc_1 3 (by decide) tf_3 ff_3_3 wd_519 dX1_takeSignals_20 (by decide) rfl ?_
      refine lv_iload_n C.1.1 C.1.2.1 dX1_takeSignals_23 rfl (lv_at hl 1 rfl) ?_
      refine lv_iload_n C.1.1 C.1.2.1 dX1_takeSignals_24 rfl (lv_at hl 2 rfl) ?_
      refine lv_aload_n C.1.1 C.1.2.1 dX1_takeSignals_25 rfl (lv_at hl 3 rfl) ?_
      refine lv_aload_n C.1.1 C.1.2.1 dX1_takeSignals_26 rfl (lv_at hl 0 rfl) ?_
      refine mr_getR C hw kc_1 4 (by decide) tf_3 ff_3_4 wd_522 dX1_takeSignals_27 (by decide) rfl ?_
      obtain ⟨r41, M39, L40, h1, hD⟩ := g_b3 hD
      refine md_cvI (As := [.int a1, .int a2, .ref (ad a3), .ref (ad 97)]) (rest := []) C hw (tX6_accept l G ad fu a1 a2 a3 n3 M L h1 hk3 hT3) kc_6 (by decide) tf_61 wd_1612 cwX6_accept ⟨Nat.le_of_ble_eq_true rfl, Nat.le_of_ble_eq_true rfl⟩ rfl hl.1 (Nat.le_of_ble_eq_true rfl) dX1_takeSignals_30 rfl rfl ⟨Nat.zero_le _, Nat.zero_le _⟩ rfl (fun H locs hw => ?_)
      refine lv_if_ne (tgt := 47) C.1.1 C.1.2.1 dX1_takeSignals_33 (by decide) (fun c42 => ?_) (fun c42 => ?_)
      · replace hD := g_neg c42 hD
        exact hb47 M39 L40 _ _ ls hD hw (lv_sub hl [0, 1, 2, 3] rfl)
      · replace hD := g_pos c42 hD
        refine lv_aload_n C.1.1 C.1.2.1 dX1_takeSignals_36 rfl (lv_at hl 0 rfl) ?_
        refine mr_getR C hw kc_1 12 (by decide) tf_3 ff_3_12 wd_537 dX1_takeSignals_37 (by decide) rfl ?_
        refine lv_iconst (v := 1) C.1.1 C.1.2.1 dX1_takeSignals_40 (by decide) ?_
        refine lv_dup2_11 C.1.1 C.1.2.1 dX1_takeSignals_41 rfl rfl ?_
        refine mr_iald C hw (by decide) tf_292 (show vp_in 1 5 from by unfold vp_in; decide) dX1_takeSignals_42 ?_
        refine lv_iconst (v := 1) C.1.1 C.1.2.1 dX1_takeSignals_43 (by decide) ?_
        refine lv_iadd C.1.1 C.1.2.1 dX1_takeSignals_44 ?_
        obtain ⟨M45, eM45, hD⟩ := g_let hD
        refine mr_iast C hw (by decide) tf_292 (show vp_in 1 5 from by unfold vp_in; decide) dX1_takeSignals_45 (fun H locs hw => ?_)
        replace hw : mw_W G ad NF TF FF M45 L40 H locs := by rw [eM45]; exact hw
        exact mr_vret C hr hlocks hw (Option.some.inj hD) dX1_takeSignals_46
  · replace hD := g_neg c35 hD
    exact mr_vret C hr hlocks hw (Option.some.inj hD) dX1_takeSignals_4

theorem dX1_takeFrames_0 : decode cX1_takeFrames 0 = .ok (.iconst 0, 1) := by decide +kernel
theorem dX1_takeFrames_1 : decode cX1_takeFrames 1 = .ok (.istore_n 1, 1) := by decide +kernel
theorem dX1_takeFrames_2 : decode cX1_takeFrames 2 = .ok (.iload_n 1, 1) := by decide +kernel
theorem dX1_takeFrames_3 : decode cX1_takeFrames 3 = .ok (.aload_n 0, 1) := by decide +kernel
theorem dX1_takeFrames_4 : decode cX1_takeFrames 4 = .ok (.getfield 91, 3) := by decide +kernel
theorem dX1_takeFrames_7 : decode cX1_takeFrames 7 = .ok (.if_icmp .gt 106, 3) := by decide +kernel
theorem dX1_takeFrames_10 : decode cX1_takeFrames 10 = .ok (.aload_n 0, 1) := by decide +kernel
theorem dX1_takeFrames_11 : decode cX1_takeFrames 11 = .ok (.getfield 27, 3) := by decide +kernel
theorem dX1_takeFrames_14 : decode cX1_takeFrames 14 = .ok (.getfield 197, 3) := by decide +kernel
theorem dX1_takeFrames_17 : decode cX1_takeFrames 17 = .ok (.iload_n 1, 1) := by decide +kernel
theorem dX1_takeFrames_18 : decode cX1_takeFrames 18 = .ok (.aaload, 1) := by decide +kernel
theorem dX1_takeFrames_19 : decode cX1_takeFrames 19 = .ok (.astore_n 2, 1) := by decide +kernel
theorem dX1_takeFrames_20 : decode cX1_takeFrames 20 = .ok (.aload_n 0, 1) := by decide +kernel
theorem dX1_takeFrames_21 : decode cX1_takeFrames 21 = .ok (.getfield 27, 3) := by decide +kernel
theorem dX1_takeFrames_24 : decode cX1_takeFrames 24 = .ok (.getfield 149, 3) := by decide +kernel
theorem dX1_takeFrames_27 : decode cX1_takeFrames 27 = .ok (.iload_n 1, 1) := by decide +kernel
theorem dX1_takeFrames_28 : decode cX1_takeFrames 28 = .ok (.ishr, 1) := by decide +kernel
theorem dX1_takeFrames_29 : decode cX1_takeFrames 29 = .ok (.iconst 1, 1) := by decide +kernel
theorem dX1_takeFrames_30 : decode cX1_takeFrames 30 = .ok (.iand, 1) := by decide +kernel
theorem dX1_takeFrames_31 : decode cX1_takeFrames 31 = .ok (.ifCond .eq 76, 3) := by decide +kernel
theorem dX1_takeFrames_34 : decode cX1_takeFrames 34 = .ok (.aload_n 2, 1) := by decide +kernel
theorem dX1_takeFrames_35 : decode cX1_takeFrames 35 = .ok (.invokevirtual 201, 3) := by decide +kernel
theorem dX1_takeFrames_38 : decode cX1_takeFrames 38 = .ok (.ifCond .ne 69, 3) := by decide +kernel
theorem dX1_takeFrames_41 : decode cX1_takeFrames 41 = .ok (.aload_n 2, 1) := by decide +kernel
theorem dX1_takeFrames_42 : decode cX1_takeFrames 42 = .ok (.getfield 207, 3) := by decide +kernel
theorem dX1_takeFrames_45 : decode cX1_takeFrames 45 = .ok (.bipush 8, 2) := by decide +kernel
theorem dX1_takeFrames_47 : decode cX1_takeFrames 47 = .ok (.if_icmp .eq 6, 3) := by decide +kernel
theorem dX1_takeFrames_50 : decode cX1_takeFrames 50 = .ok (.goto 57, 3) := by decide +kernel
theorem dX1_takeFrames_53 : decode cX1_takeFrames 53 = .ok (.aload_n 2, 1) := by decide +kernel
theorem dX1_takeFrames_54 : decode cX1_takeFrames 54 = .ok (.getfield 210, 3) := by decide +kernel
theorem dX1_takeFrames_57 : decode cX1_takeFrames 57 = .ok (.sipush 1536, 3) := by decide +kernel
theorem dX1_takeFrames_60 : decode cX1_takeFrames 60 = .ok (.if_icmp .lt 19, 3) := by decide +kernel
theorem dX1_takeFrames_63 : decode cX1_takeFrames 63 = .ok (.aload_n 0, 1) := by decide +kernel
theorem dX1_takeFrames_64 : decode cX1_takeFrames 64 = .ok (.iload_n 1, 1) := by decide +kernel
theorem dX1_takeFrames_65 : decode cX1_takeFrames 65 = .ok (.aload_n 2, 1) := by decide +kernel
theorem dX1_takeFrames_66 : decode cX1_takeFrames 66 = .ok (.getfield 210, 3) := by decide +kernel
theorem dX1_takeFrames_69 : decode cX1_takeFrames 69 = .ok (.sipush 1536, 3) := by decide +kernel
theorem dX1_takeFrames_72 : decode cX1_takeFrames 72 = .ok (.isub, 1) := by decide +kernel
theorem dX1_takeFrames_73 : decode cX1_takeFrames 73 = .ok (.invokevirtual 213, 3) := by decide +kernel
theorem dX1_takeFrames_76 : decode cX1_takeFrames 76 = .ok (.goto 31, 3) := by decide +kernel
theorem dX1_takeFrames_79 : decode cX1_takeFrames 79 = .ok (.iload_n 1, 1) := by decide +kernel
theorem dX1_takeFrames_80 : decode cX1_takeFrames 80 = .ok (.aload_n 0, 1) := by decide +kernel
theorem dX1_takeFrames_81 : decode cX1_takeFrames 81 = .ok (.getfield 91, 3) := by decide +kernel
theorem dX1_takeFrames_84 : decode cX1_takeFrames 84 = .ok (.if_icmp .ge 23, 3) := by decide +kernel
theorem dX1_takeFrames_87 : decode cX1_takeFrames 87 = .ok (.aload_n 0, 1) := by decide +kernel
theorem dX1_takeFrames_88 : decode cX1_takeFrames 88 = .ok (.iload_n 1, 1) := by decide +kernel
theorem dX1_takeFrames_89 : decode cX1_takeFrames 89 = .ok (.aload_n 0, 1) := by decide +kernel
theorem dX1_takeFrames_90 : decode cX1_takeFrames 90 = .ok (.getfield 34, 3) := by decide +kernel
theorem dX1_takeFrames_93 : decode cX1_takeFrames 93 = .ok (.aload_n 2, 1) := by decide +kernel
theorem dX1_takeFrames_94 : decode cX1_takeFrames 94 = .ok (.getfield 210, 3) := by decide +kernel
theorem dX1_takeFrames_97 : decode cX1_takeFrames 97 = .ok (.invokevirtual 216, 3) := by decide +kernel
theorem dX1_takeFrames_100 : decode cX1_takeFrames 100 = .ok (.aload_n 2, 1) := by decide +kernel
theorem dX1_takeFrames_101 : decode cX1_takeFrames 101 = .ok (.getfield 219, 3) := by decide +kernel
theorem dX1_takeFrames_104 : decode cX1_takeFrames 104 = .ok (.invokevirtual 220, 3) := by decide +kernel
theorem dX1_takeFrames_107 : decode cX1_takeFrames 107 = .ok (.iinc 1 1, 3) := by decide +kernel
theorem dX1_takeFrames_110 : decode cX1_takeFrames 110 = .ok (.goto (-108), 3) := by decide +kernel
theorem dX1_takeFrames_113 : decode cX1_takeFrames 113 = .ok (.return_, 1) := by decide +kernel
theorem cwX1_takeFrames : mw_cwV yX1_takeFrames cX1_takeFrames 3 (none) 0 := ⟨⟨wd_3, wd_1503, by decide +kernel⟩, wd_1502, sl_101⟩
set_option maxHeartbeats 4000000 in
set_option maxRecDepth 100000 in
theorem tX1_takeFrames (l : Launch) (G : mwG) (ad : Nat → Nat) (fu : Nat) (M : mwM) (L : mwL) {M0 : mwM} {L0 : mwL} (hD : DX1_takeFrames fu M L = some (M0, L0)) : Met l yX1_takeFrames (Cond.code yX1_takeFrames cX1_takeFrames 3 (none) :: GT) ({ frames := 5, cells := 0, slots := 0, locals := 128 }) (mw_Pre G ad NF TF FF M L [.ref (ad 3)]) (mw_Qv G ad NF TF FF (mw_eqV M0 L0)) 0 0 (mw_fr G) := by
  refine mw_enter (by decide) (Nat.le_of_ble_eq_true rfl) ?_
  intro p e s m below meth c ls C hr hlocks hnm hw hl
  have hl : lv_has ls 3 [(0, .ref (ad 3))] := hl
  have hh2 : ∀ (f : Nat) (v1 : Int32) (M : mwM) (L : mwL) (H : Heap) (locs : List Loc) (ls : Array Slot), fX1_takeFrames_h2 fu f (v1, M, L) = some (M0, L0) → mw_W G ad NF TF FF M L H locs → lv_has ls 3 [(0, .ref (ad 3)), (1, .int v1)] → W p l e ({ frames := 5, cells := 0, slots := 0, locals := 128 }) s m [.ref (ad 3)].toArray below meth c H locs 0 0 (MQ below (mw_Qv G ad NF TF FF (mw_eqV M0 L0)) [.ref (ad 3)].toArray s 0 0 (mw_fr G)) (F0 m 2 ls []) := by
    intro f
    induction f with
    | zero => intro v1 M L H locs ls hD; cases hD
    | succ f2 ih2 =>
      intro v1 M L H locs ls hD hw hl
      replace hD : fX1_takeFrames_i2 fu (fX1_takeFrames_h2 fu f2) v1 M L = some (M0, L0) := hD
      have hb107 : ∀ (v1 : Int32) (M : mwM) (L : mwL) (H : Heap) (locs : List Loc) (ls : Array Slot), fX1_takeFrames_b107 fu (fX1_takeFrames_h2 fu f2) v1 M L = some (M0, L0) → mw_W G ad NF TF FF M L H locs → lv_has ls 3 [(0, .ref (ad 3)), (1, .int v1)] → W p l e ({ frames := 5, cells := 0, slots := 0, locals := 128 }) s m [.ref (ad 3)].toArray below meth c H locs 0 0 (MQ below (mw_Qv G ad NF TF FF (mw_eqV M0 L0)) [.ref (ad 3)].toArray s 0 0 (mw_fr G)) (F0 m 107 ls []) := by
        intro v1 M L H locs ls hD hw hl
        unfold fX1_takeFrames_b107 at hD
        obtain ⟨x18, ex18, hD⟩ := g_let hD
        refine lv_iinc (v := x18) (lv' := [(1, .int x18), (0, .ref (ad 3))]) C.1.1 C.1.2.1 dX1_takeFrames_107 hl (k := 1) rfl (by rw [ex18]; rfl) (by decide) rfl (fun ls hl => ?_)
        refine lv_goto (tgt := 2) C.1.1 C.1.2.1 dX1_takeFrames_110 (by decide) ?_
        exact ih2 x18 M L _ _ ls hD hw (lv_sub hl [1, 0] rfl)
      unfold fX1_takeFrames_i2 at hD
      refine lv_iload_n C.1.1 C.1.2.1 dX1_takeFrames_2 rfl (lv_at hl 1 rfl) ?_
      refine lv_aload_n C.1.1 C.1.2.1 dX1_takeFrames_3 rfl (lv_at hl 0 rfl) ?_
      refine mr_getI C hw kc_1 13 (by decide) tf_3 wd_539 dX1_takeFrames_4 (by decide) rfl ?_
      refine lv_icmp_gt (tgt := 113) C.1.1 C.1.2.1 dX1_takeFrames_7 (by decide) (fun c1 => ?_) (fun c1 => ?_)
      · replace hD := g_pos c1 hD
        exact mr_vret C hr hlocks hw (Option.some.inj hD) dX1_takeFrames_113
      · replace hD := g_neg c1 hD
        refine lv_aload_n C.1.1 C.1.2.1 dX1_takeFrames_10 rfl (lv_at hl 0 rfl) ?_
        refine mr_getR C hw kc_1 2 (by decide) tf_3 ff_3_2 wd_517 dX1_takeFrames_11 (by decide) rfl ?_
        refine mr_getNR C hw kc_0 5 (by decide) tf_20 ff_20_5 nd_180 dX1_takeFrames_14 (by decide) rfl ?_
        refine lv_iload_n C.1.1 C.1.2.1 dX1_takeFrames_17 rfl (lv_at hl 1 rfl) ?_
        obtain ⟨q2, hD⟩ := g_ck hD
        refine mr_aald C hw (by decide) tf_41 (by decide) (by decide) rfl rfl q2 (fr_41 _ (g_lt q2)) dX1_takeFrames_18 ?_
        refine lv_astore_n (lv' := [(2, .ref (ad ((47 + 2 * v1.toNatClampNeg) + 0))), (0, .ref (ad 3)), (1, .int v1)]) C.1.1 C.1.2.1 dX1_takeFrames_19 rfl hl (by decide) rfl (fun ls hl => ?_)
        refine lv_aload_n C.1.1 C.1.2.1 dX1_takeFrames_20 rfl (lv_at hl 1 rfl) ?_
        refine mr_getR C hw kc_1 2 (by decide) tf_3 ff_3_2 wd_517 dX1_takeFrames_21 (by decide) rfl ?_
        refine mr_getNI C hw kc_0 12 (by decide) tf_20 nd_190 dX1_takeFrames_24 (by decide) rfl ?_
        refine lv_iload_n C.1.1 C.1.2.1 dX1_takeFrames_27 rfl (lv_at hl 2 rfl) ?_
        refine lv_ishr C.1.1 C.1.2.1 dX1_takeFrames_28 ?_
        refine lv_iconst (v := 1) C.1.1 C.1.2.1 dX1_takeFrames_29 (by decide) ?_
        refine lv_iand C.1.1 C.1.2.1 dX1_takeFrames_30 ?_
        refine lv_if_eq (tgt := 107) C.1.1 C.1.2.1 dX1_takeFrames_31 (by decide) (fun c3 => ?_) (fun c3 => ?_)
        · replace hD := g_pos c3 hD
          exact hb107 v1 M L _ _ ls hD hw (lv_sub hl [1, 2] rfl)
        · replace hD := g_neg c3 hD
          refine lv_aload_n C.1.1 C.1.2.1 dX1_takeFrames_34 rfl (lv_at hl 0 rfl) ?_
          obtain ⟨r6, M4, L5, h1, hD⟩ := g_b3 hD
          refine md_cvI (As := []) (rest := []) C hw (tX5_kind l G ad fu ((47 + 2 * v1.toNatClampNeg)) M L h1 (isEa_of (g_lt q2))) kc_5 (Ea_N0 (isEa_of (g_lt q2))) (Ea_T0 (isEa_of (g_lt q2))) wd_1504 cwX5_kind ⟨Nat.le_of_ble_eq_true rfl, Nat.le_of_ble_eq_true rfl⟩ rfl hl.1 (Nat.le_of_ble_eq_true rfl) dX1_takeFrames_35 rfl rfl ⟨Nat.zero_le _, Nat.zero_le _⟩ rfl (fun H locs hw => ?_)
          refine lv_if_ne (tgt := 107) C.1.1 C.1.2.1 dX1_takeFrames_38 (by decide) (fun c7 => ?_) (fun c7 => ?_)
          · replace hD := g_neg c7 hD
            exact hb107 v1 M4 L5 _ _ ls hD hw (lv_sub hl [1, 2] rfl)
          · replace hD := g_pos c7 hD
            refine lv_aload_n C.1.1 C.1.2.1 dX1_takeFrames_41 rfl (lv_at hl 0 rfl) ?_
            refine mr_getNI C hw kc_5 16 (Ea_N0 (isEa_of (g_lt q2))) (Ea_T0 (isEa_of (g_lt q2))) nd_125 dX1_takeFrames_42 (by decide) rfl ?_
            refine lv_bipush (v := 8) C.1.1 C.1.2.1 dX1_takeFrames_45 (by decide) ?_
            refine lv_icmp_eq (tgt := 53) C.1.1 C.1.2.1 dX1_takeFrames_47 (by decide) (fun c8 => ?_) (fun c8 => ?_)
            · replace hD := g_pos c8 hD
              refine lv_aload_n C.1.1 C.1.2.1 dX1_takeFrames_53 rfl (lv_at hl 0 rfl) ?_
              refine mr_getNI C hw kc_5 10 (Ea_N0 (isEa_of (g_lt q2))) (Ea_T0 (isEa_of (g_lt q2))) nd_118 dX1_takeFrames_54 (by decide) rfl ?_
              refine lv_sipush (v := 1536) C.1.1 C.1.2.1 dX1_takeFrames_57 (by decide) ?_
              refine lv_icmp_lt (tgt := 79) C.1.1 C.1.2.1 dX1_takeFrames_60 (by decide) (fun c9 => ?_) (fun c9 => ?_)
              · replace hD := g_pos c9 hD
                refine lv_iload_n C.1.1 C.1.2.1 dX1_takeFrames_79 rfl (lv_at hl 2 rfl) ?_
                refine lv_aload_n C.1.1 C.1.2.1 dX1_takeFrames_80 rfl (lv_at hl 1 rfl) ?_
                refine mr_getI C hw kc_1 13 (by decide) tf_3 wd_539 dX1_takeFrames_81 (by decide) rfl ?_
                refine lv_icmp_ge (tgt := 107) C.1.1 C.1.2.1 dX1_takeFrames_84 (by decide) (fun c10 => ?_) (fun c10 => ?_)
                · replace hD := g_pos c10 hD
                  exact hb107 v1 M4 L5 _ _ ls hD hw (lv_sub hl [1, 2] rfl)
                · replace hD := g_neg c10 hD
                  refine lv_aload_n C.1.1 C.1.2.1 dX1_takeFrames_87 rfl (lv_at hl 1 rfl) ?_
                  refine lv_iload_n C.1.1 C.1.2.1 dX1_takeFrames_88 rfl (lv_at hl 2 rfl) ?_
                  refine lv_aload_n C.1.1 C.1.2.1 dX1_takeFrames_89 rfl (lv_at hl 1 rfl) ?_
                  refine mr_getR C hw kc_1 3 (by decide) tf_3 ff_3_3 wd_519 dX1_takeFrames_90 (by decide) rfl ?_
                  refine lv_aload_n C.1.1 C.1.2.1 dX1_takeFrames_93 rfl (lv_at hl 0 rfl) ?_
                  refine mr_getNI C hw kc_5 10 (Ea_N0 (isEa_of (g_lt q2))) (Ea_T0 (isEa_of (g_lt q2))) nd_118 dX1_takeFrames_94 (by decide) rfl ?_
                  obtain ⟨r13, M11, L12, h1, hD⟩ := g_b3 hD
                  refine md_cvI (As := [.int (M4 ((47 + 2 * v1.toNatClampNeg) + 0) 10)]) (rest := [.int v1, .ref (ad 3)]) C hw (tX6_frameOf l G ad fu (M4 ((47 + 2 * v1.toNatClampNeg) + 0) 10) M4 L5 h1) kc_6 (by decide) tf_61 wd_1604 cwX6_frameOf ⟨Nat.le_of_ble_eq_true rfl, Nat.le_of_ble_eq_true rfl⟩ rfl hl.1 (Nat.le_of_ble_eq_true rfl) dX1_takeFrames_97 rfl rfl ⟨Nat.zero_le _, Nat.zero_le _⟩ rfl (fun H locs hw => ?_)
                  refine lv_aload_n C.1.1 C.1.2.1 dX1_takeFrames_100 rfl (lv_at hl 0 rfl) ?_
                  refine mr_getNR C hw kc_5 0 (Ea_N0 (isEa_of (g_lt q2))) (Ea_T0 (isEa_of (g_lt q2))) (Ea_F0_0 (isEa_of (g_lt q2))) nd_107 dX1_takeFrames_101 (by decide) rfl ?_
                  obtain ⟨M14, L15, h1, hD⟩ := g_b2 hD
                  refine md_cvV (As := [.int v1, .int r13, .ref (ad ((47 + 2 * v1.toNatClampNeg) + 1))]) (rest := []) C hw (tX1_takeSignals l G ad fu v1 r13 (((47 + 2 * v1.toNatClampNeg) + 1)) 64 M11 L12 h1 (Ea_N1 (isEa_of (g_lt q2))) (Ea_T1 (isEa_of (g_lt q2)))) kc_1 (by decide) tf_3 wd_1608 cwX1_takeSignals ⟨Nat.le_of_ble_eq_true rfl, Nat.le_of_ble_eq_true rfl⟩ rfl hl.1 (Nat.le_of_ble_eq_true rfl) dX1_takeFrames_104 rfl rfl ⟨Nat.zero_le _, Nat.zero_le _⟩ rfl (fun H locs hw => ?_)
                  exact hb107 v1 M14 L15 _ _ ls hD hw (lv_sub hl [1, 2] rfl)
              · replace hD := g_neg c9 hD
                refine lv_aload_n C.1.1 C.1.2.1 dX1_takeFrames_63 rfl (lv_at hl 1 rfl) ?_
                refine lv_iload_n C.1.1 C.1.2.1 dX1_takeFrames_64 rfl (lv_at hl 2 rfl) ?_
                refine lv_aload_n C.1.1 C.1.2.1 dX1_takeFrames_65 rfl (lv_at hl 0 rfl) ?_
                refine mr_getNI C hw kc_5 10 (Ea_N0 (isEa_of (g_lt q2))) (Ea_T0 (isEa_of (g_lt q2))) nd_118 dX1_takeFrames_66 (by decide) rfl ?_
                refine lv_sipush (v := 1536) C.1.1 C.1.2.1 dX1_takeFrames_69 (by decide) ?_
                refine lv_isub C.1.1 C.1.2.1 dX1_takeFrames_72 ?_
                obtain ⟨M16, L17, h1, hD⟩ := g_b2 hD
                refine md_cvV (As := [.int v1, .int ((M4 ((47 + 2 * v1.toNatClampNeg) + 0) 10) - 1536)]) (rest := []) C hw (tX1_takeOfTransfer l G ad fu v1 ((M4 ((47 + 2 * v1.toNatClampNeg) + 0) 10) - 1536) M4 L5 h1) kc_1 (by decide) tf_3 wd_1508 cwX1_takeOfTransfer ⟨Nat.le_of_ble_eq_true rfl, Nat.le_of_ble_eq_true rfl⟩ rfl hl.1 (Nat.le_of_ble_eq_true rfl) dX1_takeFrames_73 rfl rfl ⟨Nat.zero_le _, Nat.zero_le _⟩ rfl (fun H locs hw => ?_)
                refine lv_goto (tgt := 107) C.1.1 C.1.2.1 dX1_takeFrames_76 (by decide) ?_
                exact hb107 v1 M16 L17 _ _ ls hD hw (lv_sub hl [1, 2] rfl)
            · replace hD := g_neg c8 hD
              refine lv_goto (tgt := 107) C.1.1 C.1.2.1 dX1_takeFrames_50 (by decide) ?_
              exact hb107 v1 M4 L5 _ _ ls hD hw (lv_sub hl [1, 2] rfl)
  unfold DX1_takeFrames at hD
  refine lv_iconst (v := 0) C.1.1 C.1.2.1 dX1_takeFrames_0 (by decide) ?_
  refine lv_istore_n (lv' := [(1, .int 0), (0, .ref (ad 3))]) C.1.1 C.1.2.1 dX1_takeFrames_1 rfl hl (by decide) rfl (fun ls hl => ?_)
  exact hh2 fu 0 M L _ _ ls hD hw (lv_sub hl [1, 0] rfl)

theorem dX1_putOnBus_0 : decode cX1_putOnBus 0 = .ok (.aload_n 0, 1) := by decide +kernel
theorem dX1_putOnBus_1 : decode cX1_putOnBus 1 = .ok (.getfield 55, 3) := by decide +kernel
theorem dX1_putOnBus_4 : decode cX1_putOnBus 4 = .ok (.iload_n 1, 1) := by decide +kernel
theorem dX1_putOnBus_5 : decode cX1_putOnBus 5 = .ok (.invokevirtual 297, 3) := by decide +kernel
theorem dX1_putOnBus_8 : decode cX1_putOnBus 8 = .ok (.ifCond .ne 7, 3) := by decide +kernel
theorem dX1_putOnBus_11 : decode cX1_putOnBus 11 = .ok (.iconst 1, 1) := by decide +kernel
theorem dX1_putOnBus_12 : decode cX1_putOnBus 12 = .ok (.goto 4, 3) := by decide +kernel
theorem dX1_putOnBus_15 : decode cX1_putOnBus 15 = .ok (.iconst 0, 1) := by decide +kernel
theorem dX1_putOnBus_16 : decode cX1_putOnBus 16 = .ok (.istore_n 2, 1) := by decide +kernel
theorem dX1_putOnBus_17 : decode cX1_putOnBus 17 = .ok (.aload_n 0, 1) := by decide +kernel
theorem dX1_putOnBus_18 : decode cX1_putOnBus 18 = .ok (.getfield 55, 3) := by decide +kernel
theorem dX1_putOnBus_21 : decode cX1_putOnBus 21 = .ok (.iload_n 1, 1) := by decide +kernel
theorem dX1_putOnBus_22 : decode cX1_putOnBus 22 = .ok (.invokevirtual 300, 3) := by decide +kernel
theorem dX1_putOnBus_25 : decode cX1_putOnBus 25 = .ok (.istore_n 3, 1) := by decide +kernel
theorem dX1_putOnBus_26 : decode cX1_putOnBus 26 = .ok (.sipush 1536, 3) := by decide +kernel
theorem dX1_putOnBus_29 : decode cX1_putOnBus 29 = .ok (.iconst 2, 1) := by decide +kernel
theorem dX1_putOnBus_30 : decode cX1_putOnBus 30 = .ok (.iload_n 3, 1) := by decide +kernel
theorem dX1_putOnBus_31 : decode cX1_putOnBus 31 = .ok (.imul, 1) := by decide +kernel
theorem dX1_putOnBus_32 : decode cX1_putOnBus 32 = .ok (.iadd, 1) := by decide +kernel
theorem dX1_putOnBus_33 : decode cX1_putOnBus 33 = .ok (.iload_n 2, 1) := by decide +kernel
theorem dX1_putOnBus_34 : decode cX1_putOnBus 34 = .ok (.ifCond .eq 7, 3) := by decide +kernel
theorem dX1_putOnBus_37 : decode cX1_putOnBus 37 = .ok (.iconst 0, 1) := by decide +kernel
theorem dX1_putOnBus_38 : decode cX1_putOnBus 38 = .ok (.goto 4, 3) := by decide +kernel
theorem dX1_putOnBus_41 : decode cX1_putOnBus 41 = .ok (.iconst 1, 1) := by decide +kernel
theorem dX1_putOnBus_42 : decode cX1_putOnBus 42 = .ok (.iadd, 1) := by decide +kernel
theorem dX1_putOnBus_43 : decode cX1_putOnBus 43 = .ok (.istore 4, 2) := by decide +kernel
theorem dX1_putOnBus_45 : decode cX1_putOnBus 45 = .ok (.aload_n 0, 1) := by decide +kernel
theorem dX1_putOnBus_46 : decode cX1_putOnBus 46 = .ok (.getfield 55, 3) := by decide +kernel
theorem dX1_putOnBus_49 : decode cX1_putOnBus 49 = .ok (.iload_n 1, 1) := by decide +kernel
theorem dX1_putOnBus_50 : decode cX1_putOnBus 50 = .ok (.invokevirtual 303, 3) := by decide +kernel
theorem dX1_putOnBus_53 : decode cX1_putOnBus 53 = .ok (.aload_n 0, 1) := by decide +kernel
theorem dX1_putOnBus_54 : decode cX1_putOnBus 54 = .ok (.getfield 27, 3) := by decide +kernel
theorem dX1_putOnBus_57 : decode cX1_putOnBus 57 = .ok (.iload_n 2, 1) := by decide +kernel
theorem dX1_putOnBus_58 : decode cX1_putOnBus 58 = .ok (.ifCond .eq 10, 3) := by decide +kernel
theorem dX1_putOnBus_61 : decode cX1_putOnBus 61 = .ok (.aload_n 0, 1) := by decide +kernel
theorem dX1_putOnBus_62 : decode cX1_putOnBus 62 = .ok (.getfield 91, 3) := by decide +kernel
theorem dX1_putOnBus_65 : decode cX1_putOnBus 65 = .ok (.goto 4, 3) := by decide +kernel
theorem dX1_putOnBus_68 : decode cX1_putOnBus 68 = .ok (.iload_n 3, 1) := by decide +kernel
theorem dX1_putOnBus_69 : decode cX1_putOnBus 69 = .ok (.iload 4, 2) := by decide +kernel
theorem dX1_putOnBus_71 : decode cX1_putOnBus 71 = .ok (.aload_n 0, 1) := by decide +kernel
theorem dX1_putOnBus_72 : decode cX1_putOnBus 72 = .ok (.getfield 55, 3) := by decide +kernel
theorem dX1_putOnBus_75 : decode cX1_putOnBus 75 = .ok (.getfield 306, 3) := by decide +kernel
theorem dX1_putOnBus_78 : decode cX1_putOnBus 78 = .ok (.invokevirtual 193, 3) := by decide +kernel
theorem dX1_putOnBus_81 : decode cX1_putOnBus 81 = .ok (.ifCond .ne 21, 3) := by decide +kernel
theorem dX1_putOnBus_84 : decode cX1_putOnBus 84 = .ok (.aload_n 0, 1) := by decide +kernel
theorem dX1_putOnBus_85 : decode cX1_putOnBus 85 = .ok (.getfield 83, 3) := by decide +kernel
theorem dX1_putOnBus_88 : decode cX1_putOnBus 88 = .ok (.iconst 0, 1) := by decide +kernel
theorem dX1_putOnBus_89 : decode cX1_putOnBus 89 = .ok (.dup2, 1) := by decide +kernel
theorem dX1_putOnBus_90 : decode cX1_putOnBus 90 = .ok (.iaload, 1) := by decide +kernel
theorem dX1_putOnBus_91 : decode cX1_putOnBus 91 = .ok (.iconst 1, 1) := by decide +kernel
theorem dX1_putOnBus_92 : decode cX1_putOnBus 92 = .ok (.iadd, 1) := by decide +kernel
theorem dX1_putOnBus_93 : decode cX1_putOnBus 93 = .ok (.iastore, 1) := by decide +kernel
theorem dX1_putOnBus_94 : decode cX1_putOnBus 94 = .ok (.aload_n 0, 1) := by decide +kernel
theorem dX1_putOnBus_95 : decode cX1_putOnBus 95 = .ok (.getfield 55, 3) := by decide +kernel
theorem dX1_putOnBus_98 : decode cX1_putOnBus 98 = .ok (.iload_n 1, 1) := by decide +kernel
theorem dX1_putOnBus_99 : decode cX1_putOnBus 99 = .ok (.invokevirtual 309, 3) := by decide +kernel
theorem dX1_putOnBus_102 : decode cX1_putOnBus 102 = .ok (.return_, 1) := by decide +kernel
theorem cwX1_putOnBus : mw_cwV yX1_putOnBus cX1_putOnBus 5 (none) 1 := ⟨⟨wd_3, wd_1774, by decide +kernel⟩, wd_1773, sl_144⟩
set_option maxHeartbeats 4000000 in
set_option maxRecDepth 100000 in
theorem tX1_putOnBus (l : Launch) (G : mwG) (ad : Nat → Nat) (fu : Nat) (a1 : Int32) (M : mwM) (L : mwL) {M0 : mwM} {L0 : mwL} (hD : DX1_putOnBus fu a1 M L = some (M0, L0)) : Met l yX1_putOnBus (Cond.code yX1_putOnBus cX1_putOnBus 5 (none) :: GT) ({ frames := 2, cells := 0, slots := 0, locals := 42 }) (mw_Pre G ad NF TF FF M L [.ref (ad 3), .int a1]) (mw_Qv G ad NF TF FF (mw_eqV M0 L0)) 0 0 (mw_fr G) := by
  refine mw_enter (by decide) (Nat.le_of_ble_eq_true rfl) ?_
  intro p e s m below meth c ls C hr hlocks hnm hw hl
  have hl : lv_has ls 5 [(0, .ref (ad 3)), (1, .int a1)] := hl
  have hb102 : ∀ (M : mwM) (L : mwL) (H : Heap) (locs : List Loc) (ls : Array Slot), fX1_putOnBus_b102 fu a1 M L = some (M0, L0) → mw_W G ad NF TF FF M L H locs → lv_has ls 5 [] → W p l e ({ frames := 2, cells := 0, slots := 0, locals := 42 }) s m [.ref (ad 3), .int a1].toArray below meth c H locs 0 0 (MQ below (mw_Qv G ad NF TF FF (mw_eqV M0 L0)) [.ref (ad 3), .int a1].toArray s 0 0 (mw_fr G)) (F0 m 102 ls []) := by
    intro M L H locs ls hD hw hl
    unfold fX1_putOnBus_b102 at hD
    exact mr_vret C hr hlocks hw (Option.some.inj hD) dX1_putOnBus_102
  have hb69 : ∀ (v4 : Int32) (s1 : Int32) (M : mwM) (L : mwL) (H : Heap) (locs : List Loc) (ls : Array Slot), fX1_putOnBus_b69 fu a1 v4 s1 M L = some (M0, L0) → mw_W G ad NF TF FF M L H locs → lv_has ls 5 [(0, .ref (ad 3)), (1, .int a1), (4, .int v4)] → W p l e ({ frames := 2, cells := 0, slots := 0, locals := 42 }) s m [.ref (ad 3), .int a1].toArray below meth c H locs 0 0 (MQ below (mw_Qv G ad NF TF FF (mw_eqV M0 L0)) [.ref (ad 3), .int a1].toArray s 0 0 (mw_fr G)) (F0 m 69 ls [.int s1, .ref (ad 20)]) := by
    intro v4 s1 M L H locs ls hD hw hl
    unfold fX1_putOnBus_b69 at hD
    refine lv_iload C.1.1 C.1.2.1 dX1_putOnBus_69 (lv_at hl 2 rfl) ?_
    refine lv_aload_n C.1.1 C.1.2.1 dX1_putOnBus_71 rfl (lv_at hl 0 rfl) ?_
    refine mr_getR C hw kc_1 6 (by decide) tf_3 ff_3_6 wd_528 dX1_putOnBus_72 (by decide) rfl ?_
    refine mr_getNR C hw kc_9 4 (by decide) tf_154 ff_154_4 nd_367 dX1_putOnBus_75 (by decide) rfl ?_
    obtain ⟨r11, M9, L10, h1, hD⟩ := g_b3 hD
    refine md_cvI (As := [.int s1, .int v4, .ref (ad 274)]) (rest := []) C hw (tX0_send l G ad fu s1 v4 274 8 M L h1 (by decide) tf_274) kc_0 (by decide) tf_20 wd_1332 cwX0_send ⟨Nat.le_of_ble_eq_true rfl, Nat.le_of_ble_eq_true rfl⟩ rfl hl.1 (Nat.le_of_ble_eq_true rfl) dX1_putOnBus_78 rfl rfl ⟨Nat.zero_le _, Nat.zero_le _⟩ rfl (fun H locs hw => ?_)
    refine lv_if_ne (tgt := 102) C.1.1 C.1.2.1 dX1_putOnBus_81 (by decide) (fun c12 => ?_) (fun c12 => ?_)
    · replace hD := g_neg c12 hD
      exact hb102 M9 L10 _ _ ls hD hw (lv_sub hl [] rfl)
    · replace hD := g_pos c12 hD
      refine lv_aload_n C.1.1 C.1.2.1 dX1_putOnBus_84 rfl (lv_at hl 0 rfl) ?_
      refine mr_getR C hw kc_1 12 (by decide) tf_3 ff_3_12 wd_537 dX1_putOnBus_85 (by decide) rfl ?_
      refine lv_iconst (v := 0) C.1.1 C.1.2.1 dX1_putOnBus_88 (by decide) ?_
      refine lv_dup2_11 C.1.1 C.1.2.1 dX1_putOnBus_89 rfl rfl ?_
      refine mr_iald C hw (by decide) tf_292 (show vp_in 0 5 from by unfold vp_in; decide) dX1_putOnBus_90 ?_
      refine lv_iconst (v := 1) C.1.1 C.1.2.1 dX1_putOnBus_91 (by decide) ?_
      refine lv_iadd C.1.1 C.1.2.1 dX1_putOnBus_92 ?_
      obtain ⟨M15, eM15, hD⟩ := g_let hD
      refine mr_iast C hw (by decide) tf_292 (show vp_in 0 5 from by unfold vp_in; decide) dX1_putOnBus_93 (fun H locs hw => ?_)
      replace hw : mw_W G ad NF TF FF M15 L10 H locs := by rw [eM15]; exact hw
      refine lv_aload_n C.1.1 C.1.2.1 dX1_putOnBus_94 rfl (lv_at hl 0 rfl) ?_
      refine mr_getR C hw kc_1 6 (by decide) tf_3 ff_3_6 wd_528 dX1_putOnBus_95 (by decide) rfl ?_
      refine lv_iload_n C.1.1 C.1.2.1 dX1_putOnBus_98 rfl (lv_at hl 1 rfl) ?_
      obtain ⟨M16, L17, h1, hD⟩ := g_b2 hD
      refine md_cvV (As := [.int a1]) (rest := []) C hw (tX9_lose l G ad fu a1 M15 L10 h1) kc_9 (by decide) tf_154 wd_1781 cwX9_lose ⟨Nat.le_of_ble_eq_true rfl, Nat.le_of_ble_eq_true rfl⟩ rfl hl.1 (Nat.le_of_ble_eq_true rfl) dX1_putOnBus_99 rfl rfl ⟨Nat.zero_le _, Nat.zero_le _⟩ rfl (fun H locs hw => ?_)
      exact hb102 M16 L17 _ _ ls hD hw (lv_sub hl [] rfl)
  have hb42 : ∀ (v2 : Int32) (v3 : Int32) (s0 : Int32) (s1 : Int32) (M : mwM) (L : mwL) (H : Heap) (locs : List Loc) (ls : Array Slot), fX1_putOnBus_b42 fu a1 v2 v3 s0 s1 M L = some (M0, L0) → mw_W G ad NF TF FF M L H locs → lv_has ls 5 [(0, .ref (ad 3)), (1, .int a1), (2, .int v2), (3, .int v3)] → W p l e ({ frames := 2, cells := 0, slots := 0, locals := 42 }) s m [.ref (ad 3), .int a1].toArray below meth c H locs 0 0 (MQ below (mw_Qv G ad NF TF FF (mw_eqV M0 L0)) [.ref (ad 3), .int a1].toArray s 0 0 (mw_fr G)) (F0 m 42 ls [.int s1, .int s0]) := by
    intro v2 v3 s0 s1 M L H locs ls hD hw hl
    unfold fX1_putOnBus_b42 at hD
    refine lv_iadd C.1.1 C.1.2.1 dX1_putOnBus_42 ?_
    obtain ⟨x5, ex5, hD⟩ := g_let hD
    refine W.eq (g2 := F0 m 43 ls (.int x5 :: [])) (by rw [ex5]) ?_
    refine lv_istore (lv' := [(4, .int x5), (0, .ref (ad 3)), (1, .int a1), (2, .int v2), (3, .int v3)]) C.1.1 C.1.2.1 dX1_putOnBus_43 hl (by decide) rfl (fun ls hl => ?_)
    refine lv_aload_n C.1.1 C.1.2.1 dX1_putOnBus_45 rfl (lv_at hl 1 rfl) ?_
    refine mr_getR C hw kc_1 6 (by decide) tf_3 ff_3_6 wd_528 dX1_putOnBus_46 (by decide) rfl ?_
    refine lv_iload_n C.1.1 C.1.2.1 dX1_putOnBus_49 rfl (lv_at hl 2 rfl) ?_
    obtain ⟨M6, L7, h1, hD⟩ := g_b2 hD
    refine md_cvV (As := [.int a1]) (rest := []) C hw (tX9_writeOctets l G ad fu a1 M L h1) kc_9 (by decide) tf_154 wd_1777 cwX9_writeOctets ⟨Nat.le_of_ble_eq_true rfl, Nat.le_of_ble_eq_true rfl⟩ rfl hl.1 (Nat.le_of_ble_eq_true rfl) dX1_putOnBus_50 rfl rfl ⟨Nat.zero_le _, Nat.zero_le _⟩ rfl (fun H locs hw => ?_)
    refine lv_aload_n C.1.1 C.1.2.1 dX1_putOnBus_53 rfl (lv_at hl 1 rfl) ?_
    refine mr_getR C hw kc_1 2 (by decide) tf_3 ff_3_2 wd_517 dX1_putOnBus_54 (by decide) rfl ?_
    refine lv_iload_n C.1.1 C.1.2.1 dX1_putOnBus_57 rfl (lv_at hl 3 rfl) ?_
    refine lv_if_eq (tgt := 68) C.1.1 C.1.2.1 dX1_putOnBus_58 (by decide) (fun c8 => ?_) (fun c8 => ?_)
    · replace hD := g_pos c8 hD
      refine lv_iload_n C.1.1 C.1.2.1 dX1_putOnBus_68 rfl (lv_at hl 4 rfl) ?_
      exact hb69 x5 v3 M6 L7 _ _ ls hD hw (lv_sub hl [1, 2, 0] rfl)
    · replace hD := g_neg c8 hD
      refine lv_aload_n C.1.1 C.1.2.1 dX1_putOnBus_61 rfl (lv_at hl 1 rfl) ?_
      refine mr_getI C hw kc_1 13 (by decide) tf_3 wd_539 dX1_putOnBus_62 (by decide) rfl ?_
      refine lv_goto (tgt := 69) C.1.1 C.1.2.1 dX1_putOnBus_65 (by decide) ?_
      exact hb69 x5 (M6 3 13) M6 L7 _ _ ls hD hw (lv_sub hl [1, 2, 0] rfl)
  have hb16 : ∀ (s0 : Int32) (M : mwM) (L : mwL) (H : Heap) (locs : List Loc) (ls : Array Slot), fX1_putOnBus_b16 fu a1 s0 M L = some (M0, L0) → mw_W G ad NF TF FF M L H locs → lv_has ls 5 [(0, .ref (ad 3)), (1, .int a1)] → W p l e ({ frames := 2, cells := 0, slots := 0, locals := 42 }) s m [.ref (ad 3), .int a1].toArray below meth c H locs 0 0 (MQ below (mw_Qv G ad NF TF FF (mw_eqV M0 L0)) [.ref (ad 3), .int a1].toArray s 0 0 (mw_fr G)) (F0 m 16 ls [.int s0]) := by
    intro s0 M L H locs ls hD hw hl
    unfold fX1_putOnBus_b16 at hD
    refine lv_istore_n (lv' := [(2, .int s0), (0, .ref (ad 3)), (1, .int a1)]) C.1.1 C.1.2.1 dX1_putOnBus_16 rfl hl (by decide) rfl (fun ls hl => ?_)
    refine lv_aload_n C.1.1 C.1.2.1 dX1_putOnBus_17 rfl (lv_at hl 1 rfl) ?_
    refine mr_getR C hw kc_1 6 (by decide) tf_3 ff_3_6 wd_528 dX1_putOnBus_18 (by decide) rfl ?_
    refine lv_iload_n C.1.1 C.1.2.1 dX1_putOnBus_21 rfl (lv_at hl 2 rfl) ?_
    obtain ⟨r3, M1, L2, h1, hD⟩ := g_b3 hD
    refine md_cvI (As := [.int a1]) (rest := []) C hw (tX9_controllerOf l G ad fu a1 M L h1) kc_9 (by decide) tf_154 wd_1776 cwX9_controllerOf ⟨Nat.le_of_ble_eq_true rfl, Nat.le_of_ble_eq_true rfl⟩ rfl hl.1 (Nat.le_of_ble_eq_true rfl) dX1_putOnBus_22 rfl rfl ⟨Nat.zero_le _, Nat.zero_le _⟩ rfl (fun H locs hw => ?_)
    refine lv_istore_n (lv' := [(3, .int r3), (2, .int s0), (0, .ref (ad 3)), (1, .int a1)]) C.1.1 C.1.2.1 dX1_putOnBus_25 rfl hl (by decide) rfl (fun ls hl => ?_)
    refine lv_sipush (v := 1536) C.1.1 C.1.2.1 dX1_putOnBus_26 (by decide) ?_
    refine lv_iconst (v := 2) C.1.1 C.1.2.1 dX1_putOnBus_29 (by decide) ?_
    refine lv_iload_n C.1.1 C.1.2.1 dX1_putOnBus_30 rfl (lv_at hl 0 rfl) ?_
    refine lv_imul C.1.1 C.1.2.1 dX1_putOnBus_31 ?_
    refine lv_iadd C.1.1 C.1.2.1 dX1_putOnBus_32 ?_
    refine lv_iload_n C.1.1 C.1.2.1 dX1_putOnBus_33 rfl (lv_at hl 1 rfl) ?_
    refine lv_if_eq (tgt := 41) C.1.1 C.1.2.1 dX1_putOnBus_34 (by decide) (fun c4 => ?_) (fun c4 => ?_)
    · replace hD := g_pos c4 hD
      refine lv_iconst (v := 1) C.1.1 C.1.2.1 dX1_putOnBus_41 (by decide) ?_
      exact hb42 s0 r3 (1536 + (2 * r3)) 1 M1 L2 _ _ ls hD hw (lv_sub hl [2, 3, 1, 0] rfl)
    · replace hD := g_neg c4 hD
      refine lv_iconst (v := 0) C.1.1 C.1.2.1 dX1_putOnBus_37 (by decide) ?_
      refine lv_goto (tgt := 42) C.1.1 C.1.2.1 dX1_putOnBus_38 (by decide) ?_
      exact hb42 s0 r3 (1536 + (2 * r3)) 0 M1 L2 _ _ ls hD hw (lv_sub hl [2, 3, 1, 0] rfl)
  unfold DX1_putOnBus at hD
  refine lv_aload_n C.1.1 C.1.2.1 dX1_putOnBus_0 rfl (lv_at hl 0 rfl) ?_
  refine mr_getR C hw kc_1 6 (by decide) tf_3 ff_3_6 wd_528 dX1_putOnBus_1 (by decide) rfl ?_
  refine lv_iload_n C.1.1 C.1.2.1 dX1_putOnBus_4 rfl (lv_at hl 1 rfl) ?_
  obtain ⟨r20, M18, L19, h1, hD⟩ := g_b3 hD
  refine md_cvI (As := [.int a1]) (rest := []) C hw (tX9_isToTester l G ad fu a1 M L h1) kc_9 (by decide) tf_154 wd_1775 cwX9_isToTester ⟨Nat.le_of_ble_eq_true rfl, Nat.le_of_ble_eq_true rfl⟩ rfl hl.1 (Nat.le_of_ble_eq_true rfl) dX1_putOnBus_5 rfl rfl ⟨Nat.zero_le _, Nat.zero_le _⟩ rfl (fun H locs hw => ?_)
  refine lv_if_ne (tgt := 15) C.1.1 C.1.2.1 dX1_putOnBus_8 (by decide) (fun c21 => ?_) (fun c21 => ?_)
  · replace hD := g_neg c21 hD
    refine lv_iconst (v := 0) C.1.1 C.1.2.1 dX1_putOnBus_15 (by decide) ?_
    exact hb16 0 M18 L19 _ _ ls hD hw (lv_sub hl [0, 1] rfl)
  · replace hD := g_pos c21 hD
    refine lv_iconst (v := 1) C.1.1 C.1.2.1 dX1_putOnBus_11 (by decide) ?_
    refine lv_goto (tgt := 16) C.1.1 C.1.2.1 dX1_putOnBus_12 (by decide) ?_
    exact hb16 1 M18 L19 _ _ ls hD hw (lv_sub hl [0, 1] rfl)

theorem dX1_passTransfer_0 : decode cX1_passTransfer 0 = .ok (.aload_n 0, 1) := by decide +kernel
theorem dX1_passTransfer_1 : decode cX1_passTransfer 1 = .ok (.getfield 55, 3) := by decide +kernel
theorem dX1_passTransfer_4 : decode cX1_passTransfer 4 = .ok (.aload_n 0, 1) := by decide +kernel
theorem dX1_passTransfer_5 : decode cX1_passTransfer 5 = .ok (.getfield 100, 3) := by decide +kernel
theorem dX1_passTransfer_8 : decode cX1_passTransfer 8 = .ok (.invokevirtual 283, 3) := by decide +kernel
theorem dX1_passTransfer_11 : decode cX1_passTransfer 11 = .ok (.aload_n 0, 1) := by decide +kernel
theorem dX1_passTransfer_12 : decode cX1_passTransfer 12 = .ok (.getfield 55, 3) := by decide +kernel
theorem dX1_passTransfer_15 : decode cX1_passTransfer 15 = .ok (.getfield 286, 3) := by decide +kernel
theorem dX1_passTransfer_18 : decode cX1_passTransfer 18 = .ok (.istore_n 1, 1) := by decide +kernel
theorem dX1_passTransfer_19 : decode cX1_passTransfer 19 = .ok (.iload_n 1, 1) := by decide +kernel
theorem dX1_passTransfer_20 : decode cX1_passTransfer 20 = .ok (.aload_n 0, 1) := by decide +kernel
theorem dX1_passTransfer_21 : decode cX1_passTransfer 21 = .ok (.getfield 55, 3) := by decide +kernel
theorem dX1_passTransfer_24 : decode cX1_passTransfer 24 = .ok (.getfield 289, 3) := by decide +kernel
theorem dX1_passTransfer_27 : decode cX1_passTransfer 27 = .ok (.if_icmp .ge 14, 3) := by decide +kernel
theorem dX1_passTransfer_30 : decode cX1_passTransfer 30 = .ok (.aload_n 0, 1) := by decide +kernel
theorem dX1_passTransfer_31 : decode cX1_passTransfer 31 = .ok (.iload_n 1, 1) := by decide +kernel
theorem dX1_passTransfer_32 : decode cX1_passTransfer 32 = .ok (.invokevirtual 290, 3) := by decide +kernel
theorem dX1_passTransfer_35 : decode cX1_passTransfer 35 = .ok (.iinc 1 1, 3) := by decide +kernel
theorem dX1_passTransfer_38 : decode cX1_passTransfer 38 = .ok (.goto (-19), 3) := by decide +kernel
theorem dX1_passTransfer_41 : decode cX1_passTransfer 41 = .ok (.aload_n 0, 1) := by decide +kernel
theorem dX1_passTransfer_42 : decode cX1_passTransfer 42 = .ok (.getfield 55, 3) := by decide +kernel
theorem dX1_passTransfer_45 : decode cX1_passTransfer 45 = .ok (.aload_n 0, 1) := by decide +kernel
theorem dX1_passTransfer_46 : decode cX1_passTransfer 46 = .ok (.getfield 55, 3) := by decide +kernel
theorem dX1_passTransfer_49 : decode cX1_passTransfer 49 = .ok (.getfield 289, 3) := by decide +kernel
theorem dX1_passTransfer_52 : decode cX1_passTransfer 52 = .ok (.putfield 286, 3) := by decide +kernel
theorem dX1_passTransfer_55 : decode cX1_passTransfer 55 = .ok (.aload_n 0, 1) := by decide +kernel
theorem dX1_passTransfer_56 : decode cX1_passTransfer 56 = .ok (.getfield 55, 3) := by decide +kernel
theorem dX1_passTransfer_59 : decode cX1_passTransfer 59 = .ok (.getfield 293, 3) := by decide +kernel
theorem dX1_passTransfer_62 : decode cX1_passTransfer 62 = .ok (.ifCond .eq 25, 3) := by decide +kernel
theorem dX1_passTransfer_65 : decode cX1_passTransfer 65 = .ok (.aload_n 0, 1) := by decide +kernel
theorem dX1_passTransfer_66 : decode cX1_passTransfer 66 = .ok (.getfield 103, 3) := by decide +kernel
theorem dX1_passTransfer_69 : decode cX1_passTransfer 69 = .ok (.ifCond .lt 18, 3) := by decide +kernel
theorem dX1_passTransfer_72 : decode cX1_passTransfer 72 = .ok (.aload_n 0, 1) := by decide +kernel
theorem dX1_passTransfer_73 : decode cX1_passTransfer 73 = .ok (.iconst (-1), 1) := by decide +kernel
theorem dX1_passTransfer_74 : decode cX1_passTransfer 74 = .ok (.putfield 103, 3) := by decide +kernel
theorem dX1_passTransfer_77 : decode cX1_passTransfer 77 = .ok (.aload_n 0, 1) := by decide +kernel
theorem dX1_passTransfer_78 : decode cX1_passTransfer 78 = .ok (.getfield 83, 3) := by decide +kernel
theorem dX1_passTransfer_81 : decode cX1_passTransfer 81 = .ok (.iconst 4, 1) := by decide +kernel
theorem dX1_passTransfer_82 : decode cX1_passTransfer 82 = .ok (.dup2, 1) := by decide +kernel
theorem dX1_passTransfer_83 : decode cX1_passTransfer 83 = .ok (.iaload, 1) := by decide +kernel
theorem dX1_passTransfer_84 : decode cX1_passTransfer 84 = .ok (.iconst 1, 1) := by decide +kernel
theorem dX1_passTransfer_85 : decode cX1_passTransfer 85 = .ok (.iadd, 1) := by decide +kernel
theorem dX1_passTransfer_86 : decode cX1_passTransfer 86 = .ok (.iastore, 1) := by decide +kernel
theorem dX1_passTransfer_87 : decode cX1_passTransfer 87 = .ok (.aload_n 0, 1) := by decide +kernel
theorem dX1_passTransfer_88 : decode cX1_passTransfer 88 = .ok (.getfield 55, 3) := by decide +kernel
theorem dX1_passTransfer_91 : decode cX1_passTransfer 91 = .ok (.iconst 0, 1) := by decide +kernel
theorem dX1_passTransfer_92 : decode cX1_passTransfer 92 = .ok (.putfield 293, 3) := by decide +kernel
theorem dX1_passTransfer_95 : decode cX1_passTransfer 95 = .ok (.return_, 1) := by decide +kernel
theorem cwX1_passTransfer : mw_cwV yX1_passTransfer cX1_passTransfer 2 (none) 0 := ⟨⟨wd_3, wd_1758, by decide +kernel⟩, wd_1757, sl_141⟩
set_option maxHeartbeats 4000000 in
set_option maxRecDepth 100000 in
theorem tX1_passTransfer (l : Launch) (G : mwG) (ad : Nat → Nat) (fu : Nat) (M : mwM) (L : mwL) {M0 : mwM} {L0 : mwL} (hD : DX1_passTransfer fu M L = some (M0, L0)) : Met l yX1_passTransfer (Cond.code yX1_passTransfer cX1_passTransfer 2 (none) :: GT) ({ frames := 3, cells := 0, slots := 0, locals := 69 }) (mw_Pre G ad NF TF FF M L [.ref (ad 3)]) (mw_Qv G ad NF TF FF (mw_eqV M0 L0)) 0 0 (mw_fr G) := by
  refine mw_enter (by decide) (Nat.le_of_ble_eq_true rfl) ?_
  intro p e s m below meth c ls C hr hlocks hnm hw hl
  have hl : lv_has ls 2 [(0, .ref (ad 3))] := hl
  have hb87 : ∀ (M : mwM) (L : mwL) (H : Heap) (locs : List Loc) (ls : Array Slot), fX1_passTransfer_b87 fu M L = some (M0, L0) → mw_W G ad NF TF FF M L H locs → lv_has ls 2 [(0, .ref (ad 3))] → W p l e ({ frames := 3, cells := 0, slots := 0, locals := 69 }) s m [.ref (ad 3)].toArray below meth c H locs 0 0 (MQ below (mw_Qv G ad NF TF FF (mw_eqV M0 L0)) [.ref (ad 3)].toArray s 0 0 (mw_fr G)) (F0 m 87 ls []) := by
    intro M L H locs ls hD hw hl
    unfold fX1_passTransfer_b87 at hD
    refine lv_aload_n C.1.1 C.1.2.1 dX1_passTransfer_87 rfl (lv_at hl 0 rfl) ?_
    refine mr_getR C hw kc_1 6 (by decide) tf_3 ff_3_6 wd_528 dX1_passTransfer_88 (by decide) rfl ?_
    refine lv_iconst (v := 0) C.1.1 C.1.2.1 dX1_passTransfer_91 (by decide) ?_
    obtain ⟨M12, eM12, hD⟩ := g_let hD
    refine mr_putNI C hw kc_9 10 (by decide) tf_154 nd_377 dX1_passTransfer_92 (by decide) rfl rfl (by decide +kernel) (by decide +kernel) (fun H locs hw => ?_)
    replace hw : mw_W G ad NF TF FF M12 L H locs := by rw [eM12]; exact hw
    exact mr_vret C hr hlocks hw (Option.some.inj hD) dX1_passTransfer_95
  have hh19 : ∀ (f : Nat) (v1 : Int32) (M : mwM) (L : mwL) (H : Heap) (locs : List Loc) (ls : Array Slot), fX1_passTransfer_h19 fu f (v1, M, L) = some (M0, L0) → mw_W G ad NF TF FF M L H locs → lv_has ls 2 [(0, .ref (ad 3)), (1, .int v1)] → W p l e ({ frames := 3, cells := 0, slots := 0, locals := 69 }) s m [.ref (ad 3)].toArray below meth c H locs 0 0 (MQ below (mw_Qv G ad NF TF FF (mw_eqV M0 L0)) [.ref (ad 3)].toArray s 0 0 (mw_fr G)) (F0 m 19 ls []) := by
    intro f
    induction f with
    | zero => intro v1 M L H locs ls hD; cases hD
    | succ f19 ih19 =>
      intro v1 M L H locs ls hD hw hl
      replace hD : fX1_passTransfer_i19 fu (fX1_passTransfer_h19 fu f19) v1 M L = some (M0, L0) := hD
      unfold fX1_passTransfer_i19 at hD
      refine lv_iload_n C.1.1 C.1.2.1 dX1_passTransfer_19 rfl (lv_at hl 1 rfl) ?_
      refine lv_aload_n C.1.1 C.1.2.1 dX1_passTransfer_20 rfl (lv_at hl 0 rfl) ?_
      refine mr_getR C hw kc_1 6 (by decide) tf_3 ff_3_6 wd_528 dX1_passTransfer_21 (by decide) rfl ?_
      refine mr_getNI C hw kc_9 6 (by decide) tf_154 nd_371 dX1_passTransfer_24 (by decide) rfl ?_
      refine lv_icmp_ge (tgt := 41) C.1.1 C.1.2.1 dX1_passTransfer_27 (by decide) (fun c1 => ?_) (fun c1 => ?_)
      · replace hD := g_pos c1 hD
        refine lv_aload_n C.1.1 C.1.2.1 dX1_passTransfer_41 rfl (lv_at hl 0 rfl) ?_
        refine mr_getR C hw kc_1 6 (by decide) tf_3 ff_3_6 wd_528 dX1_passTransfer_42 (by decide) rfl ?_
        refine lv_aload_n C.1.1 C.1.2.1 dX1_passTransfer_45 rfl (lv_at hl 0 rfl) ?_
        refine mr_getR C hw kc_1 6 (by decide) tf_3 ff_3_6 wd_528 dX1_passTransfer_46 (by decide) rfl ?_
        refine mr_getNI C hw kc_9 6 (by decide) tf_154 nd_371 dX1_passTransfer_49 (by decide) rfl ?_
        obtain ⟨M2, eM2, hD⟩ := g_let hD
        refine mr_putNI C hw kc_9 7 (by decide) tf_154 nd_373 dX1_passTransfer_52 (by decide) rfl rfl rfl rfl (fun H locs hw => ?_)
        replace hw : mw_W G ad NF TF FF M2 L H locs := by rw [eM2]; exact hw
        refine lv_aload_n C.1.1 C.1.2.1 dX1_passTransfer_55 rfl (lv_at hl 0 rfl) ?_
        refine mr_getR C hw kc_1 6 (by decide) tf_3 ff_3_6 wd_528 dX1_passTransfer_56 (by decide) rfl ?_
        refine mr_getNI C hw kc_9 10 (by decide) tf_154 nd_377 dX1_passTransfer_59 (by decide) rfl ?_
        refine lv_if_eq (tgt := 87) C.1.1 C.1.2.1 dX1_passTransfer_62 (by decide) (fun c3 => ?_) (fun c3 => ?_)
        · replace hD := g_pos c3 hD
          exact hb87 M2 L _ _ ls hD hw (lv_sub hl [0] rfl)
        · replace hD := g_neg c3 hD
          refine lv_aload_n C.1.1 C.1.2.1 dX1_passTransfer_65 rfl (lv_at hl 0 rfl) ?_
          refine mr_getI C hw kc_1 17 (by decide) tf_3 wd_549 dX1_passTransfer_66 (by decide) rfl ?_
          refine lv_if_lt (tgt := 87) C.1.1 C.1.2.1 dX1_passTransfer_69 (by decide) (fun c4 => ?_) (fun c4 => ?_)
          · replace hD := g_pos c4 hD
            exact hb87 M2 L _ _ ls hD hw (lv_sub hl [0] rfl)
          · replace hD := g_neg c4 hD
            refine lv_aload_n C.1.1 C.1.2.1 dX1_passTransfer_72 rfl (lv_at hl 0 rfl) ?_
            refine lv_iconst (v := (-1)) C.1.1 C.1.2.1 dX1_passTransfer_73 (by decide) ?_
            obtain ⟨M5, eM5, hD⟩ := g_let hD
            refine mr_putI C hw kc_1 17 (by decide) tf_3 wd_549 dX1_passTransfer_74 (by decide) rfl rfl rfl rfl (fun H locs hw => ?_)
            replace hw : mw_W G ad NF TF FF M5 L H locs := by rw [eM5]; exact hw
            refine lv_aload_n C.1.1 C.1.2.1 dX1_passTransfer_77 rfl (lv_at hl 0 rfl) ?_
            refine mr_getR C hw kc_1 12 (by decide) tf_3 ff_3_12 wd_537 dX1_passTransfer_78 (by decide) rfl ?_
            refine lv_iconst (v := 4) C.1.1 C.1.2.1 dX1_passTransfer_81 (by decide) ?_
            refine lv_dup2_11 C.1.1 C.1.2.1 dX1_passTransfer_82 rfl rfl ?_
            refine mr_iald C hw (by decide) tf_292 (show vp_in 4 5 from by unfold vp_in; decide) dX1_passTransfer_83 ?_
            refine lv_iconst (v := 1) C.1.1 C.1.2.1 dX1_passTransfer_84 (by decide) ?_
            refine lv_iadd C.1.1 C.1.2.1 dX1_passTransfer_85 ?_
            obtain ⟨M8, eM8, hD⟩ := g_let hD
            refine mr_iast C hw (by decide) tf_292 (show vp_in 4 5 from by unfold vp_in; decide) dX1_passTransfer_86 (fun H locs hw => ?_)
            replace hw : mw_W G ad NF TF FF M8 L H locs := by rw [eM8]; exact hw
            exact hb87 M8 L _ _ ls hD hw (lv_sub hl [0] rfl)
      · replace hD := g_neg c1 hD
        refine lv_aload_n C.1.1 C.1.2.1 dX1_passTransfer_30 rfl (lv_at hl 0 rfl) ?_
        refine lv_iload_n C.1.1 C.1.2.1 dX1_passTransfer_31 rfl (lv_at hl 1 rfl) ?_
        obtain ⟨M9, L10, h1, hD⟩ := g_b2 hD
        refine md_cvV (As := [.int v1]) (rest := []) C hw (tX1_putOnBus l G ad fu v1 M L h1) kc_1 (by decide) tf_3 wd_1771 cwX1_putOnBus ⟨Nat.le_of_ble_eq_true rfl, Nat.le_of_ble_eq_true rfl⟩ rfl hl.1 (Nat.le_of_ble_eq_true rfl) dX1_passTransfer_32 rfl rfl ⟨Nat.zero_le _, Nat.zero_le _⟩ rfl (fun H locs hw => ?_)
        obtain ⟨x11, ex11, hD⟩ := g_let hD
        refine lv_iinc (v := x11) (lv' := [(1, .int x11), (0, .ref (ad 3))]) C.1.1 C.1.2.1 dX1_passTransfer_35 hl (k := 1) rfl (by rw [ex11]; rfl) (by decide) rfl (fun ls hl => ?_)
        refine lv_goto (tgt := 19) C.1.1 C.1.2.1 dX1_passTransfer_38 (by decide) ?_
        exact ih19 x11 M9 L10 _ _ ls hD hw (lv_sub hl [1, 0] rfl)
  unfold DX1_passTransfer at hD
  refine lv_aload_n C.1.1 C.1.2.1 dX1_passTransfer_0 rfl (lv_at hl 0 rfl) ?_
  refine mr_getR C hw kc_1 6 (by decide) tf_3 ff_3_6 wd_528 dX1_passTransfer_1 (by decide) rfl ?_
  refine lv_aload_n C.1.1 C.1.2.1 dX1_passTransfer_4 rfl (lv_at hl 0 rfl) ?_
  refine mr_getI C hw kc_1 16 (by decide) tf_3 wd_547 dX1_passTransfer_5 (by decide) rfl ?_
  obtain ⟨M13, L14, h1, hD⟩ := g_b2 hD
  refine md_cvV (As := [.int (M 3 16)]) (rest := []) C hw (tX9_tick l G ad fu (M 3 16) M L h1) kc_9 (by decide) tf_154 wd_1759 cwX9_tick ⟨Nat.le_of_ble_eq_true rfl, Nat.le_of_ble_eq_true rfl⟩ rfl hl.1 (Nat.le_of_ble_eq_true rfl) dX1_passTransfer_8 rfl rfl ⟨Nat.zero_le _, Nat.zero_le _⟩ rfl (fun H locs hw => ?_)
  refine lv_aload_n C.1.1 C.1.2.1 dX1_passTransfer_11 rfl (lv_at hl 0 rfl) ?_
  refine mr_getR C hw kc_1 6 (by decide) tf_3 ff_3_6 wd_528 dX1_passTransfer_12 (by decide) rfl ?_
  refine mr_getNI C hw kc_9 7 (by decide) tf_154 nd_373 dX1_passTransfer_15 (by decide) rfl ?_
  obtain ⟨x15, ex15, hD⟩ := g_let hD
  refine W.eq (g2 := F0 m 18 ls (.int x15 :: [])) (by rw [ex15]) ?_
  refine lv_istore_n (lv' := [(1, .int x15), (0, .ref (ad 3))]) C.1.1 C.1.2.1 dX1_passTransfer_18 rfl hl (by decide) rfl (fun ls hl => ?_)
  exact hh19 fu x15 M13 L14 _ _ ls hD hw (lv_sub hl [1, 0] rfl)
