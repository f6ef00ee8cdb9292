theorem dX17_takeNext_0 : decode cX17_takeNext 0 = .ok (.aload_n 0, 1) := by decide +kernel
theorem dX17_takeNext_1 : decode cX17_takeNext 1 = .ok (.getfield 86, 3) := by decide +kernel
theorem dX17_takeNext_4 : decode cX17_takeNext 4 = .ok (.iload_n 2, 1) := by decide +kernel
theorem dX17_takeNext_5 : decode cX17_takeNext 5 = .ok (.iaload, 1) := by decide +kernel
theorem dX17_takeNext_6 : decode cX17_takeNext 6 = .ok (.aload_n 0, 1) := by decide +kernel
theorem dX17_takeNext_7 : decode cX17_takeNext 7 = .ok (.getfield 61, 3) := by decide +kernel
theorem dX17_takeNext_10 : decode cX17_takeNext 10 = .ok (.iload_n 1, 1) := by decide +kernel
theorem dX17_takeNext_11 : decode cX17_takeNext 11 = .ok (.iaload, 1) := by decide +kernel
theorem dX17_takeNext_12 : decode cX17_takeNext 12 = .ok (.if_icmp .eq 10, 3) := by decide +kernel
theorem dX17_takeNext_15 : decode cX17_takeNext 15 = .ok (.aload_n 0, 1) := by decide +kernel
theorem dX17_takeNext_16 : decode cX17_takeNext 16 = .ok (.iload_n 1, 1) := by decide +kernel
theorem dX17_takeNext_17 : decode cX17_takeNext 17 = .ok (.iconst 3, 1) := by decide +kernel
theorem dX17_takeNext_18 : decode cX17_takeNext 18 = .ok (.invokevirtual 163, 3) := by decide +kernel
theorem dX17_takeNext_21 : decode cX17_takeNext 21 = .ok (.return_, 1) := by decide +kernel
theorem dX17_takeNext_22 : decode cX17_takeNext 22 = .ok (.aload_n 0, 1) := by decide +kernel
theorem dX17_takeNext_23 : decode cX17_takeNext 23 = .ok (.getfield 61, 3) := by decide +kernel
theorem dX17_takeNext_26 : decode cX17_takeNext 26 = .ok (.iload_n 1, 1) := by decide +kernel
theorem dX17_takeNext_27 : decode cX17_takeNext 27 = .ok (.aload_n 0, 1) := by decide +kernel
theorem dX17_takeNext_28 : decode cX17_takeNext 28 = .ok (.getfield 61, 3) := by decide +kernel
theorem dX17_takeNext_31 : decode cX17_takeNext 31 = .ok (.iload_n 1, 1) := by decide +kernel
theorem dX17_takeNext_32 : decode cX17_takeNext 32 = .ok (.iaload, 1) := by decide +kernel
theorem dX17_takeNext_33 : decode cX17_takeNext 33 = .ok (.iconst 1, 1) := by decide +kernel
theorem dX17_takeNext_34 : decode cX17_takeNext 34 = .ok (.iadd, 1) := by decide +kernel
theorem dX17_takeNext_35 : decode cX17_takeNext 35 = .ok (.bipush 16, 2) := by decide +kernel
theorem dX17_takeNext_37 : decode cX17_takeNext 37 = .ok (.irem, 1) := by decide +kernel
theorem dX17_takeNext_38 : decode cX17_takeNext 38 = .ok (.iastore, 1) := by decide +kernel
theorem dX17_takeNext_39 : decode cX17_takeNext 39 = .ok (.aload_n 0, 1) := by decide +kernel
theorem dX17_takeNext_40 : decode cX17_takeNext 40 = .ok (.getfield 70, 3) := by decide +kernel
theorem dX17_takeNext_43 : decode cX17_takeNext 43 = .ok (.iload_n 1, 1) := by decide +kernel
theorem dX17_takeNext_44 : decode cX17_takeNext 44 = .ok (.aload_n 0, 1) := by decide +kernel
theorem dX17_takeNext_45 : decode cX17_takeNext 45 = .ok (.getfield 118, 3) := by decide +kernel
theorem dX17_takeNext_48 : decode cX17_takeNext 48 = .ok (.lastore, 1) := by decide +kernel
theorem dX17_takeNext_49 : decode cX17_takeNext 49 = .ok (.aload_n 0, 1) := by decide +kernel
theorem dX17_takeNext_50 : decode cX17_takeNext 50 = .ok (.getfield 73, 3) := by decide +kernel
theorem dX17_takeNext_53 : decode cX17_takeNext 53 = .ok (.iload_n 1, 1) := by decide +kernel
theorem dX17_takeNext_54 : decode cX17_takeNext 54 = .ok (.iconst 0, 1) := by decide +kernel
theorem dX17_takeNext_55 : decode cX17_takeNext 55 = .ok (.bastore, 1) := by decide +kernel
theorem dX17_takeNext_56 : decode cX17_takeNext 56 = .ok (.aload_n 0, 1) := by decide +kernel
theorem dX17_takeNext_57 : decode cX17_takeNext 57 = .ok (.iload_n 1, 1) := by decide +kernel
theorem dX17_takeNext_58 : decode cX17_takeNext 58 = .ok (.iload_n 2, 1) := by decide +kernel
theorem dX17_takeNext_59 : decode cX17_takeNext 59 = .ok (.invokevirtual 169, 3) := by decide +kernel
theorem dX17_takeNext_62 : decode cX17_takeNext 62 = .ok (.aload_n 0, 1) := by decide +kernel
theorem dX17_takeNext_63 : decode cX17_takeNext 63 = .ok (.getfield 58, 3) := by decide +kernel
theorem dX17_takeNext_66 : decode cX17_takeNext 66 = .ok (.iload_n 1, 1) := by decide +kernel
theorem dX17_takeNext_67 : decode cX17_takeNext 67 = .ok (.iaload, 1) := by decide +kernel
theorem dX17_takeNext_68 : decode cX17_takeNext 68 = .ok (.aload_n 0, 1) := by decide +kernel
theorem dX17_takeNext_69 : decode cX17_takeNext 69 = .ok (.getfield 55, 3) := by decide +kernel
theorem dX17_takeNext_72 : decode cX17_takeNext 72 = .ok (.iload_n 1, 1) := by decide +kernel
theorem dX17_takeNext_73 : decode cX17_takeNext 73 = .ok (.iaload, 1) := by decide +kernel
theorem dX17_takeNext_74 : decode cX17_takeNext 74 = .ok (.if_icmp .ne 9, 3) := by decide +kernel
theorem dX17_takeNext_77 : decode cX17_takeNext 77 = .ok (.aload_n 0, 1) := by decide +kernel
theorem dX17_takeNext_78 : decode cX17_takeNext 78 = .ok (.iload_n 1, 1) := by decide +kernel
theorem dX17_takeNext_79 : decode cX17_takeNext 79 = .ok (.invokevirtual 172, 3) := by decide +kernel
theorem dX17_takeNext_82 : decode cX17_takeNext 82 = .ok (.return_, 1) := by decide +kernel
theorem dX17_takeNext_83 : decode cX17_takeNext 83 = .ok (.aload_n 0, 1) := by decide +kernel
theorem dX17_takeNext_84 : decode cX17_takeNext 84 = .ok (.getfield 67, 3) := by decide +kernel
theorem dX17_takeNext_87 : decode cX17_takeNext 87 = .ok (.iload_n 1, 1) := by decide +kernel
theorem dX17_takeNext_88 : decode cX17_takeNext 88 = .ok (.dup2, 1) := by decide +kernel
theorem dX17_takeNext_89 : decode cX17_takeNext 89 = .ok (.iaload, 1) := by decide +kernel
theorem dX17_takeNext_90 : decode cX17_takeNext 90 = .ok (.iconst 1, 1) := by decide +kernel
theorem dX17_takeNext_91 : decode cX17_takeNext 91 = .ok (.isub, 1) := by decide +kernel
theorem dX17_takeNext_92 : decode cX17_takeNext 92 = .ok (.iastore, 1) := by decide +kernel
theorem dX17_takeNext_93 : decode cX17_takeNext 93 = .ok (.aload_n 0, 1) := by decide +kernel
theorem dX17_takeNext_94 : decode cX17_takeNext 94 = .ok (.getfield 64, 3) := by decide +kernel
theorem dX17_takeNext_97 : decode cX17_takeNext 97 = .ok (.iload_n 1, 1) := by decide +kernel
theorem dX17_takeNext_98 : decode cX17_takeNext 98 = .ok (.iaload, 1) := by decide +kernel
theorem dX17_takeNext_99 : decode cX17_takeNext 99 = .ok (.ifCond .le 17, 3) := by decide +kernel
theorem dX17_takeNext_102 : decode cX17_takeNext 102 = .ok (.aload_n 0, 1) := by decide +kernel
theorem dX17_takeNext_103 : decode cX17_takeNext 103 = .ok (.getfield 67, 3) := by decide +kernel
theorem dX17_takeNext_106 : decode cX17_takeNext 106 = .ok (.iload_n 1, 1) := by decide +kernel
theorem dX17_takeNext_107 : decode cX17_takeNext 107 = .ok (.iaload, 1) := by decide +kernel
theorem dX17_takeNext_108 : decode cX17_takeNext 108 = .ok (.ifCond .ne 8, 3) := by decide +kernel
theorem dX17_takeNext_111 : decode cX17_takeNext 111 = .ok (.aload_n 0, 1) := by decide +kernel
theorem dX17_takeNext_112 : decode cX17_takeNext 112 = .ok (.iload_n 1, 1) := by decide +kernel
theorem dX17_takeNext_113 : decode cX17_takeNext 113 = .ok (.invokevirtual 176, 3) := by decide +kernel
theorem dX17_takeNext_116 : decode cX17_takeNext 116 = .ok (.return_, 1) := by decide +kernel
theorem cwX17_takeNext : mw_cwV yX17_takeNext cX17_takeNext 3 (none) 2 := ⟨⟨wd_17, wd_3951, by decide +kernel⟩, wd_3950, sl_295⟩
set_option maxHeartbeats 4000000 in
set_option maxRecDepth 100000 in
theorem tX17_takeNext (l : Launch) (G : mwG) (ad : Nat → Nat) (fu : Nat) (a1 : Int32) (a2 : Int32) (M : mwM) (L : mwL) {M0 : mwM} {L0 : mwL} (hD : DX17_takeNext fu a1 a2 M L = some (M0, L0)) : Met l yX17_takeNext (Cond.code yX17_takeNext cX17_takeNext 3 (none) :: GT) ({ frames := 2, cells := 0, slots := 0, locals := 46 }) (mw_Pre G ad NF TF FF M L [.ref (ad 869), .int a1, .int a2]) (mw_Qv G ad NF TF FF (mw_eqV M0 L0)) 0 0 (mw_fr G) := by
  refine mw_enter (by decide) (Nat.le_of_ble_eq_true rfl) ?_
  intro p e s m below meth c ls C hr hlocks hnm hw hl
  have hl : lv_has ls 3 [(0, .ref (ad 869)), (1, .int a1), (2, .int a2)] := hl
  have hb116 : ∀ (M : mwM) (L : mwL) (H : Heap) (locs : List Loc) (ls : Array Slot), fX17_takeNext_b116 fu a1 a2 M L = some (M0, L0) → mw_W G ad NF TF FF M L H locs → lv_has ls 3 [] → W p l e ({ frames := 2, cells := 0, slots := 0, locals := 46 }) s m [.ref (ad 869), .int a1, .int a2].toArray below meth c H locs 0 0 (MQ below (mw_Qv G ad NF TF FF (mw_eqV M0 L0)) [.ref (ad 869), .int a1, .int a2].toArray s 0 0 (mw_fr G)) (F0 m 116 ls []) := by
    intro M L H locs ls hD hw hl
    unfold fX17_takeNext_b116 at hD
    exact mr_vret C hr hlocks hw (Option.some.inj hD) dX17_takeNext_116
  unfold DX17_takeNext at hD
  refine lv_aload_n C.1.1 C.1.2.1 dX17_takeNext_0 rfl (lv_at hl 0 rfl) ?_
  refine mr_getR C hw kc_17 29 (by decide) tf_869 ff_869_29 wd_2360 dX17_takeNext_1 (by decide) rfl ?_
  refine lv_iload_n C.1.1 C.1.2.1 dX17_takeNext_4 rfl (lv_at hl 2 rfl) ?_
  obtain ⟨q1, hD⟩ := g_ck hD
  refine mr_iald C hw (by decide) tf_894 q1 dX17_takeNext_5 ?_
  refine lv_aload_n C.1.1 C.1.2.1 dX17_takeNext_6 rfl (lv_at hl 0 rfl) ?_
  refine mr_getR C hw kc_17 20 (by decide) tf_869 ff_869_20 wd_2351 dX17_takeNext_7 (by decide) rfl ?_
  refine lv_iload_n C.1.1 C.1.2.1 dX17_takeNext_10 rfl (lv_at hl 1 rfl) ?_
  obtain ⟨q2, hD⟩ := g_ck hD
  refine mr_iald C hw (by decide) tf_886 q2 dX17_takeNext_11 ?_
  refine lv_icmp_eq (tgt := 22) C.1.1 C.1.2.1 dX17_takeNext_12 (by decide) (fun c3 => ?_) (fun c3 => ?_)
  · replace hD := g_pos c3 hD
    refine lv_aload_n C.1.1 C.1.2.1 dX17_takeNext_22 rfl (lv_at hl 0 rfl) ?_
    refine mr_getR C hw kc_17 20 (by decide) tf_869 ff_869_20 wd_2351 dX17_takeNext_23 (by decide) rfl ?_
    refine lv_iload_n C.1.1 C.1.2.1 dX17_takeNext_26 rfl (lv_at hl 1 rfl) ?_
    refine lv_aload_n C.1.1 C.1.2.1 dX17_takeNext_27 rfl (lv_at hl 0 rfl) ?_
    refine mr_getR C hw kc_17 20 (by decide) tf_869 ff_869_20 wd_2351 dX17_takeNext_28 (by decide) rfl ?_
    refine lv_iload_n C.1.1 C.1.2.1 dX17_takeNext_31 rfl (lv_at hl 1 rfl) ?_
    obtain ⟨q4, hD⟩ := g_ck hD
    refine mr_iald C hw (by decide) tf_886 q4 dX17_takeNext_32 ?_
    refine lv_iconst (v := 1) C.1.1 C.1.2.1 dX17_takeNext_33 (by decide) ?_
    refine lv_iadd C.1.1 C.1.2.1 dX17_takeNext_34 ?_
    refine lv_bipush (v := 16) C.1.1 C.1.2.1 dX17_takeNext_35 (by decide) ?_
    refine lv_irem C.1.1 C.1.2.1 dX17_takeNext_37 (by decide) ?_
    obtain ⟨q6, hD⟩ := g_ck hD
    obtain ⟨M7, eM7, hD⟩ := g_let hD
    refine mr_iast C hw (by decide) tf_886 q6 dX17_takeNext_38 (fun H locs hw => ?_)
    replace hw : mw_W G ad NF TF FF M7 L H locs := by rw [eM7]; exact hw
    refine lv_aload_n C.1.1 C.1.2.1 dX17_takeNext_39 rfl (lv_at hl 0 rfl) ?_
    refine mr_getR C hw kc_17 23 (by decide) tf_869 ff_869_23 wd_2354 dX17_takeNext_40 (by decide) rfl ?_
    refine lv_iload_n C.1.1 C.1.2.1 dX17_takeNext_43 rfl (lv_at hl 1 rfl) ?_
    refine lv_aload_n C.1.1 C.1.2.1 dX17_takeNext_44 rfl (lv_at hl 0 rfl) ?_
    refine mr_getL C hw kc_17 2 (by decide) tf_869 wd_2333 dX17_takeNext_45 (by decide) rfl ?_
    obtain ⟨q8, hD⟩ := g_ck hD
    obtain ⟨L9, eL9, hD⟩ := g_let hD
    refine mr_last C hw (by decide) tf_889 q8 dX17_takeNext_48 (fun H locs hw => ?_)
    replace hw : mw_W G ad NF TF FF M7 L9 H locs := by rw [eL9]; exact hw
    refine lv_aload_n C.1.1 C.1.2.1 dX17_takeNext_49 rfl (lv_at hl 0 rfl) ?_
    refine mr_getR C hw kc_17 24 (by decide) tf_869 ff_869_24 wd_2355 dX17_takeNext_50 (by decide) rfl ?_
    refine lv_iload_n C.1.1 C.1.2.1 dX17_takeNext_53 rfl (lv_at hl 1 rfl) ?_
    refine lv_iconst (v := 0) C.1.1 C.1.2.1 dX17_takeNext_54 (by decide) ?_
    obtain ⟨q10, hD⟩ := g_ck hD
    obtain ⟨M11, eM11, hD⟩ := g_let hD
    refine mr_zast C hw (by decide) tf_890 q10 dX17_takeNext_55 (fun H locs hw => ?_)
    replace hw : mw_W G ad NF TF FF M11 L9 H locs := by rw [eM11]; exact hw
    refine lv_aload_n C.1.1 C.1.2.1 dX17_takeNext_56 rfl (lv_at hl 0 rfl) ?_
    refine lv_iload_n C.1.1 C.1.2.1 dX17_takeNext_57 rfl (lv_at hl 1 rfl) ?_
    refine lv_iload_n C.1.1 C.1.2.1 dX17_takeNext_58 rfl (lv_at hl 2 rfl) ?_
    obtain ⟨M12, L13, h1, hD⟩ := g_b2 hD
    refine md_cvV (As := [.int a1, .int a2]) (rest := []) C hw (tX17_put l G ad fu a1 a2 M11 L9 h1) kc_17 (by decide) tf_869 wd_3956 cwX17_put ⟨Nat.le_of_ble_eq_true rfl, Nat.le_of_ble_eq_true rfl⟩ rfl hl.1 (Nat.le_of_ble_eq_true rfl) dX17_takeNext_59 rfl rfl ⟨Nat.zero_le _, Nat.zero_le _⟩ rfl (fun H locs hw => ?_)
    refine lv_aload_n C.1.1 C.1.2.1 dX17_takeNext_62 rfl (lv_at hl 0 rfl) ?_
    refine mr_getR C hw kc_17 19 (by decide) tf_869 ff_869_19 wd_2350 dX17_takeNext_63 (by decide) rfl ?_
    refine lv_iload_n C.1.1 C.1.2.1 dX17_takeNext_66 rfl (lv_at hl 1 rfl) ?_
    obtain ⟨q14, hD⟩ := g_ck hD
    refine mr_iald C hw (by decide) tf_885 q14 dX17_takeNext_67 ?_
    refine lv_aload_n C.1.1 C.1.2.1 dX17_takeNext_68 rfl (lv_at hl 0 rfl) ?_
    refine mr_getR C hw kc_17 18 (by decide) tf_869 ff_869_18 wd_2349 dX17_takeNext_69 (by decide) rfl ?_
    refine lv_iload_n C.1.1 C.1.2.1 dX17_takeNext_72 rfl (lv_at hl 1 rfl) ?_
    obtain ⟨q15, hD⟩ := g_ck hD
    refine mr_iald C hw (by decide) tf_884 q15 dX17_takeNext_73 ?_
    refine lv_icmp_ne (tgt := 83) C.1.1 C.1.2.1 dX17_takeNext_74 (by decide) (fun c16 => ?_) (fun c16 => ?_)
    · replace hD := g_neg c16 hD
      refine lv_aload_n C.1.1 C.1.2.1 dX17_takeNext_83 rfl (lv_at hl 0 rfl) ?_
      refine mr_getR C hw kc_17 22 (by decide) tf_869 ff_869_22 wd_2353 dX17_takeNext_84 (by decide) rfl ?_
      refine lv_iload_n C.1.1 C.1.2.1 dX17_takeNext_87 rfl (lv_at hl 1 rfl) ?_
      refine lv_dup2_11 C.1.1 C.1.2.1 dX17_takeNext_88 rfl rfl ?_
      obtain ⟨q17, hD⟩ := g_ck hD
      refine mr_iald C hw (by decide) tf_888 q17 dX17_takeNext_89 ?_
      refine lv_iconst (v := 1) C.1.1 C.1.2.1 dX17_takeNext_90 (by decide) ?_
      refine lv_isub C.1.1 C.1.2.1 dX17_takeNext_91 ?_
      obtain ⟨q18, hD⟩ := g_ck hD
      obtain ⟨M19, eM19, hD⟩ := g_let hD
      refine mr_iast C hw (by decide) tf_888 q18 dX17_takeNext_92 (fun H locs hw => ?_)
      replace hw : mw_W G ad NF TF FF M19 L13 H locs := by rw [eM19]; exact hw
      refine lv_aload_n C.1.1 C.1.2.1 dX17_takeNext_93 rfl (lv_at hl 0 rfl) ?_
      refine mr_getR C hw kc_17 21 (by decide) tf_869 ff_869_21 wd_2352 dX17_takeNext_94 (by decide) rfl ?_
      refine lv_iload_n C.1.1 C.1.2.1 dX17_takeNext_97 rfl (lv_at hl 1 rfl) ?_
      obtain ⟨q20, hD⟩ := g_ck hD
      refine mr_iald C hw (by decide) tf_887 q20 dX17_takeNext_98 ?_
      refine lv_if_le (tgt := 116) C.1.1 C.1.2.1 dX17_takeNext_99 (by decide) (fun c21 => ?_) (fun c21 => ?_)
      · replace hD := g_pos c21 hD
        exact hb116 M19 L13 _ _ ls hD hw (lv_sub hl [] rfl)
      · replace hD := g_neg c21 hD
        refine lv_aload_n C.1.1 C.1.2.1 dX17_takeNext_102 rfl (lv_at hl 0 rfl) ?_
        refine mr_getR C hw kc_17 22 (by decide) tf_869 ff_869_22 wd_2353 dX17_takeNext_103 (by decide) rfl ?_
        refine lv_iload_n C.1.1 C.1.2.1 dX17_takeNext_106 rfl (lv_at hl 1 rfl) ?_
        obtain ⟨q22, hD⟩ := g_ck hD
        refine mr_iald C hw (by decide) tf_888 q22 dX17_takeNext_107 ?_
        refine lv_if_ne (tgt := 116) C.1.1 C.1.2.1 dX17_takeNext_108 (by decide) (fun c23 => ?_) (fun c23 => ?_)
        · replace hD := g_neg c23 hD
          exact hb116 M19 L13 _ _ ls hD hw (lv_sub hl [] rfl)
        · replace hD := g_pos c23 hD
          refine lv_aload_n C.1.1 C.1.2.1 dX17_takeNext_111 rfl (lv_at hl 0 rfl) ?_
          refine lv_iload_n C.1.1 C.1.2.1 dX17_takeNext_112 rfl (lv_at hl 1 rfl) ?_
          obtain ⟨M24, L25, h1, hD⟩ := g_b2 hD
          refine md_cvV (As := [.int a1]) (rest := []) C hw (tX17_answer l G ad fu a1 M19 L13 h1) kc_17 (by decide) tf_869 wd_3964 cwX17_answer ⟨Nat.le_of_ble_eq_true rfl, Nat.le_of_ble_eq_true rfl⟩ rfl hl.1 (Nat.le_of_ble_eq_true rfl) dX17_takeNext_113 rfl rfl ⟨Nat.zero_le _, Nat.zero_le _⟩ rfl (fun H locs hw => ?_)
          exact hb116 M24 L25 _ _ ls hD hw (lv_sub hl [] rfl)
    · replace hD := g_pos c16 hD
      refine lv_aload_n C.1.1 C.1.2.1 dX17_takeNext_77 rfl (lv_at hl 0 rfl) ?_
      refine lv_iload_n C.1.1 C.1.2.1 dX17_takeNext_78 rfl (lv_at hl 1 rfl) ?_
      obtain ⟨M26, L27, h1, hD⟩ := g_b2 hD
      refine md_cvV (As := [.int a1]) (rest := []) C hw (tX17_whole l G ad fu a1 M12 L13 h1) kc_17 (by decide) tf_869 wd_3960 cwX17_whole ⟨Nat.le_of_ble_eq_true rfl, Nat.le_of_ble_eq_true rfl⟩ rfl hl.1 (Nat.le_of_ble_eq_true rfl) dX17_takeNext_79 rfl rfl ⟨Nat.zero_le _, Nat.zero_le _⟩ rfl (fun H locs hw => ?_)
      exact mr_vret C hr hlocks hw (Option.some.inj hD) dX17_takeNext_82
  · replace hD := g_neg c3 hD
    refine lv_aload_n C.1.1 C.1.2.1 dX17_takeNext_15 rfl (lv_at hl 0 rfl) ?_
    refine lv_iload_n C.1.1 C.1.2.1 dX17_takeNext_16 rfl (lv_at hl 1 rfl) ?_
    refine lv_iconst (v := 3) C.1.1 C.1.2.1 dX17_takeNext_17 (by decide) ?_
    obtain ⟨M28, L29, h1, hD⟩ := g_b2 hD
    refine md_cvV (As := [.int a1, .int 3]) (rest := []) C hw (tX17_endReceiver l G ad fu a1 3 M L h1) kc_17 (by decide) tf_869 wd_3952 cwX17_endReceiver ⟨Nat.le_of_ble_eq_true rfl, Nat.le_of_ble_eq_true rfl⟩ rfl hl.1 (Nat.le_of_ble_eq_true rfl) dX17_takeNext_18 rfl rfl ⟨Nat.zero_le _, Nat.zero_le _⟩ rfl (fun H locs hw => ?_)
    exact mr_vret C hr hlocks hw (Option.some.inj hD) dX17_takeNext_21

theorem dX17_take_0 : decode cX17_take 0 = .ok (.aload_n 0, 1) := by decide +kernel
theorem dX17_take_1 : decode cX17_take 1 = .ok (.getfield 83, 3) := by decide +kernel
theorem dX17_take_4 : decode cX17_take 4 = .ok (.iload_n 1, 1) := by decide +kernel
theorem dX17_take_5 : decode cX17_take 5 = .ok (.iaload, 1) := by decide +kernel
theorem dX17_take_6 : decode cX17_take 6 = .ok (.iconst 4, 1) := by decide +kernel
theorem dX17_take_7 : decode cX17_take 7 = .ok (.irem, 1) := by decide +kernel
theorem dX17_take_8 : decode cX17_take 8 = .ok (.istore_n 2, 1) := by decide +kernel
theorem dX17_take_9 : decode cX17_take 9 = .ok (.aload_n 0, 1) := by decide +kernel
theorem dX17_take_10 : decode cX17_take 10 = .ok (.getfield 80, 3) := by decide +kernel
theorem dX17_take_13 : decode cX17_take 13 = .ok (.iload_n 1, 1) := by decide +kernel
theorem dX17_take_14 : decode cX17_take 14 = .ok (.iaload, 1) := by decide +kernel
theorem dX17_take_15 : decode cX17_take 15 = .ok (.iconst 2, 1) := by decide +kernel
theorem dX17_take_16 : decode cX17_take 16 = .ok (.if_icmp .ne 41, 3) := by decide +kernel
theorem dX17_take_19 : decode cX17_take 19 = .ok (.aload_n 0, 1) := by decide +kernel
theorem dX17_take_20 : decode cX17_take 20 = .ok (.getfield 49, 3) := by decide +kernel
theorem dX17_take_23 : decode cX17_take 23 = .ok (.iload_n 2, 1) := by decide +kernel
theorem dX17_take_24 : decode cX17_take 24 = .ok (.iaload, 1) := by decide +kernel
theorem dX17_take_25 : decode cX17_take 25 = .ok (.iconst 1, 1) := by decide +kernel
theorem dX17_take_26 : decode cX17_take 26 = .ok (.if_icmp .ne 24, 3) := by decide +kernel
theorem dX17_take_29 : decode cX17_take 29 = .ok (.aload_n 0, 1) := by decide +kernel
theorem dX17_take_30 : decode cX17_take 30 = .ok (.getfield 52, 3) := by decide +kernel
theorem dX17_take_33 : decode cX17_take 33 = .ok (.iload_n 2, 1) := by decide +kernel
theorem dX17_take_34 : decode cX17_take 34 = .ok (.iaload, 1) := by decide +kernel
theorem dX17_take_35 : decode cX17_take 35 = .ok (.aload_n 0, 1) := by decide +kernel
theorem dX17_take_36 : decode cX17_take 36 = .ok (.getfield 83, 3) := by decide +kernel
theorem dX17_take_39 : decode cX17_take 39 = .ok (.iload_n 1, 1) := by decide +kernel
theorem dX17_take_40 : decode cX17_take 40 = .ok (.iaload, 1) := by decide +kernel
theorem dX17_take_41 : decode cX17_take 41 = .ok (.if_icmp .ne 9, 3) := by decide +kernel
theorem dX17_take_44 : decode cX17_take 44 = .ok (.aload_n 0, 1) := by decide +kernel
theorem dX17_take_45 : decode cX17_take 45 = .ok (.iload_n 2, 1) := by decide +kernel
theorem dX17_take_46 : decode cX17_take 46 = .ok (.iload_n 1, 1) := by decide +kernel
theorem dX17_take_47 : decode cX17_take 47 = .ok (.invokevirtual 166, 3) := by decide +kernel
theorem dX17_take_50 : decode cX17_take 50 = .ok (.aload_n 0, 1) := by decide +kernel
theorem dX17_take_51 : decode cX17_take 51 = .ok (.getfield 49, 3) := by decide +kernel
theorem dX17_take_54 : decode cX17_take 54 = .ok (.iload_n 2, 1) := by decide +kernel
theorem dX17_take_55 : decode cX17_take 55 = .ok (.iaload, 1) := by decide +kernel
theorem dX17_take_56 : decode cX17_take 56 = .ok (.ireturn, 1) := by decide +kernel
theorem dX17_take_57 : decode cX17_take 57 = .ok (.aload_n 0, 1) := by decide +kernel
theorem dX17_take_58 : decode cX17_take 58 = .ok (.getfield 49, 3) := by decide +kernel
theorem dX17_take_61 : decode cX17_take 61 = .ok (.iload_n 2, 1) := by decide +kernel
theorem dX17_take_62 : decode cX17_take 62 = .ok (.iaload, 1) := by decide +kernel
theorem dX17_take_63 : decode cX17_take 63 = .ok (.iconst 1, 1) := by decide +kernel
theorem dX17_take_64 : decode cX17_take 64 = .ok (.if_icmp .ne 10, 3) := by decide +kernel
theorem dX17_take_67 : decode cX17_take 67 = .ok (.aload_n 0, 1) := by decide +kernel
theorem dX17_take_68 : decode cX17_take 68 = .ok (.iload_n 2, 1) := by decide +kernel
theorem dX17_take_69 : decode cX17_take 69 = .ok (.bipush 6, 2) := by decide +kernel
theorem dX17_take_71 : decode cX17_take 71 = .ok (.invokevirtual 163, 3) := by decide +kernel
theorem dX17_take_74 : decode cX17_take 74 = .ok (.aload_n 0, 1) := by decide +kernel
theorem dX17_take_75 : decode cX17_take 75 = .ok (.getfield 52, 3) := by decide +kernel
theorem dX17_take_78 : decode cX17_take 78 = .ok (.iload_n 2, 1) := by decide +kernel
theorem dX17_take_79 : decode cX17_take 79 = .ok (.aload_n 0, 1) := by decide +kernel
theorem dX17_take_80 : decode cX17_take 80 = .ok (.getfield 83, 3) := by decide +kernel
theorem dX17_take_83 : decode cX17_take 83 = .ok (.iload_n 1, 1) := by decide +kernel
theorem dX17_take_84 : decode cX17_take 84 = .ok (.iaload, 1) := by decide +kernel
theorem dX17_take_85 : decode cX17_take 85 = .ok (.iastore, 1) := by decide +kernel
theorem dX17_take_86 : decode cX17_take 86 = .ok (.aload_n 0, 1) := by decide +kernel
theorem dX17_take_87 : decode cX17_take 87 = .ok (.getfield 58, 3) := by decide +kernel
theorem dX17_take_90 : decode cX17_take 90 = .ok (.iload_n 2, 1) := by decide +kernel
theorem dX17_take_91 : decode cX17_take 91 = .ok (.iconst 0, 1) := by decide +kernel
theorem dX17_take_92 : decode cX17_take 92 = .ok (.iastore, 1) := by decide +kernel
theorem dX17_take_93 : decode cX17_take 93 = .ok (.aload_n 0, 1) := by decide +kernel
theorem dX17_take_94 : decode cX17_take 94 = .ok (.getfield 64, 3) := by decide +kernel
theorem dX17_take_97 : decode cX17_take 97 = .ok (.iload_n 2, 1) := by decide +kernel
theorem dX17_take_98 : decode cX17_take 98 = .ok (.iconst 0, 1) := by decide +kernel
theorem dX17_take_99 : decode cX17_take 99 = .ok (.iastore, 1) := by decide +kernel
theorem dX17_take_100 : decode cX17_take 100 = .ok (.aload_n 0, 1) := by decide +kernel
theorem dX17_take_101 : decode cX17_take 101 = .ok (.getfield 55, 3) := by decide +kernel
theorem dX17_take_104 : decode cX17_take 104 = .ok (.iload_n 2, 1) := by decide +kernel
theorem dX17_take_105 : decode cX17_take 105 = .ok (.aload_n 0, 1) := by decide +kernel
theorem dX17_take_106 : decode cX17_take 106 = .ok (.getfield 80, 3) := by decide +kernel
theorem dX17_take_109 : decode cX17_take 109 = .ok (.iload_n 1, 1) := by decide +kernel
theorem dX17_take_110 : decode cX17_take 110 = .ok (.iaload, 1) := by decide +kernel
theorem dX17_take_111 : decode cX17_take 111 = .ok (.ifCond .ne 12, 3) := by decide +kernel
theorem dX17_take_114 : decode cX17_take 114 = .ok (.aload_n 0, 1) := by decide +kernel
theorem dX17_take_115 : decode cX17_take 115 = .ok (.getfield 89, 3) := by decide +kernel
theorem dX17_take_118 : decode cX17_take 118 = .ok (.iload_n 1, 1) := by decide +kernel
theorem dX17_take_119 : decode cX17_take 119 = .ok (.iaload, 1) := by decide +kernel
theorem dX17_take_120 : decode cX17_take 120 = .ok (.goto 9, 3) := by decide +kernel
theorem dX17_take_123 : decode cX17_take 123 = .ok (.aload_n 0, 1) := by decide +kernel
theorem dX17_take_124 : decode cX17_take 124 = .ok (.getfield 86, 3) := by decide +kernel
theorem dX17_take_127 : decode cX17_take 127 = .ok (.iload_n 1, 1) := by decide +kernel
theorem dX17_take_128 : decode cX17_take 128 = .ok (.iaload, 1) := by decide +kernel
theorem dX17_take_129 : decode cX17_take 129 = .ok (.iastore, 1) := by decide +kernel
theorem dX17_take_130 : decode cX17_take 130 = .ok (.aload_n 0, 1) := by decide +kernel
theorem dX17_take_131 : decode cX17_take 131 = .ok (.getfield 80, 3) := by decide +kernel
theorem dX17_take_134 : decode cX17_take 134 = .ok (.iload_n 1, 1) := by decide +kernel
theorem dX17_take_135 : decode cX17_take 135 = .ok (.iaload, 1) := by decide +kernel
theorem dX17_take_136 : decode cX17_take 136 = .ok (.ifCond .ne 17, 3) := by decide +kernel
theorem dX17_take_139 : decode cX17_take 139 = .ok (.aload_n 0, 1) := by decide +kernel
theorem dX17_take_140 : decode cX17_take 140 = .ok (.iload_n 2, 1) := by decide +kernel
theorem dX17_take_141 : decode cX17_take 141 = .ok (.iload_n 1, 1) := by decide +kernel
theorem dX17_take_142 : decode cX17_take 142 = .ok (.invokevirtual 169, 3) := by decide +kernel
theorem dX17_take_145 : decode cX17_take 145 = .ok (.aload_n 0, 1) := by decide +kernel
theorem dX17_take_146 : decode cX17_take 146 = .ok (.iload_n 2, 1) := by decide +kernel
theorem dX17_take_147 : decode cX17_take 147 = .ok (.invokevirtual 172, 3) := by decide +kernel
theorem dX17_take_150 : decode cX17_take 150 = .ok (.goto 72, 3) := by decide +kernel
theorem dX17_take_153 : decode cX17_take 153 = .ok (.aload_n 0, 1) := by decide +kernel
theorem dX17_take_154 : decode cX17_take 154 = .ok (.getfield 86, 3) := by decide +kernel
theorem dX17_take_157 : decode cX17_take 157 = .ok (.iload_n 1, 1) := by decide +kernel
theorem dX17_take_158 : decode cX17_take 158 = .ok (.iaload, 1) := by decide +kernel
theorem dX17_take_159 : decode cX17_take 159 = .ok (.aload_n 0, 1) := by decide +kernel
theorem dX17_take_160 : decode cX17_take 160 = .ok (.getfield 115, 3) := by decide +kernel
theorem dX17_take_163 : decode cX17_take 163 = .ok (.if_icmp .le 34, 3) := by decide +kernel
theorem dX17_take_166 : decode cX17_take 166 = .ok (.aload_n 0, 1) := by decide +kernel
theorem dX17_take_167 : decode cX17_take 167 = .ok (.iload_n 2, 1) := by decide +kernel
theorem dX17_take_168 : decode cX17_take 168 = .ok (.aload_n 0, 1) := by decide +kernel
theorem dX17_take_169 : decode cX17_take 169 = .ok (.iconst 3, 1) := by decide +kernel
theorem dX17_take_170 : decode cX17_take 170 = .ok (.aload_n 0, 1) := by decide +kernel
theorem dX17_take_171 : decode cX17_take 171 = .ok (.getfield 83, 3) := by decide +kernel
theorem dX17_take_174 : decode cX17_take 174 = .ok (.iload_n 1, 1) := by decide +kernel
theorem dX17_take_175 : decode cX17_take 175 = .ok (.iaload, 1) := by decide +kernel
theorem dX17_take_176 : decode cX17_take 176 = .ok (.iconst 2, 1) := by decide +kernel
theorem dX17_take_177 : decode cX17_take 177 = .ok (.iconst 0, 1) := by decide +kernel
theorem dX17_take_178 : decode cX17_take 178 = .ok (.iconst 0, 1) := by decide +kernel
theorem dX17_take_179 : decode cX17_take 179 = .ok (.invokevirtual 151, 3) := by decide +kernel
theorem dX17_take_182 : decode cX17_take 182 = .ok (.ifCond .le 7, 3) := by decide +kernel
theorem dX17_take_185 : decode cX17_take 185 = .ok (.iconst 4, 1) := by decide +kernel
theorem dX17_take_186 : decode cX17_take 186 = .ok (.goto 5, 3) := by decide +kernel
theorem dX17_take_189 : decode cX17_take 189 = .ok (.bipush 7, 2) := by decide +kernel
theorem dX17_take_191 : decode cX17_take 191 = .ok (.invokevirtual 163, 3) := by decide +kernel
theorem dX17_take_194 : decode cX17_take 194 = .ok (.goto 28, 3) := by decide +kernel
theorem dX17_take_197 : decode cX17_take 197 = .ok (.aload_n 0, 1) := by decide +kernel
theorem dX17_take_198 : decode cX17_take 198 = .ok (.getfield 49, 3) := by decide +kernel
theorem dX17_take_201 : decode cX17_take 201 = .ok (.iload_n 2, 1) := by decide +kernel
theorem dX17_take_202 : decode cX17_take 202 = .ok (.iconst 1, 1) := by decide +kernel
theorem dX17_take_203 : decode cX17_take 203 = .ok (.iastore, 1) := by decide +kernel
theorem dX17_take_204 : decode cX17_take 204 = .ok (.aload_n 0, 1) := by decide +kernel
theorem dX17_take_205 : decode cX17_take 205 = .ok (.getfield 61, 3) := by decide +kernel
theorem dX17_take_208 : decode cX17_take 208 = .ok (.iload_n 2, 1) := by decide +kernel
theorem dX17_take_209 : decode cX17_take 209 = .ok (.iconst 1, 1) := by decide +kernel
theorem dX17_take_210 : decode cX17_take 210 = .ok (.iastore, 1) := by decide +kernel
theorem dX17_take_211 : decode cX17_take 211 = .ok (.aload_n 0, 1) := by decide +kernel
theorem dX17_take_212 : decode cX17_take 212 = .ok (.iload_n 2, 1) := by decide +kernel
theorem dX17_take_213 : decode cX17_take 213 = .ok (.iload_n 1, 1) := by decide +kernel
theorem dX17_take_214 : decode cX17_take 214 = .ok (.invokevirtual 169, 3) := by decide +kernel
theorem dX17_take_217 : decode cX17_take 217 = .ok (.aload_n 0, 1) := by decide +kernel
theorem dX17_take_218 : decode cX17_take 218 = .ok (.iload_n 2, 1) := by decide +kernel
theorem dX17_take_219 : decode cX17_take 219 = .ok (.invokevirtual 176, 3) := by decide +kernel
theorem dX17_take_222 : decode cX17_take 222 = .ok (.aload_n 0, 1) := by decide +kernel
theorem dX17_take_223 : decode cX17_take 223 = .ok (.getfield 49, 3) := by decide +kernel
theorem dX17_take_226 : decode cX17_take 226 = .ok (.iload_n 2, 1) := by decide +kernel
theorem dX17_take_227 : decode cX17_take 227 = .ok (.iaload, 1) := by decide +kernel
theorem dX17_take_228 : decode cX17_take 228 = .ok (.ireturn, 1) := by decide +kernel
theorem cwX17_take : mw_cwV yX17_take cX17_take 3 ((some .int)) 1 := ⟨⟨wd_17, wd_3947, by decide +kernel⟩, wd_3946, sl_294⟩
set_option maxHeartbeats 4000000 in
set_option maxRecDepth 100000 in
theorem tX17_take (l : Launch) (G : mwG) (ad : Nat → Nat) (fu : Nat) (a1 : Int32) (M : mwM) (L : mwL) {r0 : Int32} {M0 : mwM} {L0 : mwL} (hD : DX17_take fu a1 M L = some (r0, M0, L0)) : Met l yX17_take (Cond.code yX17_take cX17_take 3 ((some .int)) :: GT) ({ frames := 3, cells := 0, slots := 0, locals := 68 }) (mw_Pre G ad NF TF FF M L [.ref (ad 869), .int a1]) (mw_Qi G ad NF TF FF (mw_eqI r0 M0 L0)) 0 0 (mw_fr G) := by
  refine mw_enter (by decide) (Nat.le_of_ble_eq_true rfl) ?_
  intro p e s m below meth c ls C hr hlocks hnm hw hl
  have hl : lv_has ls 3 [(0, .ref (ad 869)), (1, .int a1)] := hl
  have hb50 : ∀ (v2 : Int32) (M : mwM) (L : mwL) (H : Heap) (locs : List Loc) (ls : Array Slot), fX17_take_b50 fu a1 v2 M L = some (r0, M0, L0) → mw_W G ad NF TF FF M L H locs → lv_has ls 3 [(0, .ref (ad 869)), (2, .int v2)] → W p l e ({ frames := 3, cells := 0, slots := 0, locals := 68 }) s m [.ref (ad 869), .int a1].toArray below meth c H locs 0 0 (MQ below (mw_Qi G ad NF TF FF (mw_eqI r0 M0 L0)) [.ref (ad 869), .int a1].toArray s 0 0 (mw_fr G)) (F0 m 50 ls []) := by
    intro v2 M L H locs ls hD hw hl
    unfold fX17_take_b50 at hD
    refine lv_aload_n C.1.1 C.1.2.1 dX17_take_50 rfl (lv_at hl 0 rfl) ?_
    refine mr_getR C hw kc_17 16 (by decide) tf_869 ff_869_16 wd_2347 dX17_take_51 (by decide) rfl ?_
    refine lv_iload_n C.1.1 C.1.2.1 dX17_take_54 rfl (lv_at hl 1 rfl) ?_
    obtain ⟨q1, hD⟩ := g_ck hD
    refine mr_iald C hw (by decide) tf_882 q1 dX17_take_55 ?_
    exact mr_iret C hr hlocks hw rfl (Option.some.inj hD) dX17_take_56
  have hb222 : ∀ (v2 : Int32) (M : mwM) (L : mwL) (H : Heap) (locs : List Loc) (ls : Array Slot), fX17_take_b222 fu a1 v2 M L = some (r0, M0, L0) → mw_W G ad NF TF FF M L H locs → lv_has ls 3 [(0, .ref (ad 869)), (2, .int v2)] → W p l e ({ frames := 3, cells := 0, slots := 0, locals := 68 }) s m [.ref (ad 869), .int a1].toArray below meth c H locs 0 0 (MQ below (mw_Qi G ad NF TF FF (mw_eqI r0 M0 L0)) [.ref (ad 869), .int a1].toArray s 0 0 (mw_fr G)) (F0 m 222 ls []) := by
    intro v2 M L H locs ls hD hw hl
    unfold fX17_take_b222 at hD
    refine lv_aload_n C.1.1 C.1.2.1 dX17_take_222 rfl (lv_at hl 0 rfl) ?_
    refine mr_getR C hw kc_17 16 (by decide) tf_869 ff_869_16 wd_2347 dX17_take_223 (by decide) rfl ?_
    refine lv_iload_n C.1.1 C.1.2.1 dX17_take_226 rfl (lv_at hl 1 rfl) ?_
    obtain ⟨q38, hD⟩ := g_ck hD
    refine mr_iald C hw (by decide) tf_882 q38 dX17_take_227 ?_
    exact mr_iret C hr hlocks hw rfl (Option.some.inj hD) dX17_take_228
  have hb191 : ∀ (v2 : Int32) (s1 : Int32) (s2 : Int32) (M : mwM) (L : mwL) (H : Heap) (locs : List Loc) (ls : Array Slot), fX17_take_b191 fu a1 v2 s1 s2 M L = some (r0, M0, L0) → mw_W G ad NF TF FF M L H locs → lv_has ls 3 [(0, .ref (ad 869)), (2, .int v2)] → W p l e ({ frames := 3, cells := 0, slots := 0, locals := 68 }) s m [.ref (ad 869), .int a1].toArray below meth c H locs 0 0 (MQ below (mw_Qi G ad NF TF FF (mw_eqI r0 M0 L0)) [.ref (ad 869), .int a1].toArray s 0 0 (mw_fr G)) (F0 m 191 ls [.int s2, .int s1, .ref (ad 869)]) := by
    intro v2 s1 s2 M L H locs ls hD hw hl
    unfold fX17_take_b191 at hD
    obtain ⟨M36, L37, h1, hD⟩ := g_b2 hD
    refine md_cvV (As := [.int s1, .int s2]) (rest := []) C hw (tX17_endReceiver l G ad fu s1 s2 M L h1) kc_17 (by decide) tf_869 wd_3952 cwX17_endReceiver ⟨Nat.le_of_ble_eq_true rfl, Nat.le_of_ble_eq_true rfl⟩ rfl hl.1 (Nat.le_of_ble_eq_true rfl) dX17_take_191 rfl rfl ⟨Nat.zero_le _, Nat.zero_le _⟩ rfl (fun H locs hw => ?_)
    refine lv_goto (tgt := 222) C.1.1 C.1.2.1 dX17_take_194 (by decide) ?_
    exact hb222 v2 M36 L37 _ _ ls hD hw (lv_sub hl [0, 1] rfl)
  have hb129 : ∀ (v2 : Int32) (s1 : Int32) (s2 : Int32) (M : mwM) (L : mwL) (H : Heap) (locs : List Loc) (ls : Array Slot), fX17_take_b129 fu a1 v2 s1 s2 M L = some (r0, M0, L0) → mw_W G ad NF TF FF M L H locs → lv_has ls 3 [(0, .ref (ad 869)), (1, .int a1), (2, .int v2)] → W p l e ({ frames := 3, cells := 0, slots := 0, locals := 68 }) s m [.ref (ad 869), .int a1].toArray below meth c H locs 0 0 (MQ below (mw_Qi G ad NF TF FF (mw_eqI r0 M0 L0)) [.ref (ad 869), .int a1].toArray s 0 0 (mw_fr G)) (F0 m 129 ls [.int s2, .int s1, .ref (ad 884)]) := by
    intro v2 s1 s2 M L H locs ls hD hw hl
    unfold fX17_take_b129 at hD
    obtain ⟨q13, hD⟩ := g_ck hD
    obtain ⟨M14, eM14, hD⟩ := g_let hD
    refine mr_iast C hw (by decide) tf_884 q13 dX17_take_129 (fun H locs hw => ?_)
    replace hw : mw_W G ad NF TF FF M14 L H locs := by rw [eM14]; exact hw
    refine lv_aload_n C.1.1 C.1.2.1 dX17_take_130 rfl (lv_at hl 0 rfl) ?_
    refine mr_getR C hw kc_17 27 (by decide) tf_869 ff_869_27 wd_2358 dX17_take_131 (by decide) rfl ?_
    refine lv_iload_n C.1.1 C.1.2.1 dX17_take_134 rfl (lv_at hl 1 rfl) ?_
    obtain ⟨q15, hD⟩ := g_ck hD
    refine mr_iald C hw (by decide) tf_892 q15 dX17_take_135 ?_
    refine lv_if_ne (tgt := 153) C.1.1 C.1.2.1 dX17_take_136 (by decide) (fun c16 => ?_) (fun c16 => ?_)
    · replace hD := g_neg c16 hD
      refine lv_aload_n C.1.1 C.1.2.1 dX17_take_153 rfl (lv_at hl 0 rfl) ?_
      refine mr_getR C hw kc_17 29 (by decide) tf_869 ff_869_29 wd_2360 dX17_take_154 (by decide) rfl ?_
      refine lv_iload_n C.1.1 C.1.2.1 dX17_take_157 rfl (lv_at hl 1 rfl) ?_
      obtain ⟨q17, hD⟩ := g_ck hD
      refine mr_iald C hw (by decide) tf_894 q17 dX17_take_158 ?_
      refine lv_aload_n C.1.1 C.1.2.1 dX17_take_159 rfl (lv_at hl 0 rfl) ?_
      refine mr_getI C hw kc_17 1 (by decide) tf_869 wd_2332 dX17_take_160 (by decide) rfl ?_
      refine lv_icmp_le (tgt := 197) C.1.1 C.1.2.1 dX17_take_163 (by decide) (fun c18 => ?_) (fun c18 => ?_)
      · replace hD := g_pos c18 hD
        refine lv_aload_n C.1.1 C.1.2.1 dX17_take_197 rfl (lv_at hl 0 rfl) ?_
        refine mr_getR C hw kc_17 16 (by decide) tf_869 ff_869_16 wd_2347 dX17_take_198 (by decide) rfl ?_
        refine lv_iload_n C.1.1 C.1.2.1 dX17_take_201 rfl (lv_at hl 2 rfl) ?_
        refine lv_iconst (v := 1) C.1.1 C.1.2.1 dX17_take_202 (by decide) ?_
        obtain ⟨q19, hD⟩ := g_ck hD
        obtain ⟨M20, eM20, hD⟩ := g_let hD
        refine mr_iast C hw (by decide) tf_882 q19 dX17_take_203 (fun H locs hw => ?_)
        replace hw : mw_W G ad NF TF FF M20 L H locs := by rw [eM20]; exact hw
        refine lv_aload_n C.1.1 C.1.2.1 dX17_take_204 rfl (lv_at hl 0 rfl) ?_
        refine mr_getR C hw kc_17 20 (by decide) tf_869 ff_869_20 wd_2351 dX17_take_205 (by decide) rfl ?_
        refine lv_iload_n C.1.1 C.1.2.1 dX17_take_208 rfl (lv_at hl 2 rfl) ?_
        refine lv_iconst (v := 1) C.1.1 C.1.2.1 dX17_take_209 (by decide) ?_
        obtain ⟨q21, hD⟩ := g_ck hD
        obtain ⟨M22, eM22, hD⟩ := g_let hD
        refine mr_iast C hw (by decide) tf_886 q21 dX17_take_210 (fun H locs hw => ?_)
        replace hw : mw_W G ad NF TF FF M22 L H locs := by rw [eM22]; exact hw
        refine lv_aload_n C.1.1 C.1.2.1 dX17_take_211 rfl (lv_at hl 0 rfl) ?_
        refine lv_iload_n C.1.1 C.1.2.1 dX17_take_212 rfl (lv_at hl 2 rfl) ?_
        refine lv_iload_n C.1.1 C.1.2.1 dX17_take_213 rfl (lv_at hl 1 rfl) ?_
        obtain ⟨M23, L24, h1, hD⟩ := g_b2 hD
        refine md_cvV (As := [.int v2, .int a1]) (rest := []) C hw (tX17_put l G ad fu v2 a1 M22 L h1) kc_17 (by decide) tf_869 wd_3956 cwX17_put ⟨Nat.le_of_ble_eq_true rfl, Nat.le_of_ble_eq_true rfl⟩ rfl hl.1 (Nat.le_of_ble_eq_true rfl) dX17_take_214 rfl rfl ⟨Nat.zero_le _, Nat.zero_le _⟩ rfl (fun H locs hw => ?_)
        refine lv_aload_n C.1.1 C.1.2.1 dX17_take_217 rfl (lv_at hl 0 rfl) ?_
        refine lv_iload_n C.1.1 C.1.2.1 dX17_take_218 rfl (lv_at hl 2 rfl) ?_
        obtain ⟨M25, L26, h1, hD⟩ := g_b2 hD
        refine md_cvV (As := [.int v2]) (rest := []) C hw (tX17_answer l G ad fu v2 M23 L24 h1) kc_17 (by decide) tf_869 wd_3964 cwX17_answer ⟨Nat.le_of_ble_eq_true rfl, Nat.le_of_ble_eq_true rfl⟩ rfl hl.1 (Nat.le_of_ble_eq_true rfl) dX17_take_219 rfl rfl ⟨Nat.zero_le _, Nat.zero_le _⟩ rfl (fun H locs hw => ?_)
        exact hb222 v2 M25 L26 _ _ ls hD hw (lv_sub hl [0, 2] rfl)
      · replace hD := g_neg c18 hD
        refine lv_aload_n C.1.1 C.1.2.1 dX17_take_166 rfl (lv_at hl 0 rfl) ?_
        refine lv_iload_n C.1.1 C.1.2.1 dX17_take_167 rfl (lv_at hl 2 rfl) ?_
        refine lv_aload_n C.1.1 C.1.2.1 dX17_take_168 rfl (lv_at hl 0 rfl) ?_
        refine lv_iconst (v := 3) C.1.1 C.1.2.1 dX17_take_169 (by decide) ?_
        refine lv_aload_n C.1.1 C.1.2.1 dX17_take_170 rfl (lv_at hl 0 rfl) ?_
        refine mr_getR C hw kc_17 28 (by decide) tf_869 ff_869_28 wd_2359 dX17_take_171 (by decide) rfl ?_
        refine lv_iload_n C.1.1 C.1.2.1 dX17_take_174 rfl (lv_at hl 1 rfl) ?_
        obtain ⟨q27, hD⟩ := g_ck hD
        refine mr_iald C hw (by decide) tf_893 q27 dX17_take_175 ?_
        refine lv_iconst (v := 2) C.1.1 C.1.2.1 dX17_take_176 (by decide) ?_
        refine lv_iconst (v := 0) C.1.1 C.1.2.1 dX17_take_177 (by decide) ?_
        refine lv_iconst (v := 0) C.1.1 C.1.2.1 dX17_take_178 (by decide) ?_
        obtain ⟨r30, M28, L29, h1, hD⟩ := g_b3 hD
        refine md_cvI (As := [.int 3, .int (M14 893 a1.toNatClampNeg), .int 2, .int 0, .int 0]) (rest := [.int v2, .ref (ad 869)]) C hw (tX17_make l G ad fu 3 (M14 893 a1.toNatClampNeg) 2 0 0 M14 L h1) kc_17 (by decide) tf_869 wd_3968 cwX17_make ⟨Nat.le_of_ble_eq_true rfl, Nat.le_of_ble_eq_true rfl⟩ rfl hl.1 (Nat.le_of_ble_eq_true rfl) dX17_take_179 rfl rfl ⟨Nat.zero_le _, Nat.zero_le _⟩ rfl (fun H locs hw => ?_)
        refine lv_if_le (tgt := 189) C.1.1 C.1.2.1 dX17_take_182 (by decide) (fun c31 => ?_) (fun c31 => ?_)
        · replace hD := g_pos c31 hD
          refine lv_bipush (v := 7) C.1.1 C.1.2.1 dX17_take_189 (by decide) ?_
          exact hb191 v2 v2 7 M28 L29 _ _ ls hD hw (lv_sub hl [0, 2] rfl)
        · replace hD := g_neg c31 hD
          refine lv_iconst (v := 4) C.1.1 C.1.2.1 dX17_take_185 (by decide) ?_
          refine lv_goto (tgt := 191) C.1.1 C.1.2.1 dX17_take_186 (by decide) ?_
          exact hb191 v2 v2 4 M28 L29 _ _ ls hD hw (lv_sub hl [0, 2] rfl)
    · replace hD := g_pos c16 hD
      refine lv_aload_n C.1.1 C.1.2.1 dX17_take_139 rfl (lv_at hl 0 rfl) ?_
      refine lv_iload_n C.1.1 C.1.2.1 dX17_take_140 rfl (lv_at hl 2 rfl) ?_
      refine lv_iload_n C.1.1 C.1.2.1 dX17_take_141 rfl (lv_at hl 1 rfl) ?_
      obtain ⟨M32, L33, h1, hD⟩ := g_b2 hD
      refine md_cvV (As := [.int v2, .int a1]) (rest := []) C hw (tX17_put l G ad fu v2 a1 M14 L h1) kc_17 (by decide) tf_869 wd_3956 cwX17_put ⟨Nat.le_of_ble_eq_true rfl, Nat.le_of_ble_eq_true rfl⟩ rfl hl.1 (Nat.le_of_ble_eq_true rfl) dX17_take_142 rfl rfl ⟨Nat.zero_le _, Nat.zero_le _⟩ rfl (fun H locs hw => ?_)
      refine lv_aload_n C.1.1 C.1.2.1 dX17_take_145 rfl (lv_at hl 0 rfl) ?_
      refine lv_iload_n C.1.1 C.1.2.1 dX17_take_146 rfl (lv_at hl 2 rfl) ?_
      obtain ⟨M34, L35, h1, hD⟩ := g_b2 hD
      refine md_cvV (As := [.int v2]) (rest := []) C hw (tX17_whole l G ad fu v2 M32 L33 h1) kc_17 (by decide) tf_869 wd_3960 cwX17_whole ⟨Nat.le_of_ble_eq_true rfl, Nat.le_of_ble_eq_true rfl⟩ rfl hl.1 (Nat.le_of_ble_eq_true rfl) dX17_take_147 rfl rfl ⟨Nat.zero_le _, Nat.zero_le _⟩ rfl (fun H locs hw => ?_)
      refine lv_goto (tgt := 222) C.1.1 C.1.2.1 dX17_take_150 (by decide) ?_
      exact hb222 v2 M34 L35 _ _ ls hD hw (lv_sub hl [0, 2] rfl)
  have hb74 : ∀ (v2 : Int32) (M : mwM) (L : mwL) (H : Heap) (locs : List Loc) (ls : Array Slot), fX17_take_b74 fu a1 v2 M L = some (r0, M0, L0) → mw_W G ad NF TF FF M L H locs → lv_has ls 3 [(0, .ref (ad 869)), (1, .int a1), (2, .int v2)] → W p l e ({ frames := 3, cells := 0, slots := 0, locals := 68 }) s m [.ref (ad 869), .int a1].toArray below meth c H locs 0 0 (MQ below (mw_Qi G ad NF TF FF (mw_eqI r0 M0 L0)) [.ref (ad 869), .int a1].toArray s 0 0 (mw_fr G)) (F0 m 74 ls []) := by
    intro v2 M L H locs ls hD hw hl
    unfold fX17_take_b74 at hD
    refine lv_aload_n C.1.1 C.1.2.1 dX17_take_74 rfl (lv_at hl 0 rfl) ?_
    refine mr_getR C hw kc_17 17 (by decide) tf_869 ff_869_17 wd_2348 dX17_take_75 (by decide) rfl ?_
    refine lv_iload_n C.1.1 C.1.2.1 dX17_take_78 rfl (lv_at hl 2 rfl) ?_
    refine lv_aload_n C.1.1 C.1.2.1 dX17_take_79 rfl (lv_at hl 0 rfl) ?_
    refine mr_getR C hw kc_17 28 (by decide) tf_869 ff_869_28 wd_2359 dX17_take_80 (by decide) rfl ?_
    refine lv_iload_n C.1.1 C.1.2.1 dX17_take_83 rfl (lv_at hl 1 rfl) ?_
    obtain ⟨q2, hD⟩ := g_ck hD
    refine mr_iald C hw (by decide) tf_893 q2 dX17_take_84 ?_
    obtain ⟨q3, hD⟩ := g_ck hD
    obtain ⟨M4, eM4, hD⟩ := g_let hD
    refine mr_iast C hw (by decide) tf_883 q3 dX17_take_85 (fun H locs hw => ?_)
    replace hw : mw_W G ad NF TF FF M4 L H locs := by rw [eM4]; exact hw
    refine lv_aload_n C.1.1 C.1.2.1 dX17_take_86 rfl (lv_at hl 0 rfl) ?_
    refine mr_getR C hw kc_17 19 (by decide) tf_869 ff_869_19 wd_2350 dX17_take_87 (by decide) rfl ?_
    refine lv_iload_n C.1.1 C.1.2.1 dX17_take_90 rfl (lv_at hl 2 rfl) ?_
    refine lv_iconst (v := 0) C.1.1 C.1.2.1 dX17_take_91 (by decide) ?_
    obtain ⟨q5, hD⟩ := g_ck hD
    obtain ⟨M6, eM6, hD⟩ := g_let hD
    refine mr_iast C hw (by decide) tf_885 q5 dX17_take_92 (fun H locs hw => ?_)
    replace hw : mw_W G ad NF TF FF M6 L H locs := by rw [eM6]; exact hw
    refine lv_aload_n C.1.1 C.1.2.1 dX17_take_93 rfl (lv_at hl 0 rfl) ?_
    refine mr_getR C hw kc_17 21 (by decide) tf_869 ff_869_21 wd_2352 dX17_take_94 (by decide) rfl ?_
    refine lv_iload_n C.1.1 C.1.2.1 dX17_take_97 rfl (lv_at hl 2 rfl) ?_
    refine lv_iconst (v := 0) C.1.1 C.1.2.1 dX17_take_98 (by decide) ?_
    obtain ⟨q7, hD⟩ := g_ck hD
    obtain ⟨M8, eM8, hD⟩ := g_let hD
    refine mr_iast C hw (by decide) tf_887 q7 dX17_take_99 (fun H locs hw => ?_)
    replace hw : mw_W G ad NF TF FF M8 L H locs := by rw [eM8]; exact hw
    refine lv_aload_n C.1.1 C.1.2.1 dX17_take_100 rfl (lv_at hl 0 rfl) ?_
    refine mr_getR C hw kc_17 18 (by decide) tf_869 ff_869_18 wd_2349 dX17_take_101 (by decide) rfl ?_
    refine lv_iload_n C.1.1 C.1.2.1 dX17_take_104 rfl (lv_at hl 2 rfl) ?_
    refine lv_aload_n C.1.1 C.1.2.1 dX17_take_105 rfl (lv_at hl 0 rfl) ?_
    refine mr_getR C hw kc_17 27 (by decide) tf_869 ff_869_27 wd_2358 dX17_take_106 (by decide) rfl ?_
    refine lv_iload_n C.1.1 C.1.2.1 dX17_take_109 rfl (lv_at hl 1 rfl) ?_
    obtain ⟨q9, hD⟩ := g_ck hD
    refine mr_iald C hw (by decide) tf_892 q9 dX17_take_110 ?_
    refine lv_if_ne (tgt := 123) C.1.1 C.1.2.1 dX17_take_111 (by decide) (fun c10 => ?_) (fun c10 => ?_)
    · replace hD := g_neg c10 hD
      refine lv_aload_n C.1.1 C.1.2.1 dX17_take_123 rfl (lv_at hl 0 rfl) ?_
      refine mr_getR C hw kc_17 29 (by decide) tf_869 ff_869_29 wd_2360 dX17_take_124 (by decide) rfl ?_
      refine lv_iload_n C.1.1 C.1.2.1 dX17_take_127 rfl (lv_at hl 1 rfl) ?_
      obtain ⟨q11, hD⟩ := g_ck hD
      refine mr_iald C hw (by decide) tf_894 q11 dX17_take_128 ?_
      exact hb129 v2 v2 (M8 894 a1.toNatClampNeg) M8 L _ _ ls hD hw (lv_sub hl [0, 1, 2] rfl)
    · replace hD := g_pos c10 hD
      refine lv_aload_n C.1.1 C.1.2.1 dX17_take_114 rfl (lv_at hl 0 rfl) ?_
      refine mr_getR C hw kc_17 30 (by decide) tf_869 ff_869_30 wd_2361 dX17_take_115 (by decide) rfl ?_
      refine lv_iload_n C.1.1 C.1.2.1 dX17_take_118 rfl (lv_at hl 1 rfl) ?_
      obtain ⟨q12, hD⟩ := g_ck hD
      refine mr_iald C hw (by decide) tf_895 q12 dX17_take_119 ?_
      refine lv_goto (tgt := 129) C.1.1 C.1.2.1 dX17_take_120 (by decide) ?_
      exact hb129 v2 v2 (M8 895 a1.toNatClampNeg) M8 L _ _ ls hD hw (lv_sub hl [0, 1, 2] rfl)
  unfold DX17_take at hD
  refine lv_aload_n C.1.1 C.1.2.1 dX17_take_0 rfl (lv_at hl 0 rfl) ?_
  refine mr_getR C hw kc_17 28 (by decide) tf_869 ff_869_28 wd_2359 dX17_take_1 (by decide) rfl ?_
  refine lv_iload_n C.1.1 C.1.2.1 dX17_take_4 rfl (lv_at hl 1 rfl) ?_
  obtain ⟨q39, hD⟩ := g_ck hD
  refine mr_iald C hw (by decide) tf_893 q39 dX17_take_5 ?_
  refine lv_iconst (v := 4) C.1.1 C.1.2.1 dX17_take_6 (by decide) ?_
  refine lv_irem C.1.1 C.1.2.1 dX17_take_7 (by decide) ?_
  obtain ⟨x41, ex41, hD⟩ := g_let hD
  refine W.eq (g2 := F0 m 8 ls (.int x41 :: [])) (by rw [ex41]) ?_
  refine lv_istore_n (lv' := [(2, .int x41), (0, .ref (ad 869)), (1, .int a1)]) C.1.1 C.1.2.1 dX17_take_8 rfl hl (by decide) rfl (fun ls hl => ?_)
  refine lv_aload_n C.1.1 C.1.2.1 dX17_take_9 rfl (lv_at hl 1 rfl) ?_
  refine mr_getR C hw kc_17 27 (by decide) tf_869 ff_869_27 wd_2358 dX17_take_10 (by decide) rfl ?_
  refine lv_iload_n C.1.1 C.1.2.1 dX17_take_13 rfl (lv_at hl 2 rfl) ?_
  obtain ⟨q42, hD⟩ := g_ck hD
  refine mr_iald C hw (by decide) tf_892 q42 dX17_take_14 ?_
  refine lv_iconst (v := 2) C.1.1 C.1.2.1 dX17_take_15 (by decide) ?_
  refine lv_icmp_ne (tgt := 57) C.1.1 C.1.2.1 dX17_take_16 (by decide) (fun c43 => ?_) (fun c43 => ?_)
  · replace hD := g_neg c43 hD
    refine lv_aload_n C.1.1 C.1.2.1 dX17_take_57 rfl (lv_at hl 1 rfl) ?_
    refine mr_getR C hw kc_17 16 (by decide) tf_869 ff_869_16 wd_2347 dX17_take_58 (by decide) rfl ?_
    refine lv_iload_n C.1.1 C.1.2.1 dX17_take_61 rfl (lv_at hl 0 rfl) ?_
    obtain ⟨q44, hD⟩ := g_ck hD
    refine mr_iald C hw (by decide) tf_882 q44 dX17_take_62 ?_
    refine lv_iconst (v := 1) C.1.1 C.1.2.1 dX17_take_63 (by decide) ?_
    refine lv_icmp_ne (tgt := 74) C.1.1 C.1.2.1 dX17_take_64 (by decide) (fun c45 => ?_) (fun c45 => ?_)
    · replace hD := g_neg c45 hD
      exact hb74 x41 M L _ _ ls hD hw (lv_sub hl [1, 2, 0] rfl)
    · replace hD := g_pos c45 hD
      refine lv_aload_n C.1.1 C.1.2.1 dX17_take_67 rfl (lv_at hl 1 rfl) ?_
      refine lv_iload_n C.1.1 C.1.2.1 dX17_take_68 rfl (lv_at hl 0 rfl) ?_
      refine lv_bipush (v := 6) C.1.1 C.1.2.1 dX17_take_69 (by decide) ?_
      obtain ⟨M46, L47, h1, hD⟩ := g_b2 hD
      refine md_cvV (As := [.int x41, .int 6]) (rest := []) C hw (tX17_endReceiver l G ad fu x41 6 M L h1) kc_17 (by decide) tf_869 wd_3952 cwX17_endReceiver ⟨Nat.le_of_ble_eq_true rfl, Nat.le_of_ble_eq_true rfl⟩ rfl hl.1 (Nat.le_of_ble_eq_true rfl) dX17_take_71 rfl rfl ⟨Nat.zero_le _, Nat.zero_le _⟩ rfl (fun H locs hw => ?_)
      exact hb74 x41 M46 L47 _ _ ls hD hw (lv_sub hl [1, 2, 0] rfl)
  · replace hD := g_pos c43 hD
    refine lv_aload_n C.1.1 C.1.2.1 dX17_take_19 rfl (lv_at hl 1 rfl) ?_
    refine mr_getR C hw kc_17 16 (by decide) tf_869 ff_869_16 wd_2347 dX17_take_20 (by decide) rfl ?_
    refine lv_iload_n C.1.1 C.1.2.1 dX17_take_23 rfl (lv_at hl 0 rfl) ?_
    obtain ⟨q48, hD⟩ := g_ck hD
    refine mr_iald C hw (by decide) tf_882 q48 dX17_take_24 ?_
    refine lv_iconst (v := 1) C.1.1 C.1.2.1 dX17_take_25 (by decide) ?_
    refine lv_icmp_ne (tgt := 50) C.1.1 C.1.2.1 dX17_take_26 (by decide) (fun c49 => ?_) (fun c49 => ?_)
    · replace hD := g_neg c49 hD
      exact hb50 x41 M L _ _ ls hD hw (lv_sub hl [1, 0] rfl)
    · replace hD := g_pos c49 hD
      refine lv_aload_n C.1.1 C.1.2.1 dX17_take_29 rfl (lv_at hl 1 rfl) ?_
      refine mr_getR C hw kc_17 17 (by decide) tf_869 ff_869_17 wd_2348 dX17_take_30 (by decide) rfl ?_
      refine lv_iload_n C.1.1 C.1.2.1 dX17_take_33 rfl (lv_at hl 0 rfl) ?_
      obtain ⟨q50, hD⟩ := g_ck hD
      refine mr_iald C hw (by decide) tf_883 q50 dX17_take_34 ?_
      refine lv_aload_n C.1.1 C.1.2.1 dX17_take_35 rfl (lv_at hl 1 rfl) ?_
      refine mr_getR C hw kc_17 28 (by decide) tf_869 ff_869_28 wd_2359 dX17_take_36 (by decide) rfl ?_
      refine lv_iload_n C.1.1 C.1.2.1 dX17_take_39 rfl (lv_at hl 2 rfl) ?_
      obtain ⟨q51, hD⟩ := g_ck hD
      refine mr_iald C hw (by decide) tf_893 q51 dX17_take_40 ?_
      refine lv_icmp_ne (tgt := 50) C.1.1 C.1.2.1 dX17_take_41 (by decide) (fun c52 => ?_) (fun c52 => ?_)
      · replace hD := g_neg c52 hD
        exact hb50 x41 M L _ _ ls hD hw (lv_sub hl [1, 0] rfl)
      · replace hD := g_pos c52 hD
        refine lv_aload_n C.1.1 C.1.2.1 dX17_take_44 rfl (lv_at hl 1 rfl) ?_
        refine lv_iload_n C.1.1 C.1.2.1 dX17_take_45 rfl (lv_at hl 0 rfl) ?_
        refine lv_iload_n C.1.1 C.1.2.1 dX17_take_46 rfl (lv_at hl 2 rfl) ?_
        obtain ⟨M53, L54, h1, hD⟩ := g_b2 hD
        refine md_cvV (As := [.int x41, .int a1]) (rest := []) C hw (tX17_takeNext l G ad fu x41 a1 M L h1) kc_17 (by decide) tf_869 wd_3948 cwX17_takeNext ⟨Nat.le_of_ble_eq_true rfl, Nat.le_of_ble_eq_true rfl⟩ rfl hl.1 (Nat.le_of_ble_eq_true rfl) dX17_take_47 rfl rfl ⟨Nat.zero_le _, Nat.zero_le _⟩ rfl (fun H locs hw => ?_)
        exact hb50 x41 M53 L54 _ _ ls hD hw (lv_sub hl [1, 0] rfl)

theorem dX17_senderDue_0 : decode cX17_senderDue 0 = .ok (.aload_n 0, 1) := by decide +kernel
theorem dX17_senderDue_1 : decode cX17_senderDue 1 = .ok (.getfield 21, 3) := by decide +kernel
theorem dX17_senderDue_4 : decode cX17_senderDue 4 = .ok (.iload_n 1, 1) := by decide +kernel
theorem dX17_senderDue_5 : decode cX17_senderDue 5 = .ok (.iaload, 1) := by decide +kernel
theorem dX17_senderDue_6 : decode cX17_senderDue 6 = .ok (.iconst 2, 1) := by decide +kernel
theorem dX17_senderDue_7 : decode cX17_senderDue 7 = .ok (.if_icmp .ne 17, 3) := by decide +kernel
theorem dX17_senderDue_10 : decode cX17_senderDue 10 = .ok (.aload_n 0, 1) := by decide +kernel
theorem dX17_senderDue_11 : decode cX17_senderDue 11 = .ok (.getfield 46, 3) := by decide +kernel
theorem dX17_senderDue_14 : decode cX17_senderDue 14 = .ok (.iload_n 1, 1) := by decide +kernel
theorem dX17_senderDue_15 : decode cX17_senderDue 15 = .ok (.laload, 1) := by decide +kernel
theorem dX17_senderDue_16 : decode cX17_senderDue 16 = .ok (.aload_n 0, 1) := by decide +kernel
theorem dX17_senderDue_17 : decode cX17_senderDue 17 = .ok (.getfield 118, 3) := by decide +kernel
theorem dX17_senderDue_20 : decode cX17_senderDue 20 = .ok (.lcmp, 1) := by decide +kernel
theorem dX17_senderDue_21 : decode cX17_senderDue 21 = .ok (.ifCond .eq 31, 3) := by decide +kernel
theorem dX17_senderDue_24 : decode cX17_senderDue 24 = .ok (.aload_n 0, 1) := by decide +kernel
theorem dX17_senderDue_25 : decode cX17_senderDue 25 = .ok (.getfield 21, 3) := by decide +kernel
theorem dX17_senderDue_28 : decode cX17_senderDue 28 = .ok (.iload_n 1, 1) := by decide +kernel
theorem dX17_senderDue_29 : decode cX17_senderDue 29 = .ok (.iaload, 1) := by decide +kernel
theorem dX17_senderDue_30 : decode cX17_senderDue 30 = .ok (.iconst 1, 1) := by decide +kernel
theorem dX17_senderDue_31 : decode cX17_senderDue 31 = .ok (.if_icmp .ne 25, 3) := by decide +kernel
theorem dX17_senderDue_34 : decode cX17_senderDue 34 = .ok (.aload_n 0, 1) := by decide +kernel
theorem dX17_senderDue_35 : decode cX17_senderDue 35 = .ok (.getfield 118, 3) := by decide +kernel
theorem dX17_senderDue_38 : decode cX17_senderDue 38 = .ok (.aload_n 0, 1) := by decide +kernel
theorem dX17_senderDue_39 : decode cX17_senderDue 39 = .ok (.getfield 42, 3) := by decide +kernel
theorem dX17_senderDue_42 : decode cX17_senderDue 42 = .ok (.iload_n 1, 1) := by decide +kernel
theorem dX17_senderDue_43 : decode cX17_senderDue 43 = .ok (.laload, 1) := by decide +kernel
theorem dX17_senderDue_44 : decode cX17_senderDue 44 = .ok (.lsub, 1) := by decide +kernel
theorem dX17_senderDue_45 : decode cX17_senderDue 45 = .ok (.ldc2_w 179, 3) := by decide +kernel
theorem dX17_senderDue_48 : decode cX17_senderDue 48 = .ok (.lcmp, 1) := by decide +kernel
theorem dX17_senderDue_49 : decode cX17_senderDue 49 = .ok (.ifCond .ne 7, 3) := by decide +kernel
theorem dX17_senderDue_52 : decode cX17_senderDue 52 = .ok (.iconst 1, 1) := by decide +kernel
theorem dX17_senderDue_53 : decode cX17_senderDue 53 = .ok (.goto 4, 3) := by decide +kernel
theorem dX17_senderDue_56 : decode cX17_senderDue 56 = .ok (.iconst 0, 1) := by decide +kernel
theorem dX17_senderDue_57 : decode cX17_senderDue 57 = .ok (.ireturn, 1) := by decide +kernel
theorem cwX17_senderDue : mw_cwV yX17_senderDue cX17_senderDue 2 ((some .boolean)) 1 := ⟨⟨wd_17, wd_4175, by decide +kernel⟩, wd_4174, sl_338⟩
set_option maxHeartbeats 4000000 in
set_option maxRecDepth 100000 in
theorem tX17_senderDue (l : Launch) (G : mwG) (ad : Nat → Nat) (fu : Nat) (a1 : Int32) (M : mwM) (L : mwL) {r0 : Int32} {M0 : mwM} {L0 : mwL} (hD : DX17_senderDue fu a1 M L = some (r0, M0, L0)) : Met l yX17_senderDue (Cond.code yX17_senderDue cX17_senderDue 2 ((some .boolean)) :: GT) ({ frames := 0, cells := 0, slots := 0, locals := 0 }) (mw_Pre G ad NF TF FF M L [.ref (ad 869), .int a1]) (mw_Qi G ad NF TF FF (mw_eqI r0 M0 L0)) 0 0 (mw_fr G) := by
  refine mw_enter (by decide) (Nat.le_of_ble_eq_true rfl) ?_
  intro p e s m below meth c ls C hr hlocks hnm hw hl
  have hl : lv_has ls 2 [(0, .ref (ad 869)), (1, .int a1)] := hl
  have hb57 : ∀ (s0 : Int32) (M : mwM) (L : mwL) (H : Heap) (locs : List Loc) (ls : Array Slot), fX17_senderDue_b57 fu a1 s0 M L = some (r0, M0, L0) → mw_W G ad NF TF FF M L H locs → lv_has ls 2 [] → W p l e ({ frames := 0, cells := 0, slots := 0, locals := 0 }) s m [.ref (ad 869), .int a1].toArray below meth c H locs 0 0 (MQ below (mw_Qi G ad NF TF FF (mw_eqI r0 M0 L0)) [.ref (ad 869), .int a1].toArray s 0 0 (mw_fr G)) (F0 m 57 ls [.int s0]) := by
    intro s0 M L H locs ls hD hw hl
    unfold fX17_senderDue_b57 at hD
    obtain ⟨z5, hD⟩ := g_zz hD
    exact mr_iret C hr hlocks hw (nz_zz z5) (Option.some.inj hD) dX17_senderDue_57
  have hb52 : ∀ (M : mwM) (L : mwL) (H : Heap) (locs : List Loc) (ls : Array Slot), fX17_senderDue_b52 fu a1 M L = some (r0, M0, L0) → mw_W G ad NF TF FF M L H locs → lv_has ls 2 [] → W p l e ({ frames := 0, cells := 0, slots := 0, locals := 0 }) s m [.ref (ad 869), .int a1].toArray below meth c H locs 0 0 (MQ below (mw_Qi G ad NF TF FF (mw_eqI r0 M0 L0)) [.ref (ad 869), .int a1].toArray s 0 0 (mw_fr G)) (F0 m 52 ls []) := by
    intro M L H locs ls hD hw hl
    unfold fX17_senderDue_b52 at hD
    refine lv_iconst (v := 1) C.1.1 C.1.2.1 dX17_senderDue_52 (by decide) ?_
    refine lv_goto (tgt := 57) C.1.1 C.1.2.1 dX17_senderDue_53 (by decide) ?_
    exact hb57 1 M L _ _ ls hD hw (lv_sub hl [] rfl)
  have hb56 : ∀ (M : mwM) (L : mwL) (H : Heap) (locs : List Loc) (ls : Array Slot), fX17_senderDue_b56 fu a1 M L = some (r0, M0, L0) → mw_W G ad NF TF FF M L H locs → lv_has ls 2 [] → W p l e ({ frames := 0, cells := 0, slots := 0, locals := 0 }) s m [.ref (ad 869), .int a1].toArray below meth c H locs 0 0 (MQ below (mw_Qi G ad NF TF FF (mw_eqI r0 M0 L0)) [.ref (ad 869), .int a1].toArray s 0 0 (mw_fr G)) (F0 m 56 ls []) := by
    intro M L H locs ls hD hw hl
    unfold fX17_senderDue_b56 at hD
    refine lv_iconst (v := 0) C.1.1 C.1.2.1 dX17_senderDue_56 (by decide) ?_
    exact hb57 0 M L _ _ ls hD hw (lv_sub hl [] rfl)
  have hb24 : ∀ (M : mwM) (L : mwL) (H : Heap) (locs : List Loc) (ls : Array Slot), fX17_senderDue_b24 fu a1 M L = some (r0, M0, L0) → mw_W G ad NF TF FF M L H locs → lv_has ls 2 [(0, .ref (ad 869)), (1, .int a1)] → W p l e ({ frames := 0, cells := 0, slots := 0, locals := 0 }) s m [.ref (ad 869), .int a1].toArray below meth c H locs 0 0 (MQ below (mw_Qi G ad NF TF FF (mw_eqI r0 M0 L0)) [.ref (ad 869), .int a1].toArray s 0 0 (mw_fr G)) (F0 m 24 ls []) := by
    intro M L H locs ls hD hw hl
    unfold fX17_senderDue_b24 at hD
    refine lv_aload_n C.1.1 C.1.2.1 dX17_senderDue_24 rfl (lv_at hl 0 rfl) ?_
    refine mr_getR C hw kc_17 7 (by decide) tf_869 ff_869_7 wd_2338 dX17_senderDue_25 (by decide) rfl ?_
    refine lv_iload_n C.1.1 C.1.2.1 dX17_senderDue_28 rfl (lv_at hl 1 rfl) ?_
    obtain ⟨q1, hD⟩ := g_ck hD
    refine mr_iald C hw (by decide) tf_873 q1 dX17_senderDue_29 ?_
    refine lv_iconst (v := 1) C.1.1 C.1.2.1 dX17_senderDue_30 (by decide) ?_
    refine lv_icmp_ne (tgt := 56) C.1.1 C.1.2.1 dX17_senderDue_31 (by decide) (fun c2 => ?_) (fun c2 => ?_)
    · replace hD := g_neg c2 hD
      exact hb56 M L _ _ ls hD hw (lv_sub hl [] rfl)
    · replace hD := g_pos c2 hD
      refine lv_aload_n C.1.1 C.1.2.1 dX17_senderDue_34 rfl (lv_at hl 0 rfl) ?_
      refine mr_getL C hw kc_17 2 (by decide) tf_869 wd_2333 dX17_senderDue_35 (by decide) rfl ?_
      refine lv_aload_n C.1.1 C.1.2.1 dX17_senderDue_38 rfl (lv_at hl 0 rfl) ?_
      refine mr_getR C hw kc_17 14 (by decide) tf_869 ff_869_14 wd_2345 dX17_senderDue_39 (by decide) rfl ?_
      refine lv_iload_n C.1.1 C.1.2.1 dX17_senderDue_42 rfl (lv_at hl 1 rfl) ?_
      obtain ⟨q3, hD⟩ := g_ck hD
      refine mr_lald C hw (by decide) tf_880 q3 dX17_senderDue_43 ?_
      refine lv_lsub C.1.1 C.1.2.1 dX17_senderDue_44 ?_
      refine lv_ldc2 (v := 1000) C.1.1 C.1.2.1 C.1.2.2.2.1 (C.1.2.2.2.2 _ wd_4176) dX17_senderDue_45 ?_
      refine W.lcmp C.1.1 C.1.2.1 dX17_senderDue_48 ?_
      refine lv_if_ne (tgt := 56) C.1.1 C.1.2.1 dX17_senderDue_49 (by decide) (fun c4 => ?_) (fun c4 => ?_)
      · replace hD := g_neg c4 hD
        exact hb56 M L _ _ ls hD hw (lv_sub hl [] rfl)
      · replace hD := g_pos c4 hD
        exact hb52 M L _ _ ls hD hw (lv_sub hl [] rfl)
  unfold DX17_senderDue at hD
  refine lv_aload_n C.1.1 C.1.2.1 dX17_senderDue_0 rfl (lv_at hl 0 rfl) ?_
  refine mr_getR C hw kc_17 7 (by decide) tf_869 ff_869_7 wd_2338 dX17_senderDue_1 (by decide) rfl ?_
  refine lv_iload_n C.1.1 C.1.2.1 dX17_senderDue_4 rfl (lv_at hl 1 rfl) ?_
  obtain ⟨q6, hD⟩ := g_ck hD
  refine mr_iald C hw (by decide) tf_873 q6 dX17_senderDue_5 ?_
  refine lv_iconst (v := 2) C.1.1 C.1.2.1 dX17_senderDue_6 (by decide) ?_
  refine lv_icmp_ne (tgt := 24) C.1.1 C.1.2.1 dX17_senderDue_7 (by decide) (fun c7 => ?_) (fun c7 => ?_)
  · replace hD := g_neg c7 hD
    exact hb24 M L _ _ ls hD hw (lv_sub hl [0, 1] rfl)
  · replace hD := g_pos c7 hD
    refine lv_aload_n C.1.1 C.1.2.1 dX17_senderDue_10 rfl (lv_at hl 0 rfl) ?_
    refine mr_getR C hw kc_17 15 (by decide) tf_869 ff_869_15 wd_2346 dX17_senderDue_11 (by decide) rfl ?_
    refine lv_iload_n C.1.1 C.1.2.1 dX17_senderDue_14 rfl (lv_at hl 1 rfl) ?_
    obtain ⟨q8, hD⟩ := g_ck hD
    refine mr_lald C hw (by decide) tf_881 q8 dX17_senderDue_15 ?_
    refine lv_aload_n C.1.1 C.1.2.1 dX17_senderDue_16 rfl (lv_at hl 0 rfl) ?_
    refine mr_getL C hw kc_17 2 (by decide) tf_869 wd_2333 dX17_senderDue_17 (by decide) rfl ?_
    refine W.lcmp C.1.1 C.1.2.1 dX17_senderDue_20 ?_
    refine lv_if_eq (tgt := 52) C.1.1 C.1.2.1 dX17_senderDue_21 (by decide) (fun c9 => ?_) (fun c9 => ?_)
    · replace hD := g_pos c9 hD
      exact hb52 M L _ _ ls hD hw (lv_sub hl [] rfl)
    · replace hD := g_neg c9 hD
      exact hb24 M L _ _ ls hD hw (lv_sub hl [0, 1] rfl)

theorem dX17_moment_0 : decode cX17_moment 0 = .ok (.iconst 1, 1) := by decide +kernel
theorem dX17_moment_1 : decode cX17_moment 1 = .ok (.istore_n 1, 1) := by decide +kernel
theorem dX17_moment_2 : decode cX17_moment 2 = .ok (.iload_n 1, 1) := by decide +kernel
theorem dX17_moment_3 : decode cX17_moment 3 = .ok (.aload_n 0, 1) := by decide +kernel
theorem dX17_moment_4 : decode cX17_moment 4 = .ok (.getfield 122, 3) := by decide +kernel
theorem dX17_moment_7 : decode cX17_moment 7 = .ok (.if_icmp .gt 44, 3) := by decide +kernel
theorem dX17_moment_10 : decode cX17_moment 10 = .ok (.aload_n 0, 1) := by decide +kernel
theorem dX17_moment_11 : decode cX17_moment 11 = .ok (.iload_n 1, 1) := by decide +kernel
theorem dX17_moment_12 : decode cX17_moment 12 = .ok (.invokevirtual 181, 3) := by decide +kernel
theorem dX17_moment_15 : decode cX17_moment 15 = .ok (.ifCond .eq 30, 3) := by decide +kernel
theorem dX17_moment_18 : decode cX17_moment 18 = .ok (.aload_n 0, 1) := by decide +kernel
theorem dX17_moment_19 : decode cX17_moment 19 = .ok (.getfield 21, 3) := by decide +kernel
theorem dX17_moment_22 : decode cX17_moment 22 = .ok (.iload_n 1, 1) := by decide +kernel
theorem dX17_moment_23 : decode cX17_moment 23 = .ok (.iaload, 1) := by decide +kernel
theorem dX17_moment_24 : decode cX17_moment 24 = .ok (.iconst 1, 1) := by decide +kernel
theorem dX17_moment_25 : decode cX17_moment 25 = .ok (.if_icmp .ne 12, 3) := by decide +kernel
theorem dX17_moment_28 : decode cX17_moment 28 = .ok (.aload_n 0, 1) := by decide +kernel
theorem dX17_moment_29 : decode cX17_moment 29 = .ok (.iload_n 1, 1) := by decide +kernel
theorem dX17_moment_30 : decode cX17_moment 30 = .ok (.iconst 1, 1) := by decide +kernel
theorem dX17_moment_31 : decode cX17_moment 31 = .ok (.invokevirtual 159, 3) := by decide +kernel
theorem dX17_moment_34 : decode cX17_moment 34 = .ok (.goto (-24), 3) := by decide +kernel
theorem dX17_moment_37 : decode cX17_moment 37 = .ok (.aload_n 0, 1) := by decide +kernel
theorem dX17_moment_38 : decode cX17_moment 38 = .ok (.iload_n 1, 1) := by decide +kernel
theorem dX17_moment_39 : decode cX17_moment 39 = .ok (.invokevirtual 185, 3) := by decide +kernel
theorem dX17_moment_42 : decode cX17_moment 42 = .ok (.goto (-32), 3) := by decide +kernel
theorem dX17_moment_45 : decode cX17_moment 45 = .ok (.iinc 1 1, 3) := by decide +kernel
theorem dX17_moment_48 : decode cX17_moment 48 = .ok (.goto (-46), 3) := by decide +kernel
theorem dX17_moment_51 : decode cX17_moment 51 = .ok (.iconst 1, 1) := by decide +kernel
theorem dX17_moment_52 : decode cX17_moment 52 = .ok (.istore_n 1, 1) := by decide +kernel
theorem dX17_moment_53 : decode cX17_moment 53 = .ok (.iload_n 1, 1) := by decide +kernel
theorem dX17_moment_54 : decode cX17_moment 54 = .ok (.iconst 5, 1) := by decide +kernel
theorem dX17_moment_55 : decode cX17_moment 55 = .ok (.if_icmp .ge 89, 3) := by decide +kernel
theorem dX17_moment_58 : decode cX17_moment 58 = .ok (.iload_n 1, 1) := by decide +kernel
theorem dX17_moment_59 : decode cX17_moment 59 = .ok (.iconst 4, 1) := by decide +kernel
theorem dX17_moment_60 : decode cX17_moment 60 = .ok (.irem, 1) := by decide +kernel
theorem dX17_moment_61 : decode cX17_moment 61 = .ok (.istore_n 2, 1) := by decide +kernel
theorem dX17_moment_62 : decode cX17_moment 62 = .ok (.aload_n 0, 1) := by decide +kernel
theorem dX17_moment_63 : decode cX17_moment 63 = .ok (.getfield 49, 3) := by decide +kernel
theorem dX17_moment_66 : decode cX17_moment 66 = .ok (.iload_n 2, 1) := by decide +kernel
theorem dX17_moment_67 : decode cX17_moment 67 = .ok (.iaload, 1) := by decide +kernel
theorem dX17_moment_68 : decode cX17_moment 68 = .ok (.iconst 1, 1) := by decide +kernel
theorem dX17_moment_69 : decode cX17_moment 69 = .ok (.if_icmp .ne 35, 3) := by decide +kernel
theorem dX17_moment_72 : decode cX17_moment 72 = .ok (.aload_n 0, 1) := by decide +kernel
theorem dX17_moment_73 : decode cX17_moment 73 = .ok (.getfield 73, 3) := by decide +kernel
theorem dX17_moment_76 : decode cX17_moment 76 = .ok (.iload_n 2, 1) := by decide +kernel
theorem dX17_moment_77 : decode cX17_moment 77 = .ok (.baload, 1) := by decide +kernel
theorem dX17_moment_78 : decode cX17_moment 78 = .ok (.ifCond .eq 26, 3) := by decide +kernel
theorem dX17_moment_81 : decode cX17_moment 81 = .ok (.aload_n 0, 1) := by decide +kernel
theorem dX17_moment_82 : decode cX17_moment 82 = .ok (.getfield 118, 3) := by decide +kernel
theorem dX17_moment_85 : decode cX17_moment 85 = .ok (.aload_n 0, 1) := by decide +kernel
theorem dX17_moment_86 : decode cX17_moment 86 = .ok (.getfield 70, 3) := by decide +kernel
theorem dX17_moment_89 : decode cX17_moment 89 = .ok (.iload_n 2, 1) := by decide +kernel
theorem dX17_moment_90 : decode cX17_moment 90 = .ok (.laload, 1) := by decide +kernel
theorem dX17_moment_91 : decode cX17_moment 91 = .ok (.lsub, 1) := by decide +kernel
theorem dX17_moment_92 : decode cX17_moment 92 = .ok (.ldc2_w 188, 3) := by decide +kernel
theorem dX17_moment_95 : decode cX17_moment 95 = .ok (.lcmp, 1) := by decide +kernel
theorem dX17_moment_96 : decode cX17_moment 96 = .ok (.ifCond .ne 8, 3) := by decide +kernel
theorem dX17_moment_99 : decode cX17_moment 99 = .ok (.aload_n 0, 1) := by decide +kernel
theorem dX17_moment_100 : decode cX17_moment 100 = .ok (.iload_n 2, 1) := by decide +kernel
theorem dX17_moment_101 : decode cX17_moment 101 = .ok (.invokevirtual 176, 3) := by decide +kernel
theorem dX17_moment_104 : decode cX17_moment 104 = .ok (.aload_n 0, 1) := by decide +kernel
theorem dX17_moment_105 : decode cX17_moment 105 = .ok (.getfield 49, 3) := by decide +kernel
theorem dX17_moment_108 : decode cX17_moment 108 = .ok (.iload_n 2, 1) := by decide +kernel
theorem dX17_moment_109 : decode cX17_moment 109 = .ok (.iaload, 1) := by decide +kernel
theorem dX17_moment_110 : decode cX17_moment 110 = .ok (.iconst 1, 1) := by decide +kernel
theorem dX17_moment_111 : decode cX17_moment 111 = .ok (.if_icmp .ne 27, 3) := by decide +kernel
theorem dX17_moment_114 : decode cX17_moment 114 = .ok (.aload_n 0, 1) := by decide +kernel
theorem dX17_moment_115 : decode cX17_moment 115 = .ok (.getfield 118, 3) := by decide +kernel
theorem dX17_moment_118 : decode cX17_moment 118 = .ok (.aload_n 0, 1) := by decide +kernel
theorem dX17_moment_119 : decode cX17_moment 119 = .ok (.getfield 70, 3) := by decide +kernel
theorem dX17_moment_122 : decode cX17_moment 122 = .ok (.iload_n 2, 1) := by decide +kernel
theorem dX17_moment_123 : decode cX17_moment 123 = .ok (.laload, 1) := by decide +kernel
theorem dX17_moment_124 : decode cX17_moment 124 = .ok (.lsub, 1) := by decide +kernel
theorem dX17_moment_125 : decode cX17_moment 125 = .ok (.ldc2_w 179, 3) := by decide +kernel
theorem dX17_moment_128 : decode cX17_moment 128 = .ok (.lcmp, 1) := by decide +kernel
theorem dX17_moment_129 : decode cX17_moment 129 = .ok (.ifCond .ne 9, 3) := by decide +kernel
theorem dX17_moment_132 : decode cX17_moment 132 = .ok (.aload_n 0, 1) := by decide +kernel
theorem dX17_moment_133 : decode cX17_moment 133 = .ok (.iload_n 2, 1) := by decide +kernel
theorem dX17_moment_134 : decode cX17_moment 134 = .ok (.iconst 2, 1) := by decide +kernel
theorem dX17_moment_135 : decode cX17_moment 135 = .ok (.invokevirtual 163, 3) := by decide +kernel
theorem dX17_moment_138 : decode cX17_moment 138 = .ok (.iinc 1 1, 3) := by decide +kernel
theorem dX17_moment_141 : decode cX17_moment 141 = .ok (.goto (-88), 3) := by decide +kernel
theorem dX17_moment_144 : decode cX17_moment 144 = .ok (.return_, 1) := by decide +kernel
theorem cwX17_moment : mw_cwV yX17_moment cX17_moment 3 (none) 0 := ⟨⟨wd_17, wd_4171, by decide +kernel⟩, wd_4170, sl_337⟩
set_option maxHeartbeats 4000000 in
set_option maxRecDepth 100000 in
theorem tX17_moment (l : Launch) (G : mwG) (ad : Nat → Nat) (fu : Nat) (M : mwM) (L : mwL) {M0 : mwM} {L0 : mwL} (hD : DX17_moment fu M L = some (M0, L0)) : Met l yX17_moment (Cond.code yX17_moment cX17_moment 3 (none) :: GT) ({ frames := 2, cells := 0, slots := 0, locals := 49 }) (mw_Pre G ad NF TF FF M L [.ref (ad 869)]) (mw_Qv G ad NF TF FF (mw_eqV M0 L0)) 0 0 (mw_fr G) := by
  refine mw_enter (by decide) (Nat.le_of_ble_eq_true rfl) ?_
  intro p e s m below meth c ls C hr hlocks hnm hw hl
  have hl : lv_has ls 3 [(0, .ref (ad 869))] := hl
  have hh53 : ∀ (f : Nat) (v1 : Int32) (M : mwM) (L : mwL) (H : Heap) (locs : List Loc) (ls : Array Slot), fX17_moment_h53 fu f (v1, M, L) = some (M0, L0) → mw_W G ad NF TF FF M L H locs → lv_has ls 3 [(0, .ref (ad 869)), (1, .int v1)] → W p l e ({ frames := 2, cells := 0, slots := 0, locals := 49 }) s m [.ref (ad 869)].toArray below meth c H locs 0 0 (MQ below (mw_Qv G ad NF TF FF (mw_eqV M0 L0)) [.ref (ad 869)].toArray s 0 0 (mw_fr G)) (F0 m 53 ls []) := by
    intro f
    induction f with
    | zero => intro v1 M L H locs ls hD; cases hD
    | succ f53 ih53 =>
      intro v1 M L H locs ls hD hw hl
      replace hD : fX17_moment_i53 fu (fX17_moment_h53 fu f53) v1 M L = some (M0, L0) := hD
      have hb138 : ∀ (v1 : Int32) (M : mwM) (L : mwL) (H : Heap) (locs : List Loc) (ls : Array Slot), fX17_moment_b138 fu (fX17_moment_h53 fu f53) v1 M L = some (M0, L0) → mw_W G ad NF TF FF M L H locs → lv_has ls 3 [(0, .ref (ad 869)), (1, .int v1)] → W p l e ({ frames := 2, cells := 0, slots := 0, locals := 49 }) s m [.ref (ad 869)].toArray below meth c H locs 0 0 (MQ below (mw_Qv G ad NF TF FF (mw_eqV M0 L0)) [.ref (ad 869)].toArray s 0 0 (mw_fr G)) (F0 m 138 ls []) := by
        intro v1 M L H locs ls hD hw hl
        unfold fX17_moment_b138 at hD
        obtain ⟨x30, ex30, hD⟩ := g_let hD
        refine lv_iinc (v := x30) (lv' := [(1, .int x30), (0, .ref (ad 869))]) C.1.1 C.1.2.1 dX17_moment_138 hl (k := 1) rfl (by rw [ex30]; rfl) (by decide) rfl (fun ls hl => ?_)
        refine lv_goto (tgt := 53) C.1.1 C.1.2.1 dX17_moment_141 (by decide) ?_
        exact ih53 x30 M L _ _ ls hD hw (lv_sub hl [1, 0] rfl)
      have hb104 : ∀ (v1 : Int32) (v2 : Int32) (M : mwM) (L : mwL) (H : Heap) (locs : List Loc) (ls : Array Slot), fX17_moment_b104 fu (fX17_moment_h53 fu f53) v1 v2 M L = some (M0, L0) → mw_W G ad NF TF FF M L H locs → lv_has ls 3 [(0, .ref (ad 869)), (1, .int v1), (2, .int v2)] → W p l e ({ frames := 2, cells := 0, slots := 0, locals := 49 }) s m [.ref (ad 869)].toArray below meth c H locs 0 0 (MQ below (mw_Qv G ad NF TF FF (mw_eqV M0 L0)) [.ref (ad 869)].toArray s 0 0 (mw_fr G)) (F0 m 104 ls []) := by
        intro v1 v2 M L H locs ls hD hw hl
        unfold fX17_moment_b104 at hD
        refine lv_aload_n C.1.1 C.1.2.1 dX17_moment_104 rfl (lv_at hl 0 rfl) ?_
        refine mr_getR C hw kc_17 16 (by decide) tf_869 ff_869_16 wd_2347 dX17_moment_105 (by decide) rfl ?_
        refine lv_iload_n C.1.1 C.1.2.1 dX17_moment_108 rfl (lv_at hl 2 rfl) ?_
        obtain ⟨q24, hD⟩ := g_ck hD
        refine mr_iald C hw (by decide) tf_882 q24 dX17_moment_109 ?_
        refine lv_iconst (v := 1) C.1.1 C.1.2.1 dX17_moment_110 (by decide) ?_
        refine lv_icmp_ne (tgt := 138) C.1.1 C.1.2.1 dX17_moment_111 (by decide) (fun c25 => ?_) (fun c25 => ?_)
        · replace hD := g_neg c25 hD
          exact hb138 v1 M L _ _ ls hD hw (lv_sub hl [0, 1] rfl)
        · replace hD := g_pos c25 hD
          refine lv_aload_n C.1.1 C.1.2.1 dX17_moment_114 rfl (lv_at hl 0 rfl) ?_
          refine mr_getL C hw kc_17 2 (by decide) tf_869 wd_2333 dX17_moment_115 (by decide) rfl ?_
          refine lv_aload_n C.1.1 C.1.2.1 dX17_moment_118 rfl (lv_at hl 0 rfl) ?_
          refine mr_getR C hw kc_17 23 (by decide) tf_869 ff_869_23 wd_2354 dX17_moment_119 (by decide) rfl ?_
          refine lv_iload_n C.1.1 C.1.2.1 dX17_moment_122 rfl (lv_at hl 2 rfl) ?_
          obtain ⟨q26, hD⟩ := g_ck hD
          refine mr_lald C hw (by decide) tf_889 q26 dX17_moment_123 ?_
          refine lv_lsub C.1.1 C.1.2.1 dX17_moment_124 ?_
          refine lv_ldc2 (v := 1000) C.1.1 C.1.2.1 C.1.2.2.2.1 (C.1.2.2.2.2 _ wd_4176) dX17_moment_125 ?_
          refine W.lcmp C.1.1 C.1.2.1 dX17_moment_128 ?_
          refine lv_if_ne (tgt := 138) C.1.1 C.1.2.1 dX17_moment_129 (by decide) (fun c27 => ?_) (fun c27 => ?_)
          · replace hD := g_neg c27 hD
            exact hb138 v1 M L _ _ ls hD hw (lv_sub hl [0, 1] rfl)
          · replace hD := g_pos c27 hD
            refine lv_aload_n C.1.1 C.1.2.1 dX17_moment_132 rfl (lv_at hl 0 rfl) ?_
            refine lv_iload_n C.1.1 C.1.2.1 dX17_moment_133 rfl (lv_at hl 2 rfl) ?_
            refine lv_iconst (v := 2) C.1.1 C.1.2.1 dX17_moment_134 (by decide) ?_
            obtain ⟨M28, L29, h1, hD⟩ := g_b2 hD
            refine md_cvV (As := [.int v2, .int 2]) (rest := []) C hw (tX17_endReceiver l G ad fu v2 2 M L h1) kc_17 (by decide) tf_869 wd_3952 cwX17_endReceiver ⟨Nat.le_of_ble_eq_true rfl, Nat.le_of_ble_eq_true rfl⟩ rfl hl.1 (Nat.le_of_ble_eq_true rfl) dX17_moment_135 rfl rfl ⟨Nat.zero_le _, Nat.zero_le _⟩ rfl (fun H locs hw => ?_)
            exact hb138 v1 M28 L29 _ _ ls hD hw (lv_sub hl [0, 1] rfl)
      unfold fX17_moment_i53 at hD
      refine lv_iload_n C.1.1 C.1.2.1 dX17_moment_53 rfl (lv_at hl 1 rfl) ?_
      refine lv_iconst (v := 5) C.1.1 C.1.2.1 dX17_moment_54 (by decide) ?_
      refine lv_icmp_ge (tgt := 144) C.1.1 C.1.2.1 dX17_moment_55 (by decide) (fun c13 => ?_) (fun c13 => ?_)
      · replace hD := g_pos c13 hD
        exact mr_vret C hr hlocks hw (Option.some.inj hD) dX17_moment_144
      · replace hD := g_neg c13 hD
        refine lv_iload_n C.1.1 C.1.2.1 dX17_moment_58 rfl (lv_at hl 1 rfl) ?_
        refine lv_iconst (v := 4) C.1.1 C.1.2.1 dX17_moment_59 (by decide) ?_
        refine lv_irem C.1.1 C.1.2.1 dX17_moment_60 (by decide) ?_
        obtain ⟨x15, ex15, hD⟩ := g_let hD
        refine W.eq (g2 := F0 m 61 ls (.int x15 :: [])) (by rw [ex15]) ?_
        refine lv_istore_n (lv' := [(2, .int x15), (0, .ref (ad 869)), (1, .int v1)]) C.1.1 C.1.2.1 dX17_moment_61 rfl hl (by decide) rfl (fun ls hl => ?_)
        refine lv_aload_n C.1.1 C.1.2.1 dX17_moment_62 rfl (lv_at hl 1 rfl) ?_
        refine mr_getR C hw kc_17 16 (by decide) tf_869 ff_869_16 wd_2347 dX17_moment_63 (by decide) rfl ?_
        refine lv_iload_n C.1.1 C.1.2.1 dX17_moment_66 rfl (lv_at hl 0 rfl) ?_
        obtain ⟨q16, hD⟩ := g_ck hD
        refine mr_iald C hw (by decide) tf_882 q16 dX17_moment_67 ?_
        refine lv_iconst (v := 1) C.1.1 C.1.2.1 dX17_moment_68 (by decide) ?_
        refine lv_icmp_ne (tgt := 104) C.1.1 C.1.2.1 dX17_moment_69 (by decide) (fun c17 => ?_) (fun c17 => ?_)
        · replace hD := g_neg c17 hD
          exact hb104 v1 x15 M L _ _ ls hD hw (lv_sub hl [1, 2, 0] rfl)
        · replace hD := g_pos c17 hD
          refine lv_aload_n C.1.1 C.1.2.1 dX17_moment_72 rfl (lv_at hl 1 rfl) ?_
          refine mr_getR C hw kc_17 24 (by decide) tf_869 ff_869_24 wd_2355 dX17_moment_73 (by decide) rfl ?_
          refine lv_iload_n C.1.1 C.1.2.1 dX17_moment_76 rfl (lv_at hl 0 rfl) ?_
          obtain ⟨q18, hD⟩ := g_ck hD
          refine mr_zald C hw (by decide) tf_890 q18 dX17_moment_77 ?_
          refine lv_if_eq (tgt := 104) C.1.1 C.1.2.1 dX17_moment_78 (by decide) (fun c19 => ?_) (fun c19 => ?_)
          · replace hD := g_pos c19 hD
            exact hb104 v1 x15 M L _ _ ls hD hw (lv_sub hl [1, 2, 0] rfl)
          · replace hD := g_neg c19 hD
            refine lv_aload_n C.1.1 C.1.2.1 dX17_moment_81 rfl (lv_at hl 1 rfl) ?_
            refine mr_getL C hw kc_17 2 (by decide) tf_869 wd_2333 dX17_moment_82 (by decide) rfl ?_
            refine lv_aload_n C.1.1 C.1.2.1 dX17_moment_85 rfl (lv_at hl 1 rfl) ?_
            refine mr_getR C hw kc_17 23 (by decide) tf_869 ff_869_23 wd_2354 dX17_moment_86 (by decide) rfl ?_
            refine lv_iload_n C.1.1 C.1.2.1 dX17_moment_89 rfl (lv_at hl 0 rfl) ?_
            obtain ⟨q20, hD⟩ := g_ck hD
            refine mr_lald C hw (by decide) tf_889 q20 dX17_moment_90 ?_
            refine lv_lsub C.1.1 C.1.2.1 dX17_moment_91 ?_
            refine lv_ldc2 (v := 500) C.1.1 C.1.2.1 C.1.2.2.2.1 (C.1.2.2.2.2 _ wd_4181) dX17_moment_92 ?_
            refine W.lcmp C.1.1 C.1.2.1 dX17_moment_95 ?_
            refine lv_if_ne (tgt := 104) C.1.1 C.1.2.1 dX17_moment_96 (by decide) (fun c21 => ?_) (fun c21 => ?_)
            · replace hD := g_neg c21 hD
              exact hb104 v1 x15 M L _ _ ls hD hw (lv_sub hl [1, 2, 0] rfl)
            · replace hD := g_pos c21 hD
              refine lv_aload_n C.1.1 C.1.2.1 dX17_moment_99 rfl (lv_at hl 1 rfl) ?_
              refine lv_iload_n C.1.1 C.1.2.1 dX17_moment_100 rfl (lv_at hl 0 rfl) ?_
              obtain ⟨M22, L23, h1, hD⟩ := g_b2 hD
              refine md_cvV (As := [.int x15]) (rest := []) C hw (tX17_answer l G ad fu x15 M L h1) kc_17 (by decide) tf_869 wd_3964 cwX17_answer ⟨Nat.le_of_ble_eq_true rfl, Nat.le_of_ble_eq_true rfl⟩ rfl hl.1 (Nat.le_of_ble_eq_true rfl) dX17_moment_101 rfl rfl ⟨Nat.zero_le _, Nat.zero_le _⟩ rfl (fun H locs hw => ?_)
              exact hb104 v1 x15 M22 L23 _ _ ls hD hw (lv_sub hl [1, 2, 0] rfl)
  have hh2 : ∀ (f : Nat) (v1 : Int32) (M : mwM) (L : mwL) (H : Heap) (locs : List Loc) (ls : Array Slot), fX17_moment_h2 fu f (v1, M, L) = some (M0, L0) → mw_W G ad NF TF FF M L H locs → lv_has ls 3 [(0, .ref (ad 869)), (1, .int v1)] → W p l e ({ frames := 2, cells := 0, slots := 0, locals := 49 }) s m [.ref (ad 869)].toArray below meth c H locs 0 0 (MQ below (mw_Qv G ad NF TF FF (mw_eqV M0 L0)) [.ref (ad 869)].toArray s 0 0 (mw_fr G)) (F0 m 2 ls []) := by
    intro f
    induction f with
    | zero => intro v1 M L H locs ls hD; cases hD
    | succ f2 ih2 =>
      intro v1 M L H locs ls hD hw hl
      replace hD : fX17_moment_i2 fu (fX17_moment_h2 fu f2) v1 M L = some (M0, L0) := hD
      have hh10 : ∀ (f : Nat) (v1 : Int32) (M : mwM) (L : mwL) (H : Heap) (locs : List Loc) (ls : Array Slot), fX17_moment_h10 fu (fX17_moment_h2 fu f2) f (v1, M, L) = some (M0, L0) → mw_W G ad NF TF FF M L H locs → lv_has ls 3 [(0, .ref (ad 869)), (1, .int v1)] → W p l e ({ frames := 2, cells := 0, slots := 0, locals := 49 }) s m [.ref (ad 869)].toArray below meth c H locs 0 0 (MQ below (mw_Qv G ad NF TF FF (mw_eqV M0 L0)) [.ref (ad 869)].toArray s 0 0 (mw_fr G)) (F0 m 10 ls []) := by
        intro f
        induction f with
        | zero => intro v1 M L H locs ls hD; cases hD
        | succ f10 ih10 =>
          intro v1 M L H locs ls hD hw hl
          replace hD : fX17_moment_i10 fu (fX17_moment_h2 fu f2) (fX17_moment_h10 fu (fX17_moment_h2 fu f2) f10) v1 M L = some (M0, L0) := hD
          unfold fX17_moment_i10 at hD
          refine lv_aload_n C.1.1 C.1.2.1 dX17_moment_10 rfl (lv_at hl 0 rfl) ?_
          refine lv_iload_n C.1.1 C.1.2.1 dX17_moment_11 rfl (lv_at hl 1 rfl) ?_
          obtain ⟨r4, M2, L3, h1, hD⟩ := g_b3 hD
          refine md_cvI (As := [.int v1]) (rest := []) C hw (tX17_senderDue l G ad fu v1 M L h1) kc_17 (by decide) tf_869 wd_4172 cwX17_senderDue ⟨Nat.le_of_ble_eq_true rfl, Nat.le_of_ble_eq_true rfl⟩ rfl hl.1 (Nat.le_of_ble_eq_true rfl) dX17_moment_12 rfl rfl ⟨Nat.zero_le _, Nat.zero_le _⟩ rfl (fun H locs hw => ?_)
          refine lv_if_eq (tgt := 45) C.1.1 C.1.2.1 dX17_moment_15 (by decide) (fun c5 => ?_) (fun c5 => ?_)
          · replace hD := g_pos c5 hD
            obtain ⟨x6, ex6, hD⟩ := g_let hD
            refine lv_iinc (v := x6) (lv' := [(1, .int x6), (0, .ref (ad 869))]) C.1.1 C.1.2.1 dX17_moment_45 hl (k := 1) rfl (by rw [ex6]; rfl) (by decide) rfl (fun ls hl => ?_)
            refine lv_goto (tgt := 2) C.1.1 C.1.2.1 dX17_moment_48 (by decide) ?_
            exact ih2 x6 M2 L3 _ _ ls hD hw (lv_sub hl [1, 0] rfl)
          · replace hD := g_neg c5 hD
            refine lv_aload_n C.1.1 C.1.2.1 dX17_moment_18 rfl (lv_at hl 0 rfl) ?_
            refine mr_getR C hw kc_17 7 (by decide) tf_869 ff_869_7 wd_2338 dX17_moment_19 (by decide) rfl ?_
            refine lv_iload_n C.1.1 C.1.2.1 dX17_moment_22 rfl (lv_at hl 1 rfl) ?_
            obtain ⟨q7, hD⟩ := g_ck hD
            refine mr_iald C hw (by decide) tf_873 q7 dX17_moment_23 ?_
            refine lv_iconst (v := 1) C.1.1 C.1.2.1 dX17_moment_24 (by decide) ?_
            refine lv_icmp_ne (tgt := 37) C.1.1 C.1.2.1 dX17_moment_25 (by decide) (fun c8 => ?_) (fun c8 => ?_)
            · replace hD := g_neg c8 hD
              refine lv_aload_n C.1.1 C.1.2.1 dX17_moment_37 rfl (lv_at hl 0 rfl) ?_
              refine lv_iload_n C.1.1 C.1.2.1 dX17_moment_38 rfl (lv_at hl 1 rfl) ?_
              obtain ⟨M9, L10, h1, hD⟩ := g_b2 hD
              refine md_cvV (As := [.int v1]) (rest := []) C hw (tX17_sendNext l G ad fu v1 M2 L3 h1) kc_17 (by decide) tf_869 wd_4177 cwX17_sendNext ⟨Nat.le_of_ble_eq_true rfl, Nat.le_of_ble_eq_true rfl⟩ rfl hl.1 (Nat.le_of_ble_eq_true rfl) dX17_moment_39 rfl rfl ⟨Nat.zero_le _, Nat.zero_le _⟩ rfl (fun H locs hw => ?_)
              refine lv_goto (tgt := 10) C.1.1 C.1.2.1 dX17_moment_42 (by decide) ?_
              exact ih10 v1 M9 L10 _ _ ls hD hw (lv_sub hl [0, 1] rfl)
            · replace hD := g_pos c8 hD
              refine lv_aload_n C.1.1 C.1.2.1 dX17_moment_28 rfl (lv_at hl 0 rfl) ?_
              refine lv_iload_n C.1.1 C.1.2.1 dX17_moment_29 rfl (lv_at hl 1 rfl) ?_
              refine lv_iconst (v := 1) C.1.1 C.1.2.1 dX17_moment_30 (by decide) ?_
              obtain ⟨M11, L12, h1, hD⟩ := g_b2 hD
              refine md_cvV (As := [.int v1, .int 1]) (rest := []) C hw (tX17_endSender l G ad fu v1 1 M2 L3 h1) kc_17 (by decide) tf_869 wd_3940 cwX17_endSender ⟨Nat.le_of_ble_eq_true rfl, Nat.le_of_ble_eq_true rfl⟩ rfl hl.1 (Nat.le_of_ble_eq_true rfl) dX17_moment_31 rfl rfl ⟨Nat.zero_le _, Nat.zero_le _⟩ rfl (fun H locs hw => ?_)
              refine lv_goto (tgt := 10) C.1.1 C.1.2.1 dX17_moment_34 (by decide) ?_
              exact ih10 v1 M11 L12 _ _ ls hD hw (lv_sub hl [0, 1] rfl)
      unfold fX17_moment_i2 at hD
      refine lv_iload_n C.1.1 C.1.2.1 dX17_moment_2 rfl (lv_at hl 1 rfl) ?_
      refine lv_aload_n C.1.1 C.1.2.1 dX17_moment_3 rfl (lv_at hl 0 rfl) ?_
      refine mr_getI C hw kc_17 3 (by decide) tf_869 wd_2334 dX17_moment_4 (by decide) rfl ?_
      refine lv_icmp_gt (tgt := 51) C.1.1 C.1.2.1 dX17_moment_7 (by decide) (fun c1 => ?_) (fun c1 => ?_)
      · replace hD := g_pos c1 hD
        refine lv_iconst (v := 1) C.1.1 C.1.2.1 dX17_moment_51 (by decide) ?_
        refine lv_istore_n (lv' := [(1, .int 1), (0, .ref (ad 869))]) C.1.1 C.1.2.1 dX17_moment_52 rfl hl (by decide) rfl (fun ls hl => ?_)
        exact hh53 fu 1 M L _ _ ls hD hw (lv_sub hl [1, 0] rfl)
      · replace hD := g_neg c1 hD
        exact hh10 fu v1 M L _ _ ls hD hw (lv_sub hl [0, 1] rfl)
  unfold DX17_moment at hD
  refine lv_iconst (v := 1) C.1.1 C.1.2.1 dX17_moment_0 (by decide) ?_
  refine lv_istore_n (lv' := [(1, .int 1), (0, .ref (ad 869))]) C.1.1 C.1.2.1 dX17_moment_1 rfl hl (by decide) rfl (fun ls hl => ?_)
  exact hh2 fu 1 M L _ _ ls hD hw (lv_sub hl [1, 0] rfl)

theorem dX17_sum_0 : decode cX17_sum 0 = .ok (.iconst 0, 1) := by decide +kernel
theorem dX17_sum_1 : decode cX17_sum 1 = .ok (.istore_n 1, 1) := by decide +kernel
theorem dX17_sum_2 : decode cX17_sum 2 = .ok (.iconst 1, 1) := by decide +kernel
theorem dX17_sum_3 : decode cX17_sum 3 = .ok (.istore_n 2, 1) := by decide +kernel
theorem dX17_sum_4 : decode cX17_sum 4 = .ok (.iload_n 2, 1) := by decide +kernel
theorem dX17_sum_5 : decode cX17_sum 5 = .ok (.bipush 8, 2) := by decide +kernel
theorem dX17_sum_7 : decode cX17_sum 7 = .ok (.if_icmp .ge 18, 3) := by decide +kernel
theorem dX17_sum_10 : decode cX17_sum 10 = .ok (.iload_n 1, 1) := by decide +kernel
theorem dX17_sum_11 : decode cX17_sum 11 = .ok (.aload_n 0, 1) := by decide +kernel
theorem dX17_sum_12 : decode cX17_sum 12 = .ok (.getfield 112, 3) := by decide +kernel
theorem dX17_sum_15 : decode cX17_sum 15 = .ok (.iload_n 2, 1) := by decide +kernel
theorem dX17_sum_16 : decode cX17_sum 16 = .ok (.iaload, 1) := by decide +kernel
theorem dX17_sum_17 : decode cX17_sum 17 = .ok (.iadd, 1) := by decide +kernel
theorem dX17_sum_18 : decode cX17_sum 18 = .ok (.istore_n 1, 1) := by decide +kernel
theorem dX17_sum_19 : decode cX17_sum 19 = .ok (.iinc 2 1, 3) := by decide +kernel
theorem dX17_sum_22 : decode cX17_sum 22 = .ok (.goto (-18), 3) := by decide +kernel
theorem dX17_sum_25 : decode cX17_sum 25 = .ok (.iload_n 1, 1) := by decide +kernel
theorem dX17_sum_26 : decode cX17_sum 26 = .ok (.ireturn, 1) := by decide +kernel
theorem cwX17_sum : mw_cwV yX17_sum cX17_sum 3 ((some .int)) 0 := ⟨⟨wd_17, wd_4159, by decide +kernel⟩, wd_4158, sl_334⟩
set_option maxHeartbeats 4000000 in
set_option maxRecDepth 100000 in
theorem tX17_sum (l : Launch) (G : mwG) (ad : Nat → Nat) (fu : Nat) (M : mwM) (L : mwL) {r0 : Int32} {M0 : mwM} {L0 : mwL} (hD : DX17_sum fu M L = some (r0, M0, L0)) : Met l yX17_sum (Cond.code yX17_sum cX17_sum 3 ((some .int)) :: GT) ({ frames := 0, cells := 0, slots := 0, locals := 0 }) (mw_Pre G ad NF TF FF M L [.ref (ad 869)]) (mw_Qi G ad NF TF FF (mw_eqI r0 M0 L0)) 0 0 (mw_fr G) := by
  refine mw_enter (by decide) (Nat.le_of_ble_eq_true rfl) ?_
  intro p e s m below meth c ls C hr hlocks hnm hw hl
  have hl : lv_has ls 3 [(0, .ref (ad 869))] := hl
  have hh4 : ∀ (f : Nat) (v1 : Int32) (v2 : Int32) (M : mwM) (L : mwL) (H : Heap) (locs : List Loc) (ls : Array Slot), fX17_sum_h4 fu f (v1, v2, M, L) = some (r0, M0, L0) → mw_W G ad NF TF FF M L H locs → lv_has ls 3 [(0, .ref (ad 869)), (1, .int v1), (2, .int v2)] → W p l e ({ frames := 0, cells := 0, slots := 0, locals := 0 }) s m [.ref (ad 869)].toArray below meth c H locs 0 0 (MQ below (mw_Qi G ad NF TF FF (mw_eqI r0 M0 L0)) [.ref (ad 869)].toArray s 0 0 (mw_fr G)) (F0 m 4 ls []) := by
    intro f
    induction f with
    | zero => intro v1 v2 M L H locs ls hD; cases hD
    | succ f4 ih4 =>
      intro v1 v2 M L H locs ls hD hw hl
      replace hD : fX17_sum_i4 fu (fX17_sum_h4 fu f4) v1 v2 M L = some (r0, M0, L0) := hD
      unfold fX17_sum_i4 at hD
      refine lv_iload_n C.1.1 C.1.2.1 dX17_sum_4 rfl (lv_at hl 2 rfl) ?_
      refine lv_bipush (v := 8) C.1.1 C.1.2.1 dX17_sum_5 (by decide) ?_
      refine lv_icmp_ge (tgt := 25) C.1.1 C.1.2.1 dX17_sum_7 (by decide) (fun c1 => ?_) (fun c1 => ?_)
      · replace hD := g_pos c1 hD
        refine lv_iload_n C.1.1 C.1.2.1 dX17_sum_25 rfl (lv_at hl 1 rfl) ?_
        exact mr_iret C hr hlocks hw rfl (Option.some.inj hD) dX17_sum_26
      · replace hD := g_neg c1 hD
        refine lv_iload_n C.1.1 C.1.2.1 dX17_sum_10 rfl (lv_at hl 1 rfl) ?_
        refine lv_aload_n C.1.1 C.1.2.1 dX17_sum_11 rfl (lv_at hl 0 rfl) ?_
        refine mr_getR C hw kc_17 42 (by decide) tf_869 ff_869_42 wd_2373 dX17_sum_12 (by decide) rfl ?_
        refine lv_iload_n C.1.1 C.1.2.1 dX17_sum_15 rfl (lv_at hl 2 rfl) ?_
        obtain ⟨q2, hD⟩ := g_ck hD
        refine mr_iald C hw (by decide) tf_901 q2 dX17_sum_16 ?_
        refine lv_iadd C.1.1 C.1.2.1 dX17_sum_17 ?_
        obtain ⟨x3, ex3, hD⟩ := g_let hD
        refine W.eq (g2 := F0 m 18 ls (.int x3 :: [])) (by rw [ex3]) ?_
        refine lv_istore_n (lv' := [(1, .int x3), (0, .ref (ad 869)), (2, .int v2)]) C.1.1 C.1.2.1 dX17_sum_18 rfl hl (by decide) rfl (fun ls hl => ?_)
        obtain ⟨x4, ex4, hD⟩ := g_let hD
        refine lv_iinc (v := x4) (lv' := [(2, .int x4), (1, .int x3), (0, .ref (ad 869))]) C.1.1 C.1.2.1 dX17_sum_19 hl (k := 2) rfl (by rw [ex4]; rfl) (by decide) rfl (fun ls hl => ?_)
        refine lv_goto (tgt := 4) C.1.1 C.1.2.1 dX17_sum_22 (by decide) ?_
        exact ih4 x3 x4 M L _ _ ls hD hw (lv_sub hl [2, 1, 0] rfl)
  unfold DX17_sum at hD
  refine lv_iconst (v := 0) C.1.1 C.1.2.1 dX17_sum_0 (by decide) ?_
  refine lv_istore_n (lv' := [(1, .int 0), (0, .ref (ad 869))]) C.1.1 C.1.2.1 dX17_sum_1 rfl hl (by decide) rfl (fun ls hl => ?_)
  refine lv_iconst (v := 1) C.1.1 C.1.2.1 dX17_sum_2 (by decide) ?_
  refine lv_istore_n (lv' := [(2, .int 1), (1, .int 0), (0, .ref (ad 869))]) C.1.1 C.1.2.1 dX17_sum_3 rfl hl (by decide) rfl (fun ls hl => ?_)
  exact hh4 fu 0 1 M L _ _ ls hD hw (lv_sub hl [2, 1, 0] rfl)

theorem dX17_tick_0 : decode cX17_tick 0 = .ok (.aload_n 0, 1) := by decide +kernel
theorem dX17_tick_1 : decode cX17_tick 1 = .ok (.iconst 0, 1) := by decide +kernel
theorem dX17_tick_2 : decode cX17_tick 2 = .ok (.putfield 144, 3) := by decide +kernel
theorem dX17_tick_5 : decode cX17_tick 5 = .ok (.lload_n 1, 1) := by decide +kernel
theorem dX17_tick_6 : decode cX17_tick 6 = .ok (.aload_n 0, 1) := by decide +kernel
theorem dX17_tick_7 : decode cX17_tick 7 = .ok (.getfield 118, 3) := by decide +kernel
theorem dX17_tick_10 : decode cX17_tick 10 = .ok (.lcmp, 1) := by decide +kernel
theorem dX17_tick_11 : decode cX17_tick 11 = .ok (.ifCond .lt 16, 3) := by decide +kernel
theorem dX17_tick_14 : decode cX17_tick 14 = .ok (.lload_n 1, 1) := by decide +kernel
theorem dX17_tick_15 : decode cX17_tick 15 = .ok (.aload_n 0, 1) := by decide +kernel
theorem dX17_tick_16 : decode cX17_tick 16 = .ok (.getfield 118, 3) := by decide +kernel
theorem dX17_tick_19 : decode cX17_tick 19 = .ok (.lsub, 1) := by decide +kernel
theorem dX17_tick_20 : decode cX17_tick 20 = .ok (.ldc2_w 190, 3) := by decide +kernel
theorem dX17_tick_23 : decode cX17_tick 23 = .ok (.lcmp, 1) := by decide +kernel
theorem dX17_tick_24 : decode cX17_tick 24 = .ok (.ifCond .le 6, 3) := by decide +kernel
theorem dX17_tick_27 : decode cX17_tick 27 = .ok (.bipush (-2), 2) := by decide +kernel
theorem dX17_tick_29 : decode cX17_tick 29 = .ok (.ireturn, 1) := by decide +kernel
theorem dX17_tick_30 : decode cX17_tick 30 = .ok (.aload_n 0, 1) := by decide +kernel
theorem dX17_tick_31 : decode cX17_tick 31 = .ok (.invokevirtual 192, 3) := by decide +kernel
theorem dX17_tick_34 : decode cX17_tick 34 = .ok (.istore_n 3, 1) := by decide +kernel
theorem dX17_tick_35 : decode cX17_tick 35 = .ok (.iconst 1, 1) := by decide +kernel
theorem dX17_tick_36 : decode cX17_tick 36 = .ok (.istore 4, 2) := by decide +kernel
theorem dX17_tick_38 : decode cX17_tick 38 = .ok (.iload 4, 2) := by decide +kernel
theorem dX17_tick_40 : decode cX17_tick 40 = .ok (.aload_n 0, 1) := by decide +kernel
theorem dX17_tick_41 : decode cX17_tick 41 = .ok (.getfield 122, 3) := by decide +kernel
theorem dX17_tick_44 : decode cX17_tick 44 = .ok (.if_icmp .gt 25, 3) := by decide +kernel
theorem dX17_tick_47 : decode cX17_tick 47 = .ok (.aload_n 0, 1) := by decide +kernel
theorem dX17_tick_48 : decode cX17_tick 48 = .ok (.getfield 17, 3) := by decide +kernel
theorem dX17_tick_51 : decode cX17_tick 51 = .ok (.iload 4, 2) := by decide +kernel
theorem dX17_tick_53 : decode cX17_tick 53 = .ok (.baload, 1) := by decide +kernel
theorem dX17_tick_54 : decode cX17_tick 54 = .ok (.ifCond .ne 9, 3) := by decide +kernel
theorem dX17_tick_57 : decode cX17_tick 57 = .ok (.aload_n 0, 1) := by decide +kernel
theorem dX17_tick_58 : decode cX17_tick 58 = .ok (.iload 4, 2) := by decide +kernel
theorem dX17_tick_60 : decode cX17_tick 60 = .ok (.invokevirtual 196, 3) := by decide +kernel
theorem dX17_tick_63 : decode cX17_tick 63 = .ok (.iinc 4 1, 3) := by decide +kernel
theorem dX17_tick_66 : decode cX17_tick 66 = .ok (.goto (-28), 3) := by decide +kernel
theorem dX17_tick_69 : decode cX17_tick 69 = .ok (.aload_n 0, 1) := by decide +kernel
theorem dX17_tick_70 : decode cX17_tick 70 = .ok (.invokevirtual 199, 3) := by decide +kernel
theorem dX17_tick_73 : decode cX17_tick 73 = .ok (.aload_n 0, 1) := by decide +kernel
theorem dX17_tick_74 : decode cX17_tick 74 = .ok (.getfield 118, 3) := by decide +kernel
theorem dX17_tick_77 : decode cX17_tick 77 = .ok (.lload_n 1, 1) := by decide +kernel
theorem dX17_tick_78 : decode cX17_tick 78 = .ok (.lcmp, 1) := by decide +kernel
theorem dX17_tick_79 : decode cX17_tick 79 = .ok (.ifCond .ge 20, 3) := by decide +kernel
theorem dX17_tick_82 : decode cX17_tick 82 = .ok (.aload_n 0, 1) := by decide +kernel
theorem dX17_tick_83 : decode cX17_tick 83 = .ok (.dup, 1) := by decide +kernel
theorem dX17_tick_84 : decode cX17_tick 84 = .ok (.getfield 118, 3) := by decide +kernel
theorem dX17_tick_87 : decode cX17_tick 87 = .ok (.lconst 1, 1) := by decide +kernel
theorem dX17_tick_88 : decode cX17_tick 88 = .ok (.ladd, 1) := by decide +kernel
theorem dX17_tick_89 : decode cX17_tick 89 = .ok (.putfield 118, 3) := by decide +kernel
theorem dX17_tick_92 : decode cX17_tick 92 = .ok (.aload_n 0, 1) := by decide +kernel
theorem dX17_tick_93 : decode cX17_tick 93 = .ok (.invokevirtual 199, 3) := by decide +kernel
theorem dX17_tick_96 : decode cX17_tick 96 = .ok (.goto (-23), 3) := by decide +kernel
theorem dX17_tick_99 : decode cX17_tick 99 = .ok (.aload_n 0, 1) := by decide +kernel
theorem dX17_tick_100 : decode cX17_tick 100 = .ok (.invokevirtual 192, 3) := by decide +kernel
theorem dX17_tick_103 : decode cX17_tick 103 = .ok (.iload_n 3, 1) := by decide +kernel
theorem dX17_tick_104 : decode cX17_tick 104 = .ok (.isub, 1) := by decide +kernel
theorem dX17_tick_105 : decode cX17_tick 105 = .ok (.ireturn, 1) := by decide +kernel
theorem cwX17_tick : mw_cwV yX17_tick cX17_tick 5 ((some .int)) 1 := ⟨⟨wd_17, wd_4154, by decide +kernel⟩, wd_4152, wd_4153⟩
set_option maxHeartbeats 4000000 in
set_option maxRecDepth 100000 in
theorem tX17_tick (l : Launch) (G : mwG) (ad : Nat → Nat) (fu : Nat) (a1 : Int64) (M : mwM) (L : mwL) {r0 : Int32} {M0 : mwM} {L0 : mwL} (hD : DX17_tick fu a1 M L = some (r0, M0, L0)) : Met l yX17_tick (Cond.code yX17_tick cX17_tick 5 ((some .int)) :: GT) ({ frames := 3, cells := 0, slots := 0, locals := 71 }) (mw_Pre G ad NF TF FF M L [.ref (ad 869), .long a1]) (mw_Qi G ad NF TF FF (mw_eqI r0 M0 L0)) 0 0 (mw_fr G) := by
  refine mw_enter (by decide) (Nat.le_of_ble_eq_true rfl) ?_
  intro p e s m below meth c ls C hr hlocks hnm hw hl
  have hl : lv_has ls 5 [(0, .ref (ad 869)), (1, .long a1)] := hl
  have hb27 : ∀ (M : mwM) (L : mwL) (H : Heap) (locs : List Loc) (ls : Array Slot), fX17_tick_b27 fu a1 M L = some (r0, M0, L0) → mw_W G ad NF TF FF M L H locs → lv_has ls 5 [] → W p l e ({ frames := 3, cells := 0, slots := 0, locals := 71 }) s m [.ref (ad 869), .long a1].toArray below meth c H locs 0 0 (MQ below (mw_Qi G ad NF TF FF (mw_eqI r0 M0 L0)) [.ref (ad 869), .long a1].toArray s 0 0 (mw_fr G)) (F0 m 27 ls []) := by
    intro M L H locs ls hD hw hl
    unfold fX17_tick_b27 at hD
    refine lv_bipush (v := (-2)) C.1.1 C.1.2.1 dX17_tick_27 (by decide) ?_
    exact mr_iret C hr hlocks hw rfl (Option.some.inj hD) dX17_tick_29
  have hh73 : ∀ (f : Nat) (v3 : Int32) (M : mwM) (L : mwL) (H : Heap) (locs : List Loc) (ls : Array Slot), fX17_tick_h73 fu a1 f (v3, M, L) = some (r0, M0, L0) → mw_W G ad NF TF FF M L H locs → lv_has ls 5 [(0, .ref (ad 869)), (1, .long a1), (3, .int v3)] → W p l e ({ frames := 3, cells := 0, slots := 0, locals := 71 }) s m [.ref (ad 869), .long a1].toArray below meth c H locs 0 0 (MQ below (mw_Qi G ad NF TF FF (mw_eqI r0 M0 L0)) [.ref (ad 869), .long a1].toArray s 0 0 (mw_fr G)) (F0 m 73 ls []) := by
    intro f
    induction f with
    | zero => intro v3 M L H locs ls hD; cases hD
    | succ f73 ih73 =>
      intro v3 M L H locs ls hD hw hl
      replace hD : fX17_tick_i73 fu a1 (fX17_tick_h73 fu a1 f73) v3 M L = some (r0, M0, L0) := hD
      unfold fX17_tick_i73 at hD
      refine lv_aload_n C.1.1 C.1.2.1 dX17_tick_73 rfl (lv_at hl 0 rfl) ?_
      refine mr_getL C hw kc_17 2 (by decide) tf_869 wd_2333 dX17_tick_74 (by decide) rfl ?_
      refine lv_lload_n C.1.1 C.1.2.1 dX17_tick_77 rfl (lv_at hl 1 rfl) ?_
      refine W.lcmp C.1.1 C.1.2.1 dX17_tick_78 ?_
      refine lv_if_ge (tgt := 99) C.1.1 C.1.2.1 dX17_tick_79 (by decide) (fun c9 => ?_) (fun c9 => ?_)
      · replace hD := g_pos c9 hD
        refine lv_aload_n C.1.1 C.1.2.1 dX17_tick_99 rfl (lv_at hl 0 rfl) ?_
        obtain ⟨r12, M10, L11, h1, hD⟩ := g_b3 hD
        refine md_cvI (As := []) (rest := []) C hw (tX17_sum l G ad fu M L h1) kc_17 (by decide) tf_869 wd_4156 cwX17_sum ⟨Nat.le_of_ble_eq_true rfl, Nat.le_of_ble_eq_true rfl⟩ rfl hl.1 (Nat.le_of_ble_eq_true rfl) dX17_tick_100 rfl rfl ⟨Nat.zero_le _, Nat.zero_le _⟩ rfl (fun H locs hw => ?_)
        refine lv_iload_n C.1.1 C.1.2.1 dX17_tick_103 rfl (lv_at hl 2 rfl) ?_
        refine lv_isub C.1.1 C.1.2.1 dX17_tick_104 ?_
        exact mr_iret C hr hlocks hw rfl (Option.some.inj hD) dX17_tick_105
      · replace hD := g_neg c9 hD
        refine lv_aload_n C.1.1 C.1.2.1 dX17_tick_82 rfl (lv_at hl 0 rfl) ?_
        refine lv_dup C.1.1 C.1.2.1 dX17_tick_83 rfl ?_
        refine mr_getL C hw kc_17 2 (by decide) tf_869 wd_2333 dX17_tick_84 (by decide) rfl ?_
        refine lv_lconst (v := 1) C.1.1 C.1.2.1 dX17_tick_87 (by decide) ?_
        refine lv_ladd C.1.1 C.1.2.1 dX17_tick_88 ?_
        obtain ⟨L13, eL13, hD⟩ := g_let hD
        refine mr_putL C hw kc_17 2 (by decide) tf_869 wd_2333 dX17_tick_89 (by decide) rfl rfl rfl rfl (fun H locs hw => ?_)
        replace hw : mw_W G ad NF TF FF M L13 H locs := by rw [eL13]; exact hw
        refine lv_aload_n C.1.1 C.1.2.1 dX17_tick_92 rfl (lv_at hl 0 rfl) ?_
        obtain ⟨M14, L15, h1, hD⟩ := g_b2 hD
        refine md_cvV (As := []) (rest := []) C hw (tX17_moment l G ad fu M L13 h1) kc_17 (by decide) tf_869 wd_4168 cwX17_moment ⟨Nat.le_of_ble_eq_true rfl, Nat.le_of_ble_eq_true rfl⟩ rfl hl.1 (Nat.le_of_ble_eq_true rfl) dX17_tick_93 rfl rfl ⟨Nat.zero_le _, Nat.zero_le _⟩ rfl (fun H locs hw => ?_)
        refine lv_goto (tgt := 73) C.1.1 C.1.2.1 dX17_tick_96 (by decide) ?_
        exact ih73 v3 M14 L15 _ _ ls hD hw (lv_sub hl [0, 1, 2] rfl)
  have hh38 : ∀ (f : Nat) (v3 : Int32) (v4 : Int32) (M : mwM) (L : mwL) (H : Heap) (locs : List Loc) (ls : Array Slot), fX17_tick_h38 fu a1 f (v3, v4, M, L) = some (r0, M0, L0) → mw_W G ad NF TF FF M L H locs → lv_has ls 5 [(0, .ref (ad 869)), (1, .long a1), (3, .int v3), (4, .int v4)] → W p l e ({ frames := 3, cells := 0, slots := 0, locals := 71 }) s m [.ref (ad 869), .long a1].toArray below meth c H locs 0 0 (MQ below (mw_Qi G ad NF TF FF (mw_eqI r0 M0 L0)) [.ref (ad 869), .long a1].toArray s 0 0 (mw_fr G)) (F0 m 38 ls []) := by
    intro f
    induction f with
    | zero => intro v3 v4 M L H locs ls hD; cases hD
    | succ f38 ih38 =>
      intro v3 v4 M L H locs ls hD hw hl
      replace hD : fX17_tick_i38 fu a1 (fX17_tick_h38 fu a1 f38) v3 v4 M L = some (r0, M0, L0) := hD
      have hb63 : ∀ (v3 : Int32) (v4 : Int32) (M : mwM) (L : mwL) (H : Heap) (locs : List Loc) (ls : Array Slot), fX17_tick_b63 fu a1 (fX17_tick_h38 fu a1 f38) v3 v4 M L = some (r0, M0, L0) → mw_W G ad NF TF FF M L H locs → lv_has ls 5 [(0, .ref (ad 869)), (1, .long a1), (3, .int v3), (4, .int v4)] → W p l e ({ frames := 3, cells := 0, slots := 0, locals := 71 }) s m [.ref (ad 869), .long a1].toArray below meth c H locs 0 0 (MQ below (mw_Qi G ad NF TF FF (mw_eqI r0 M0 L0)) [.ref (ad 869), .long a1].toArray s 0 0 (mw_fr G)) (F0 m 63 ls []) := by
        intro v3 v4 M L H locs ls hD hw hl
        unfold fX17_tick_b63 at hD
        obtain ⟨x8, ex8, hD⟩ := g_let hD
        refine lv_iinc (v := x8) (lv' := [(4, .int x8), (0, .ref (ad 869)), (1, .long a1), (3, .int v3)]) C.1.1 C.1.2.1 dX17_tick_63 hl (k := 3) rfl (by rw [ex8]; rfl) (by decide) rfl (fun ls hl => ?_)
        refine lv_goto (tgt := 38) C.1.1 C.1.2.1 dX17_tick_66 (by decide) ?_
        exact ih38 v3 x8 M L _ _ ls hD hw (lv_sub hl [1, 2, 3, 0] rfl)
      unfold fX17_tick_i38 at hD
      refine lv_iload C.1.1 C.1.2.1 dX17_tick_38 (lv_at hl 3 rfl) ?_
      refine lv_aload_n C.1.1 C.1.2.1 dX17_tick_40 rfl (lv_at hl 0 rfl) ?_
      refine mr_getI C hw kc_17 3 (by decide) tf_869 wd_2334 dX17_tick_41 (by decide) rfl ?_
      refine lv_icmp_gt (tgt := 69) C.1.1 C.1.2.1 dX17_tick_44 (by decide) (fun c1 => ?_) (fun c1 => ?_)
      · replace hD := g_pos c1 hD
        refine lv_aload_n C.1.1 C.1.2.1 dX17_tick_69 rfl (lv_at hl 0 rfl) ?_
        obtain ⟨M2, L3, h1, hD⟩ := g_b2 hD
        refine md_cvV (As := []) (rest := []) C hw (tX17_moment l G ad fu M L h1) kc_17 (by decide) tf_869 wd_4168 cwX17_moment ⟨Nat.le_of_ble_eq_true rfl, Nat.le_of_ble_eq_true rfl⟩ rfl hl.1 (Nat.le_of_ble_eq_true rfl) dX17_tick_70 rfl rfl ⟨Nat.zero_le _, Nat.zero_le _⟩ rfl (fun H locs hw => ?_)
        exact hh73 fu v3 M2 L3 _ _ ls hD hw (lv_sub hl [0, 1, 2] rfl)
      · replace hD := g_neg c1 hD
        refine lv_aload_n C.1.1 C.1.2.1 dX17_tick_47 rfl (lv_at hl 0 rfl) ?_
        refine mr_getR C hw kc_17 6 (by decide) tf_869 ff_869_6 wd_2337 dX17_tick_48 (by decide) rfl ?_
        refine lv_iload C.1.1 C.1.2.1 dX17_tick_51 (lv_at hl 3 rfl) ?_
        obtain ⟨q4, hD⟩ := g_ck hD
        refine mr_zald C hw (by decide) tf_872 q4 dX17_tick_53 ?_
        refine lv_if_ne (tgt := 63) C.1.1 C.1.2.1 dX17_tick_54 (by decide) (fun c5 => ?_) (fun c5 => ?_)
        · replace hD := g_neg c5 hD
          exact hb63 v3 v4 M L _ _ ls hD hw (lv_sub hl [0, 1, 2, 3] rfl)
        · replace hD := g_pos c5 hD
          refine lv_aload_n C.1.1 C.1.2.1 dX17_tick_57 rfl (lv_at hl 0 rfl) ?_
          refine lv_iload C.1.1 C.1.2.1 dX17_tick_58 (lv_at hl 3 rfl) ?_
          obtain ⟨M6, L7, h1, hD⟩ := g_b2 hD
          refine md_cvV (As := [.int v4]) (rest := []) C hw (tX17_start l G ad fu v4 M L h1) kc_17 (by decide) tf_869 wd_4160 cwX17_start ⟨Nat.le_of_ble_eq_true rfl, Nat.le_of_ble_eq_true rfl⟩ rfl hl.1 (Nat.le_of_ble_eq_true rfl) dX17_tick_60 rfl rfl ⟨Nat.zero_le _, Nat.zero_le _⟩ rfl (fun H locs hw => ?_)
          exact hb63 v3 v4 M6 L7 _ _ ls hD hw (lv_sub hl [0, 1, 2, 3] rfl)
  unfold DX17_tick at hD
  refine lv_aload_n C.1.1 C.1.2.1 dX17_tick_0 rfl (lv_at hl 0 rfl) ?_
  refine lv_iconst (v := 0) C.1.1 C.1.2.1 dX17_tick_1 (by decide) ?_
  obtain ⟨M16, eM16, hD⟩ := g_let hD
  refine mr_putI C hw kc_17 0 (by decide) tf_869 wd_2331 dX17_tick_2 (by decide) rfl rfl rfl rfl (fun H locs hw => ?_)
  replace hw : mw_W G ad NF TF FF M16 L H locs := by rw [eM16]; exact hw
  refine lv_lload_n C.1.1 C.1.2.1 dX17_tick_5 rfl (lv_at hl 1 rfl) ?_
  refine lv_aload_n C.1.1 C.1.2.1 dX17_tick_6 rfl (lv_at hl 0 rfl) ?_
  refine mr_getL C hw kc_17 2 (by decide) tf_869 wd_2333 dX17_tick_7 (by decide) rfl ?_
  refine W.lcmp C.1.1 C.1.2.1 dX17_tick_10 ?_
  refine lv_if_lt (tgt := 27) C.1.1 C.1.2.1 dX17_tick_11 (by decide) (fun c17 => ?_) (fun c17 => ?_)
  · replace hD := g_pos c17 hD
    exact hb27 M16 L _ _ ls hD hw (lv_sub hl [] rfl)
  · replace hD := g_neg c17 hD
    refine lv_lload_n C.1.1 C.1.2.1 dX17_tick_14 rfl (lv_at hl 1 rfl) ?_
    refine lv_aload_n C.1.1 C.1.2.1 dX17_tick_15 rfl (lv_at hl 0 rfl) ?_
    refine mr_getL C hw kc_17 2 (by decide) tf_869 wd_2333 dX17_tick_16 (by decide) rfl ?_
    refine lv_lsub C.1.1 C.1.2.1 dX17_tick_19 ?_
    refine lv_ldc2 (v := 5000) C.1.1 C.1.2.1 C.1.2.2.2.1 (C.1.2.2.2.2 _ wd_4155) dX17_tick_20 ?_
    refine W.lcmp C.1.1 C.1.2.1 dX17_tick_23 ?_
    refine lv_if_le (tgt := 30) C.1.1 C.1.2.1 dX17_tick_24 (by decide) (fun c18 => ?_) (fun c18 => ?_)
    · replace hD := g_pos c18 hD
      refine lv_aload_n C.1.1 C.1.2.1 dX17_tick_30 rfl (lv_at hl 0 rfl) ?_
      obtain ⟨r21, M19, L20, h1, hD⟩ := g_b3 hD
      refine md_cvI (As := []) (rest := []) C hw (tX17_sum l G ad fu M16 L h1) kc_17 (by decide) tf_869 wd_4156 cwX17_sum ⟨Nat.le_of_ble_eq_true rfl, Nat.le_of_ble_eq_true rfl⟩ rfl hl.1 (Nat.le_of_ble_eq_true rfl) dX17_tick_31 rfl rfl ⟨Nat.zero_le _, Nat.zero_le _⟩ rfl (fun H locs hw => ?_)
      refine lv_istore_n (lv' := [(3, .int r21), (0, .ref (ad 869)), (1, .long a1)]) C.1.1 C.1.2.1 dX17_tick_34 rfl hl (by decide) rfl (fun ls hl => ?_)
      refine lv_iconst (v := 1) C.1.1 C.1.2.1 dX17_tick_35 (by decide) ?_
      refine lv_istore (lv' := [(4, .int 1), (3, .int r21), (0, .ref (ad 869)), (1, .long a1)]) C.1.1 C.1.2.1 dX17_tick_36 hl (by decide) rfl (fun ls hl => ?_)
      exact hh38 fu r21 1 M19 L20 _ _ ls hD hw (lv_sub hl [2, 3, 1, 0] rfl)
    · replace hD := g_neg c18 hD
      exact hb27 M16 L _ _ ls hD hw (lv_sub hl [] rfl)

theorem dX17_receive_0 : decode cX17_receive 0 = .ok (.aload_n 0, 1) := by decide +kernel
theorem dX17_receive_1 : decode cX17_receive 1 = .ok (.iconst 0, 1) := by decide +kernel
theorem dX17_receive_2 : decode cX17_receive 2 = .ok (.putfield 144, 3) := by decide +kernel
theorem dX17_receive_5 : decode cX17_receive 5 = .ok (.iload_n 1, 1) := by decide +kernel
theorem dX17_receive_6 : decode cX17_receive 6 = .ok (.iconst 1, 1) := by decide +kernel
theorem dX17_receive_7 : decode cX17_receive 7 = .ok (.if_icmp .lt 11, 3) := by decide +kernel
theorem dX17_receive_10 : decode cX17_receive 10 = .ok (.iload_n 1, 1) := by decide +kernel
theorem dX17_receive_11 : decode cX17_receive 11 = .ok (.aload_n 0, 1) := by decide +kernel
theorem dX17_receive_12 : decode cX17_receive 12 = .ok (.getfield 125, 3) := by decide +kernel
theorem dX17_receive_15 : decode cX17_receive 15 = .ok (.if_icmp .le 5, 3) := by decide +kernel
theorem dX17_receive_18 : decode cX17_receive 18 = .ok (.iconst (-1), 1) := by decide +kernel
theorem dX17_receive_19 : decode cX17_receive 19 = .ok (.ireturn, 1) := by decide +kernel
theorem dX17_receive_20 : decode cX17_receive 20 = .ok (.aload_n 0, 1) := by decide +kernel
theorem dX17_receive_21 : decode cX17_receive 21 = .ok (.getfield 98, 3) := by decide +kernel
theorem dX17_receive_24 : decode cX17_receive 24 = .ok (.iload_n 1, 1) := by decide +kernel
theorem dX17_receive_25 : decode cX17_receive 25 = .ok (.baload, 1) := by decide +kernel
theorem dX17_receive_26 : decode cX17_receive 26 = .ok (.ifCond .eq 6, 3) := by decide +kernel
theorem dX17_receive_29 : decode cX17_receive 29 = .ok (.bipush (-3), 2) := by decide +kernel
theorem dX17_receive_31 : decode cX17_receive 31 = .ok (.ireturn, 1) := by decide +kernel
theorem dX17_receive_32 : decode cX17_receive 32 = .ok (.aload_n 0, 1) := by decide +kernel
theorem dX17_receive_33 : decode cX17_receive 33 = .ok (.getfield 98, 3) := by decide +kernel
theorem dX17_receive_36 : decode cX17_receive 36 = .ok (.iload_n 1, 1) := by decide +kernel
theorem dX17_receive_37 : decode cX17_receive 37 = .ok (.iconst 1, 1) := by decide +kernel
theorem dX17_receive_38 : decode cX17_receive 38 = .ok (.bastore, 1) := by decide +kernel
theorem dX17_receive_39 : decode cX17_receive 39 = .ok (.aload_n 0, 1) := by decide +kernel
theorem dX17_receive_40 : decode cX17_receive 40 = .ok (.getfield 80, 3) := by decide +kernel
theorem dX17_receive_43 : decode cX17_receive 43 = .ok (.iload_n 1, 1) := by decide +kernel
theorem dX17_receive_44 : decode cX17_receive 44 = .ok (.iaload, 1) := by decide +kernel
theorem dX17_receive_45 : decode cX17_receive 45 = .ok (.iconst 3, 1) := by decide +kernel
theorem dX17_receive_46 : decode cX17_receive 46 = .ok (.if_icmp .ne 11, 3) := by decide +kernel
theorem dX17_receive_49 : decode cX17_receive 49 = .ok (.aload_n 0, 1) := by decide +kernel
theorem dX17_receive_50 : decode cX17_receive 50 = .ok (.iload_n 1, 1) := by decide +kernel
theorem dX17_receive_51 : decode cX17_receive 51 = .ok (.invokevirtual 202, 3) := by decide +kernel
theorem dX17_receive_54 : decode cX17_receive 54 = .ok (.goto 8, 3) := by decide +kernel
theorem dX17_receive_57 : decode cX17_receive 57 = .ok (.aload_n 0, 1) := by decide +kernel
theorem dX17_receive_58 : decode cX17_receive 58 = .ok (.iload_n 1, 1) := by decide +kernel
theorem dX17_receive_59 : decode cX17_receive 59 = .ok (.invokevirtual 205, 3) := by decide +kernel
theorem dX17_receive_62 : decode cX17_receive 62 = .ok (.ireturn, 1) := by decide +kernel
theorem cwX17_receive : mw_cwV yX17_receive cX17_receive 2 ((some .int)) 1 := ⟨⟨wd_17, wd_3935, by decide +kernel⟩, wd_3933, wd_3934⟩
set_option maxHeartbeats 4000000 in
set_option maxRecDepth 100000 in
theorem tX17_receive (l : Launch) (G : mwG) (ad : Nat → Nat) (fu : Nat) (a1 : Int32) (M : mwM) (L : mwL) {r0 : Int32} {M0 : mwM} {L0 : mwL} (hD : DX17_receive fu a1 M L = some (r0, M0, L0)) : Met l yX17_receive (Cond.code yX17_receive cX17_receive 2 ((some .int)) :: GT) ({ frames := 4, cells := 0, slots := 0, locals := 90 }) (mw_Pre G ad NF TF FF M L [.ref (ad 869), .int a1]) (mw_Qi G ad NF TF FF (mw_eqI r0 M0 L0)) 0 0 (mw_fr G) := by
  refine mw_enter (by decide) (Nat.le_of_ble_eq_true rfl) ?_
  intro p e s m below meth c ls C hr hlocks hnm hw hl
  have hl : lv_has ls 2 [(0, .ref (ad 869)), (1, .int a1)] := hl
  have hb18 : ∀ (M : mwM) (L : mwL) (H : Heap) (locs : List Loc) (ls : Array Slot), fX17_receive_b18 fu a1 M L = some (r0, M0, L0) → mw_W G ad NF TF FF M L H locs → lv_has ls 2 [] → W p l e ({ frames := 4, cells := 0, slots := 0, locals := 90 }) s m [.ref (ad 869), .int a1].toArray below meth c H locs 0 0 (MQ below (mw_Qi G ad NF TF FF (mw_eqI r0 M0 L0)) [.ref (ad 869), .int a1].toArray s 0 0 (mw_fr G)) (F0 m 18 ls []) := by
    intro M L H locs ls hD hw hl
    unfold fX17_receive_b18 at hD
    refine lv_iconst (v := (-1)) C.1.1 C.1.2.1 dX17_receive_18 (by decide) ?_
    exact mr_iret C hr hlocks hw rfl (Option.some.inj hD) dX17_receive_19
  have hb62 : ∀ (s0 : Int32) (M : mwM) (L : mwL) (H : Heap) (locs : List Loc) (ls : Array Slot), fX17_receive_b62 fu a1 s0 M L = some (r0, M0, L0) → mw_W G ad NF TF FF M L H locs → lv_has ls 2 [] → W p l e ({ frames := 4, cells := 0, slots := 0, locals := 90 }) s m [.ref (ad 869), .int a1].toArray below meth c H locs 0 0 (MQ below (mw_Qi G ad NF TF FF (mw_eqI r0 M0 L0)) [.ref (ad 869), .int a1].toArray s 0 0 (mw_fr G)) (F0 m 62 ls [.int s0]) := by
    intro s0 M L H locs ls hD hw hl
    unfold fX17_receive_b62 at hD
    exact mr_iret C hr hlocks hw rfl (Option.some.inj hD) dX17_receive_62
  unfold DX17_receive at hD
  refine lv_aload_n C.1.1 C.1.2.1 dX17_receive_0 rfl (lv_at hl 0 rfl) ?_
  refine lv_iconst (v := 0) C.1.1 C.1.2.1 dX17_receive_1 (by decide) ?_
  obtain ⟨M1, eM1, hD⟩ := g_let hD
  refine mr_putI C hw kc_17 0 (by decide) tf_869 wd_2331 dX17_receive_2 (by decide) rfl rfl rfl rfl (fun H locs hw => ?_)
  replace hw : mw_W G ad NF TF FF M1 L H locs := by rw [eM1]; exact hw
  refine lv_iload_n C.1.1 C.1.2.1 dX17_receive_5 rfl (lv_at hl 1 rfl) ?_
  refine lv_iconst (v := 1) C.1.1 C.1.2.1 dX17_receive_6 (by decide) ?_
  refine lv_icmp_lt (tgt := 18) C.1.1 C.1.2.1 dX17_receive_7 (by decide) (fun c2 => ?_) (fun c2 => ?_)
  · replace hD := g_pos c2 hD
    exact hb18 M1 L _ _ ls hD hw (lv_sub hl [] rfl)
  · replace hD := g_neg c2 hD
    refine lv_iload_n C.1.1 C.1.2.1 dX17_receive_10 rfl (lv_at hl 1 rfl) ?_
    refine lv_aload_n C.1.1 C.1.2.1 dX17_receive_11 rfl (lv_at hl 0 rfl) ?_
    refine mr_getI C hw kc_17 26 (by decide) tf_869 wd_2357 dX17_receive_12 (by decide) rfl ?_
    refine lv_icmp_le (tgt := 20) C.1.1 C.1.2.1 dX17_receive_15 (by decide) (fun c3 => ?_) (fun c3 => ?_)
    · replace hD := g_pos c3 hD
      refine lv_aload_n C.1.1 C.1.2.1 dX17_receive_20 rfl (lv_at hl 0 rfl) ?_
      refine mr_getR C hw kc_17 33 (by decide) tf_869 ff_869_33 wd_2364 dX17_receive_21 (by decide) rfl ?_
      refine lv_iload_n C.1.1 C.1.2.1 dX17_receive_24 rfl (lv_at hl 1 rfl) ?_
      obtain ⟨q4, hD⟩ := g_ck hD
      refine mr_zald C hw (by decide) tf_898 q4 dX17_receive_25 ?_
      refine lv_if_eq (tgt := 32) C.1.1 C.1.2.1 dX17_receive_26 (by decide) (fun c5 => ?_) (fun c5 => ?_)
      · replace hD := g_pos c5 hD
        refine lv_aload_n C.1.1 C.1.2.1 dX17_receive_32 rfl (lv_at hl 0 rfl) ?_
        refine mr_getR C hw kc_17 33 (by decide) tf_869 ff_869_33 wd_2364 dX17_receive_33 (by decide) rfl ?_
        refine lv_iload_n C.1.1 C.1.2.1 dX17_receive_36 rfl (lv_at hl 1 rfl) ?_
        refine lv_iconst (v := 1) C.1.1 C.1.2.1 dX17_receive_37 (by decide) ?_
        obtain ⟨q6, hD⟩ := g_ck hD
        obtain ⟨M7, eM7, hD⟩ := g_let hD
        refine mr_zast C hw (by decide) tf_898 q6 dX17_receive_38 (fun H locs hw => ?_)
        replace hw : mw_W G ad NF TF FF M7 L H locs := by rw [eM7]; exact hw
        refine lv_aload_n C.1.1 C.1.2.1 dX17_receive_39 rfl (lv_at hl 0 rfl) ?_
        refine mr_getR C hw kc_17 27 (by decide) tf_869 ff_869_27 wd_2358 dX17_receive_40 (by decide) rfl ?_
        refine lv_iload_n C.1.1 C.1.2.1 dX17_receive_43 rfl (lv_at hl 1 rfl) ?_
        obtain ⟨q8, hD⟩ := g_ck hD
        refine mr_iald C hw (by decide) tf_892 q8 dX17_receive_44 ?_
        refine lv_iconst (v := 3) C.1.1 C.1.2.1 dX17_receive_45 (by decide) ?_
        refine lv_icmp_ne (tgt := 57) C.1.1 C.1.2.1 dX17_receive_46 (by decide) (fun c9 => ?_) (fun c9 => ?_)
        · replace hD := g_neg c9 hD
          refine lv_aload_n C.1.1 C.1.2.1 dX17_receive_57 rfl (lv_at hl 0 rfl) ?_
          refine lv_iload_n C.1.1 C.1.2.1 dX17_receive_58 rfl (lv_at hl 1 rfl) ?_
          obtain ⟨r12, M10, L11, h1, hD⟩ := g_b3 hD
          refine md_cvI (As := [.int a1]) (rest := []) C hw (tX17_take l G ad fu a1 M7 L h1) kc_17 (by decide) tf_869 wd_3944 cwX17_take ⟨Nat.le_of_ble_eq_true rfl, Nat.le_of_ble_eq_true rfl⟩ rfl hl.1 (Nat.le_of_ble_eq_true rfl) dX17_receive_59 rfl rfl ⟨Nat.zero_le _, Nat.zero_le _⟩ rfl (fun H locs hw => ?_)
          exact hb62 r12 M10 L11 _ _ ls hD hw (lv_sub hl [] rfl)
        · replace hD := g_pos c9 hD
          refine lv_aload_n C.1.1 C.1.2.1 dX17_receive_49 rfl (lv_at hl 0 rfl) ?_
          refine lv_iload_n C.1.1 C.1.2.1 dX17_receive_50 rfl (lv_at hl 1 rfl) ?_
          obtain ⟨r15, M13, L14, h1, hD⟩ := g_b3 hD
          refine md_cvI (As := [.int a1]) (rest := []) C hw (tX17_takeFlow l G ad fu a1 M7 L h1) kc_17 (by decide) tf_869 wd_3936 cwX17_takeFlow ⟨Nat.le_of_ble_eq_true rfl, Nat.le_of_ble_eq_true rfl⟩ rfl hl.1 (Nat.le_of_ble_eq_true rfl) dX17_receive_51 rfl rfl ⟨Nat.zero_le _, Nat.zero_le _⟩ rfl (fun H locs hw => ?_)
          refine lv_goto (tgt := 62) C.1.1 C.1.2.1 dX17_receive_54 (by decide) ?_
          exact hb62 r15 M13 L14 _ _ ls hD hw (lv_sub hl [] rfl)
      · replace hD := g_neg c5 hD
        refine lv_bipush (v := (-3)) C.1.1 C.1.2.1 dX17_receive_29 (by decide) ?_
        exact mr_iret C hr hlocks hw rfl (Option.some.inj hD) dX17_receive_31
    · replace hD := g_neg c3 hD
      exact hb18 M1 L _ _ ls hD hw (lv_sub hl [] rfl)

theorem dX17_lose_0 : decode cX17_lose 0 = .ok (.aload_n 0, 1) := by decide +kernel
theorem dX17_lose_1 : decode cX17_lose 1 = .ok (.iconst 0, 1) := by decide +kernel
theorem dX17_lose_2 : decode cX17_lose 2 = .ok (.putfield 144, 3) := by decide +kernel
theorem dX17_lose_5 : decode cX17_lose 5 = .ok (.iload_n 1, 1) := by decide +kernel
theorem dX17_lose_6 : decode cX17_lose 6 = .ok (.iconst 1, 1) := by decide +kernel
theorem dX17_lose_7 : decode cX17_lose 7 = .ok (.if_icmp .lt 24, 3) := by decide +kernel
theorem dX17_lose_10 : decode cX17_lose 10 = .ok (.iload_n 1, 1) := by decide +kernel
theorem dX17_lose_11 : decode cX17_lose 11 = .ok (.aload_n 0, 1) := by decide +kernel
theorem dX17_lose_12 : decode cX17_lose 12 = .ok (.getfield 125, 3) := by decide +kernel
theorem dX17_lose_15 : decode cX17_lose 15 = .ok (.if_icmp .gt 16, 3) := by decide +kernel
theorem dX17_lose_18 : decode cX17_lose 18 = .ok (.aload_n 0, 1) := by decide +kernel
theorem dX17_lose_19 : decode cX17_lose 19 = .ok (.getfield 98, 3) := by decide +kernel
theorem dX17_lose_22 : decode cX17_lose 22 = .ok (.iload_n 1, 1) := by decide +kernel
theorem dX17_lose_23 : decode cX17_lose 23 = .ok (.baload, 1) := by decide +kernel
theorem dX17_lose_24 : decode cX17_lose 24 = .ok (.ifCond .ne 7, 3) := by decide +kernel
theorem dX17_lose_27 : decode cX17_lose 27 = .ok (.iconst 1, 1) := by decide +kernel
theorem dX17_lose_28 : decode cX17_lose 28 = .ok (.goto 4, 3) := by decide +kernel
theorem dX17_lose_31 : decode cX17_lose 31 = .ok (.iconst 0, 1) := by decide +kernel
theorem dX17_lose_32 : decode cX17_lose 32 = .ok (.istore_n 2, 1) := by decide +kernel
theorem dX17_lose_33 : decode cX17_lose 33 = .ok (.iload_n 2, 1) := by decide +kernel
theorem dX17_lose_34 : decode cX17_lose 34 = .ok (.ifCond .eq 10, 3) := by decide +kernel
theorem dX17_lose_37 : decode cX17_lose 37 = .ok (.aload_n 0, 1) := by decide +kernel
theorem dX17_lose_38 : decode cX17_lose 38 = .ok (.getfield 98, 3) := by decide +kernel
theorem dX17_lose_41 : decode cX17_lose 41 = .ok (.iload_n 1, 1) := by decide +kernel
theorem dX17_lose_42 : decode cX17_lose 42 = .ok (.iconst 1, 1) := by decide +kernel
theorem dX17_lose_43 : decode cX17_lose 43 = .ok (.bastore, 1) := by decide +kernel
theorem dX17_lose_44 : decode cX17_lose 44 = .ok (.iload_n 2, 1) := by decide +kernel
theorem dX17_lose_45 : decode cX17_lose 45 = .ok (.ireturn, 1) := by decide +kernel
theorem cwX17_lose : mw_cwV yX17_lose cX17_lose 3 ((some .boolean)) 1 := ⟨⟨wd_17, wd_4185, by decide +kernel⟩, wd_4183, wd_4184⟩
set_option maxHeartbeats 4000000 in
set_option maxRecDepth 100000 in
theorem tX17_lose (l : Launch) (G : mwG) (ad : Nat → Nat) (fu : Nat) (a1 : Int32) (M : mwM) (L : mwL) {r0 : Int32} {M0 : mwM} {L0 : mwL} (hD : DX17_lose fu a1 M L = some (r0, M0, L0)) : Met l yX17_lose (Cond.code yX17_lose cX17_lose 3 ((some .boolean)) :: GT) ({ frames := 0, cells := 0, slots := 0, locals := 0 }) (mw_Pre G ad NF TF FF M L [.ref (ad 869), .int a1]) (mw_Qi G ad NF TF FF (mw_eqI r0 M0 L0)) 0 0 (mw_fr G) := by
  refine mw_enter (by decide) (Nat.le_of_ble_eq_true rfl) ?_
  intro p e s m below meth c ls C hr hlocks hnm hw hl
  have hl : lv_has ls 3 [(0, .ref (ad 869)), (1, .int a1)] := hl
  have hb44 : ∀ (v2 : Int32) (M : mwM) (L : mwL) (H : Heap) (locs : List Loc) (ls : Array Slot), fX17_lose_b44 fu a1 v2 M L = some (r0, M0, L0) → mw_W G ad NF TF FF M L H locs → lv_has ls 3 [(2, .int v2)] → W p l e ({ frames := 0, cells := 0, slots := 0, locals := 0 }) s m [.ref (ad 869), .int a1].toArray below meth c H locs 0 0 (MQ below (mw_Qi G ad NF TF FF (mw_eqI r0 M0 L0)) [.ref (ad 869), .int a1].toArray s 0 0 (mw_fr G)) (F0 m 44 ls []) := by
    intro v2 M L H locs ls hD hw hl
    unfold fX17_lose_b44 at hD
    refine lv_iload_n C.1.1 C.1.2.1 dX17_lose_44 rfl (lv_at hl 0 rfl) ?_
    obtain ⟨z4, hD⟩ := g_zz hD
    exact mr_iret C hr hlocks hw (nz_zz z4) (Option.some.inj hD) dX17_lose_45
  have hb32 : ∀ (s0 : Int32) (M : mwM) (L : mwL) (H : Heap) (locs : List Loc) (ls : Array Slot), fX17_lose_b32 fu a1 s0 M L = some (r0, M0, L0) → mw_W G ad NF TF FF M L H locs → lv_has ls 3 [(0, .ref (ad 869)), (1, .int a1)] → W p l e ({ frames := 0, cells := 0, slots := 0, locals := 0 }) s m [.ref (ad 869), .int a1].toArray below meth c H locs 0 0 (MQ below (mw_Qi G ad NF TF FF (mw_eqI r0 M0 L0)) [.ref (ad 869), .int a1].toArray s 0 0 (mw_fr G)) (F0 m 32 ls [.int s0]) := by
    intro s0 M L H locs ls hD hw hl
    unfold fX17_lose_b32 at hD
    refine lv_istore_n (lv' := [(2, .int s0), (0, .ref (ad 869)), (1, .int a1)]) C.1.1 C.1.2.1 dX17_lose_32 rfl hl (by decide) rfl (fun ls hl => ?_)
    refine lv_iload_n C.1.1 C.1.2.1 dX17_lose_33 rfl (lv_at hl 0 rfl) ?_
    refine lv_if_eq (tgt := 44) C.1.1 C.1.2.1 dX17_lose_34 (by decide) (fun c1 => ?_) (fun c1 => ?_)
    · replace hD := g_pos c1 hD
      exact hb44 s0 M L _ _ ls hD hw (lv_sub hl [0] rfl)
    · replace hD := g_neg c1 hD
      refine lv_aload_n C.1.1 C.1.2.1 dX17_lose_37 rfl (lv_at hl 1 rfl) ?_
      refine mr_getR C hw kc_17 33 (by decide) tf_869 ff_869_33 wd_2364 dX17_lose_38 (by decide) rfl ?_
      refine lv_iload_n C.1.1 C.1.2.1 dX17_lose_41 rfl (lv_at hl 2 rfl) ?_
      refine lv_iconst (v := 1) C.1.1 C.1.2.1 dX17_lose_42 (by decide) ?_
      obtain ⟨q2, hD⟩ := g_ck hD
      obtain ⟨M3, eM3, hD⟩ := g_let hD
      refine mr_zast C hw (by decide) tf_898 q2 dX17_lose_43 (fun H locs hw => ?_)
      replace hw : mw_W G ad NF TF FF M3 L H locs := by rw [eM3]; exact hw
      exact hb44 s0 M3 L _ _ ls hD hw (lv_sub hl [0] rfl)
  have hb31 : ∀ (M : mwM) (L : mwL) (H : Heap) (locs : List Loc) (ls : Array Slot), fX17_lose_b31 fu a1 M L = some (r0, M0, L0) → mw_W G ad NF TF FF M L H locs → lv_has ls 3 [(0, .ref (ad 869)), (1, .int a1)] → W p l e ({ frames := 0, cells := 0, slots := 0, locals := 0 }) s m [.ref (ad 869), .int a1].toArray below meth c H locs 0 0 (MQ below (mw_Qi G ad NF TF FF (mw_eqI r0 M0 L0)) [.ref (ad 869), .int a1].toArray s 0 0 (mw_fr G)) (F0 m 31 ls []) := by
    intro M L H locs ls hD hw hl
    unfold fX17_lose_b31 at hD
    refine lv_iconst (v := 0) C.1.1 C.1.2.1 dX17_lose_31 (by decide) ?_
    exact hb32 0 M L _ _ ls hD hw (lv_sub hl [0, 1] rfl)
  unfold DX17_lose at hD
  refine lv_aload_n C.1.1 C.1.2.1 dX17_lose_0 rfl (lv_at hl 0 rfl) ?_
  refine lv_iconst (v := 0) C.1.1 C.1.2.1 dX17_lose_1 (by decide) ?_
  obtain ⟨M5, eM5, hD⟩ := g_let hD
  refine mr_putI C hw kc_17 0 (by decide) tf_869 wd_2331 dX17_lose_2 (by decide) rfl rfl rfl rfl (fun H locs hw => ?_)
  replace hw : mw_W G ad NF TF FF M5 L H locs := by rw [eM5]; exact hw
  refine lv_iload_n C.1.1 C.1.2.1 dX17_lose_5 rfl (lv_at hl 1 rfl) ?_
  refine lv_iconst (v := 1) C.1.1 C.1.2.1 dX17_lose_6 (by decide) ?_
  refine lv_icmp_lt (tgt := 31) C.1.1 C.1.2.1 dX17_lose_7 (by decide) (fun c6 => ?_) (fun c6 => ?_)
  · replace hD := g_pos c6 hD
    exact hb31 M5 L _ _ ls hD hw (lv_sub hl [0, 1] rfl)
  · replace hD := g_neg c6 hD
    refine lv_iload_n C.1.1 C.1.2.1 dX17_lose_10 rfl (lv_at hl 1 rfl) ?_
    refine lv_aload_n C.1.1 C.1.2.1 dX17_lose_11 rfl (lv_at hl 0 rfl) ?_
    refine mr_getI C hw kc_17 26 (by decide) tf_869 wd_2357 dX17_lose_12 (by decide) rfl ?_
    refine lv_icmp_gt (tgt := 31) C.1.1 C.1.2.1 dX17_lose_15 (by decide) (fun c7 => ?_) (fun c7 => ?_)
    · replace hD := g_pos c7 hD
      exact hb31 M5 L _ _ ls hD hw (lv_sub hl [0, 1] rfl)
    · replace hD := g_neg c7 hD
      refine lv_aload_n C.1.1 C.1.2.1 dX17_lose_18 rfl (lv_at hl 0 rfl) ?_
      refine mr_getR C hw kc_17 33 (by decide) tf_869 ff_869_33 wd_2364 dX17_lose_19 (by decide) rfl ?_
      refine lv_iload_n C.1.1 C.1.2.1 dX17_lose_22 rfl (lv_at hl 1 rfl) ?_
      obtain ⟨q8, hD⟩ := g_ck hD
      refine mr_zald C hw (by decide) tf_898 q8 dX17_lose_23 ?_
      refine lv_if_ne (tgt := 31) C.1.1 C.1.2.1 dX17_lose_24 (by decide) (fun c9 => ?_) (fun c9 => ?_)
      · replace hD := g_neg c9 hD
        exact hb31 M5 L _ _ ls hD hw (lv_sub hl [0, 1] rfl)
      · replace hD := g_pos c9 hD
        refine lv_iconst (v := 1) C.1.1 C.1.2.1 dX17_lose_27 (by decide) ?_
        refine lv_goto (tgt := 32) C.1.1 C.1.2.1 dX17_lose_28 (by decide) ?_
        exact hb32 1 M5 L _ _ ls hD hw (lv_sub hl [0, 1] rfl)

theorem dX17_frame_0 : decode cX17_frame 0 = .ok (.aload_n 0, 1) := by decide +kernel
theorem dX17_frame_1 : decode cX17_frame 1 = .ok (.iconst 0, 1) := by decide +kernel
theorem dX17_frame_2 : decode cX17_frame 2 = .ok (.putfield 144, 3) := by decide +kernel
theorem dX17_frame_5 : decode cX17_frame 5 = .ok (.iload_n 1, 1) := by decide +kernel
theorem dX17_frame_6 : decode cX17_frame 6 = .ok (.ifCond .ne 12, 3) := by decide +kernel
theorem dX17_frame_9 : decode cX17_frame 9 = .ok (.iload_n 2, 1) := by decide +kernel
theorem dX17_frame_10 : decode cX17_frame 10 = .ok (.ifCond .ne 8, 3) := by decide +kernel
theorem dX17_frame_13 : decode cX17_frame 13 = .ok (.aload_n 0, 1) := by decide +kernel
theorem dX17_frame_14 : decode cX17_frame 14 = .ok (.getfield 125, 3) := by decide +kernel
theorem dX17_frame_17 : decode cX17_frame 17 = .ok (.ireturn, 1) := by decide +kernel
theorem dX17_frame_18 : decode cX17_frame 18 = .ok (.iload_n 1, 1) := by decide +kernel
theorem dX17_frame_19 : decode cX17_frame 19 = .ok (.iconst 1, 1) := by decide +kernel
theorem dX17_frame_20 : decode cX17_frame 20 = .ok (.if_icmp .lt 11, 3) := by decide +kernel
theorem dX17_frame_23 : decode cX17_frame 23 = .ok (.iload_n 1, 1) := by decide +kernel
theorem dX17_frame_24 : decode cX17_frame 24 = .ok (.aload_n 0, 1) := by decide +kernel
theorem dX17_frame_25 : decode cX17_frame 25 = .ok (.getfield 125, 3) := by decide +kernel
theorem dX17_frame_28 : decode cX17_frame 28 = .ok (.if_icmp .le 5, 3) := by decide +kernel
theorem dX17_frame_31 : decode cX17_frame 31 = .ok (.iconst (-1), 1) := by decide +kernel
theorem dX17_frame_32 : decode cX17_frame 32 = .ok (.ireturn, 1) := by decide +kernel
theorem dX17_frame_33 : decode cX17_frame 33 = .ok (.iload_n 2, 1) := by decide +kernel
theorem dX17_frame_34 : decode cX17_frame 34 = .ok (.bipush 8, 2) := by decide +kernel
theorem dX17_frame_36 : decode cX17_frame 36 = .ok (.if_icmp .lt 55, 3) := by decide +kernel
theorem dX17_frame_39 : decode cX17_frame 39 = .ok (.iload_n 2, 1) := by decide +kernel
theorem dX17_frame_40 : decode cX17_frame 40 = .ok (.bipush 15, 2) := by decide +kernel
theorem dX17_frame_42 : decode cX17_frame 42 = .ok (.if_icmp .ge 49, 3) := by decide +kernel
theorem dX17_frame_45 : decode cX17_frame 45 = .ok (.aload_n 0, 1) := by decide +kernel
theorem dX17_frame_46 : decode cX17_frame 46 = .ok (.getfield 80, 3) := by decide +kernel
theorem dX17_frame_49 : decode cX17_frame 49 = .ok (.iload_n 1, 1) := by decide +kernel
theorem dX17_frame_50 : decode cX17_frame 50 = .ok (.iaload, 1) := by decide +kernel
theorem dX17_frame_51 : decode cX17_frame 51 = .ok (.iconst 3, 1) := by decide +kernel
theorem dX17_frame_52 : decode cX17_frame 52 = .ok (.if_icmp .ge 37, 3) := by decide +kernel
theorem dX17_frame_55 : decode cX17_frame 55 = .ok (.iload_n 2, 1) := by decide +kernel
theorem dX17_frame_56 : decode cX17_frame 56 = .ok (.bipush 8, 2) := by decide +kernel
theorem dX17_frame_58 : decode cX17_frame 58 = .ok (.isub, 1) := by decide +kernel
theorem dX17_frame_59 : decode cX17_frame 59 = .ok (.aload_n 0, 1) := by decide +kernel
theorem dX17_frame_60 : decode cX17_frame 60 = .ok (.getfield 89, 3) := by decide +kernel
theorem dX17_frame_63 : decode cX17_frame 63 = .ok (.iload_n 1, 1) := by decide +kernel
theorem dX17_frame_64 : decode cX17_frame 64 = .ok (.iaload, 1) := by decide +kernel
theorem dX17_frame_65 : decode cX17_frame 65 = .ok (.if_icmp .ge 24, 3) := by decide +kernel
theorem dX17_frame_68 : decode cX17_frame 68 = .ok (.aload_n 0, 1) := by decide +kernel
theorem dX17_frame_69 : decode cX17_frame 69 = .ok (.getfield 102, 3) := by decide +kernel
theorem dX17_frame_72 : decode cX17_frame 72 = .ok (.bipush 7, 2) := by decide +kernel
theorem dX17_frame_74 : decode cX17_frame 74 = .ok (.iload_n 1, 1) := by decide +kernel
theorem dX17_frame_75 : decode cX17_frame 75 = .ok (.imul, 1) := by decide +kernel
theorem dX17_frame_76 : decode cX17_frame 76 = .ok (.iload_n 2, 1) := by decide +kernel
theorem dX17_frame_77 : decode cX17_frame 77 = .ok (.iadd, 1) := by decide +kernel
theorem dX17_frame_78 : decode cX17_frame 78 = .ok (.bipush 8, 2) := by decide +kernel
theorem dX17_frame_80 : decode cX17_frame 80 = .ok (.isub, 1) := by decide +kernel
theorem dX17_frame_81 : decode cX17_frame 81 = .ok (.baload, 1) := by decide +kernel
theorem dX17_frame_82 : decode cX17_frame 82 = .ok (.sipush 255, 3) := by decide +kernel
theorem dX17_frame_85 : decode cX17_frame 85 = .ok (.iand, 1) := by decide +kernel
theorem dX17_frame_86 : decode cX17_frame 86 = .ok (.goto 4, 3) := by decide +kernel
theorem dX17_frame_89 : decode cX17_frame 89 = .ok (.iconst 0, 1) := by decide +kernel
theorem dX17_frame_90 : decode cX17_frame 90 = .ok (.ireturn, 1) := by decide +kernel
theorem dX17_frame_91 : decode cX17_frame 91 = .ok (.iload_n 2, 1) := by decide +kernel
theorem dX17_frame_92 : decode cX17_frame 92 = .ok (.ifCond .ne 10, 3) := by decide +kernel
theorem dX17_frame_95 : decode cX17_frame 95 = .ok (.aload_n 0, 1) := by decide +kernel
theorem dX17_frame_96 : decode cX17_frame 96 = .ok (.getfield 80, 3) := by decide +kernel
theorem dX17_frame_99 : decode cX17_frame 99 = .ok (.iload_n 1, 1) := by decide +kernel
theorem dX17_frame_100 : decode cX17_frame 100 = .ok (.iaload, 1) := by decide +kernel
theorem dX17_frame_101 : decode cX17_frame 101 = .ok (.ireturn, 1) := by decide +kernel
theorem dX17_frame_102 : decode cX17_frame 102 = .ok (.iload_n 2, 1) := by decide +kernel
theorem dX17_frame_103 : decode cX17_frame 103 = .ok (.iconst 1, 1) := by decide +kernel
theorem dX17_frame_104 : decode cX17_frame 104 = .ok (.if_icmp .ne 10, 3) := by decide +kernel
theorem dX17_frame_107 : decode cX17_frame 107 = .ok (.aload_n 0, 1) := by decide +kernel
theorem dX17_frame_108 : decode cX17_frame 108 = .ok (.getfield 83, 3) := by decide +kernel
theorem dX17_frame_111 : decode cX17_frame 111 = .ok (.iload_n 1, 1) := by decide +kernel
theorem dX17_frame_112 : decode cX17_frame 112 = .ok (.iaload, 1) := by decide +kernel
theorem dX17_frame_113 : decode cX17_frame 113 = .ok (.ireturn, 1) := by decide +kernel
theorem dX17_frame_114 : decode cX17_frame 114 = .ok (.iload_n 2, 1) := by decide +kernel
theorem dX17_frame_115 : decode cX17_frame 115 = .ok (.iconst 2, 1) := by decide +kernel
theorem dX17_frame_116 : decode cX17_frame 116 = .ok (.if_icmp .ne 10, 3) := by decide +kernel
theorem dX17_frame_119 : decode cX17_frame 119 = .ok (.aload_n 0, 1) := by decide +kernel
theorem dX17_frame_120 : decode cX17_frame 120 = .ok (.getfield 86, 3) := by decide +kernel
theorem dX17_frame_123 : decode cX17_frame 123 = .ok (.iload_n 1, 1) := by decide +kernel
theorem dX17_frame_124 : decode cX17_frame 124 = .ok (.iaload, 1) := by decide +kernel
theorem dX17_frame_125 : decode cX17_frame 125 = .ok (.ireturn, 1) := by decide +kernel
theorem dX17_frame_126 : decode cX17_frame 126 = .ok (.iload_n 2, 1) := by decide +kernel
theorem dX17_frame_127 : decode cX17_frame 127 = .ok (.iconst 3, 1) := by decide +kernel
theorem dX17_frame_128 : decode cX17_frame 128 = .ok (.if_icmp .ne 10, 3) := by decide +kernel
theorem dX17_frame_131 : decode cX17_frame 131 = .ok (.aload_n 0, 1) := by decide +kernel
theorem dX17_frame_132 : decode cX17_frame 132 = .ok (.getfield 89, 3) := by decide +kernel
theorem dX17_frame_135 : decode cX17_frame 135 = .ok (.iload_n 1, 1) := by decide +kernel
theorem dX17_frame_136 : decode cX17_frame 136 = .ok (.iaload, 1) := by decide +kernel
theorem dX17_frame_137 : decode cX17_frame 137 = .ok (.ireturn, 1) := by decide +kernel
theorem dX17_frame_138 : decode cX17_frame 138 = .ok (.iload_n 2, 1) := by decide +kernel
theorem dX17_frame_139 : decode cX17_frame 139 = .ok (.iconst 4, 1) := by decide +kernel
theorem dX17_frame_140 : decode cX17_frame 140 = .ok (.if_icmp .ne 11, 3) := by decide +kernel
theorem dX17_frame_143 : decode cX17_frame 143 = .ok (.aload_n 0, 1) := by decide +kernel
theorem dX17_frame_144 : decode cX17_frame 144 = .ok (.getfield 95, 3) := by decide +kernel
theorem dX17_frame_147 : decode cX17_frame 147 = .ok (.iload_n 1, 1) := by decide +kernel
theorem dX17_frame_148 : decode cX17_frame 148 = .ok (.laload, 1) := by decide +kernel
theorem dX17_frame_149 : decode cX17_frame 149 = .ok (.l2i, 1) := by decide +kernel
theorem dX17_frame_150 : decode cX17_frame 150 = .ok (.ireturn, 1) := by decide +kernel
theorem dX17_frame_151 : decode cX17_frame 151 = .ok (.iload_n 2, 1) := by decide +kernel
theorem dX17_frame_152 : decode cX17_frame 152 = .ok (.iconst 5, 1) := by decide +kernel
theorem dX17_frame_153 : decode cX17_frame 153 = .ok (.if_icmp .ne 12, 3) := by decide +kernel
theorem dX17_frame_156 : decode cX17_frame 156 = .ok (.aload_n 0, 1) := by decide +kernel
theorem dX17_frame_157 : decode cX17_frame 157 = .ok (.getfield 92, 3) := by decide +kernel
theorem dX17_frame_160 : decode cX17_frame 160 = .ok (.iload_n 1, 1) := by decide +kernel
theorem dX17_frame_161 : decode cX17_frame 161 = .ok (.iaload, 1) := by decide +kernel
theorem dX17_frame_162 : decode cX17_frame 162 = .ok (.goto 5, 3) := by decide +kernel
theorem dX17_frame_165 : decode cX17_frame 165 = .ok (.bipush (-2), 2) := by decide +kernel
theorem dX17_frame_167 : decode cX17_frame 167 = .ok (.ireturn, 1) := by decide +kernel
theorem cwX17_frame : mw_cwV yX17_frame cX17_frame 3 ((some .int)) 2 := ⟨⟨wd_17, wd_3987, by decide +kernel⟩, wd_3985, wd_3986⟩
set_option maxHeartbeats 4000000 in
set_option maxRecDepth 100000 in
theorem tX17_frame (l : Launch) (G : mwG) (ad : Nat → Nat) (fu : Nat) (a1 : Int32) (a2 : Int32) (M : mwM) (L : mwL) {r0 : Int32} {M0 : mwM} {L0 : mwL} (hD : DX17_frame fu a1 a2 M L = some (r0, M0, L0)) : Met l yX17_frame (Cond.code yX17_frame cX17_frame 3 ((some .int)) :: GT) ({ frames := 0, cells := 0, slots := 0, locals := 0 }) (mw_Pre G ad NF TF FF M L [.ref (ad 869), .int a1, .int a2]) (mw_Qi G ad NF TF FF (mw_eqI r0 M0 L0)) 0 0 (mw_fr G) := by
  refine mw_enter (by decide) (Nat.le_of_ble_eq_true rfl) ?_
  intro p e s m below meth c ls C hr hlocks hnm hw hl
  have hl : lv_has ls 3 [(0, .ref (ad 869)), (1, .int a1), (2, .int a2)] := hl
  have hb31 : ∀ (M : mwM) (L : mwL) (H : Heap) (locs : List Loc) (ls : Array Slot), fX17_frame_b31 fu a1 a2 M L = some (r0, M0, L0) → mw_W G ad NF TF FF M L H locs → lv_has ls 3 [] → W p l e ({ frames := 0, cells := 0, slots := 0, locals := 0 }) s m [.ref (ad 869), .int a1, .int a2].toArray below meth c H locs 0 0 (MQ below (mw_Qi G ad NF TF FF (mw_eqI r0 M0 L0)) [.ref (ad 869), .int a1, .int a2].toArray s 0 0 (mw_fr G)) (F0 m 31 ls []) := by
    intro M L H locs ls hD hw hl
    unfold fX17_frame_b31 at hD
    refine lv_iconst (v := (-1)) C.1.1 C.1.2.1 dX17_frame_31 (by decide) ?_
    exact mr_iret C hr hlocks hw rfl (Option.some.inj hD) dX17_frame_32
  have hb167 : ∀ (s0 : Int32) (M : mwM) (L : mwL) (H : Heap) (locs : List Loc) (ls : Array Slot), fX17_frame_b167 fu a1 a2 s0 M L = some (r0, M0, L0) → mw_W G ad NF TF FF M L H locs → lv_has ls 3 [] → W p l e ({ frames := 0, cells := 0, slots := 0, locals := 0 }) s m [.ref (ad 869), .int a1, .int a2].toArray below meth c H locs 0 0 (MQ below (mw_Qi G ad NF TF FF (mw_eqI r0 M0 L0)) [.ref (ad 869), .int a1, .int a2].toArray s 0 0 (mw_fr G)) (F0 m 167 ls [.int s0]) := by
    intro s0 M L H locs ls hD hw hl
    unfold fX17_frame_b167 at hD
    exact mr_iret C hr hlocks hw rfl (Option.some.inj hD) dX17_frame_167
  have hb91 : ∀ (M : mwM) (L : mwL) (H : Heap) (locs : List Loc) (ls : Array Slot), fX17_frame_b91 fu a1 a2 M L = some (r0, M0, L0) → mw_W G ad NF TF FF M L H locs → lv_has ls 3 [(0, .ref (ad 869)), (1, .int a1), (2, .int a2)] → W p l e ({ frames := 0, cells := 0, slots := 0, locals := 0 }) s m [.ref (ad 869), .int a1, .int a2].toArray below meth c H locs 0 0 (MQ below (mw_Qi G ad NF TF FF (mw_eqI r0 M0 L0)) [.ref (ad 869), .int a1, .int a2].toArray s 0 0 (mw_fr G)) (F0 m 91 ls []) := by
    intro M L H locs ls hD hw hl
    unfold fX17_frame_b91 at hD
    refine lv_iload_n C.1.1 C.1.2.1 dX17_frame_91 rfl (lv_at hl 2 rfl) ?_
    refine lv_if_ne (tgt := 102) C.1.1 C.1.2.1 dX17_frame_92 (by decide) (fun c10 => ?_) (fun c10 => ?_)
    · replace hD := g_neg c10 hD
      refine lv_iload_n C.1.1 C.1.2.1 dX17_frame_102 rfl (lv_at hl 2 rfl) ?_
      refine lv_iconst (v := 1) C.1.1 C.1.2.1 dX17_frame_103 (by decide) ?_
      refine lv_icmp_ne (tgt := 114) C.1.1 C.1.2.1 dX17_frame_104 (by decide) (fun c11 => ?_) (fun c11 => ?_)
      · replace hD := g_neg c11 hD
        refine lv_iload_n C.1.1 C.1.2.1 dX17_frame_114 rfl (lv_at hl 2 rfl) ?_
        refine lv_iconst (v := 2) C.1.1 C.1.2.1 dX17_frame_115 (by decide) ?_
        refine lv_icmp_ne (tgt := 126) C.1.1 C.1.2.1 dX17_frame_116 (by decide) (fun c12 => ?_) (fun c12 => ?_)
        · replace hD := g_neg c12 hD
          refine lv_iload_n C.1.1 C.1.2.1 dX17_frame_126 rfl (lv_at hl 2 rfl) ?_
          refine lv_iconst (v := 3) C.1.1 C.1.2.1 dX17_frame_127 (by decide) ?_
          refine lv_icmp_ne (tgt := 138) C.1.1 C.1.2.1 dX17_frame_128 (by decide) (fun c13 => ?_) (fun c13 => ?_)
          · replace hD := g_neg c13 hD
            refine lv_iload_n C.1.1 C.1.2.1 dX17_frame_138 rfl (lv_at hl 2 rfl) ?_
            refine lv_iconst (v := 4) C.1.1 C.1.2.1 dX17_frame_139 (by decide) ?_
            refine lv_icmp_ne (tgt := 151) C.1.1 C.1.2.1 dX17_frame_140 (by decide) (fun c14 => ?_) (fun c14 => ?_)
            · replace hD := g_neg c14 hD
              refine lv_iload_n C.1.1 C.1.2.1 dX17_frame_151 rfl (lv_at hl 2 rfl) ?_
              refine lv_iconst (v := 5) C.1.1 C.1.2.1 dX17_frame_152 (by decide) ?_
              refine lv_icmp_ne (tgt := 165) C.1.1 C.1.2.1 dX17_frame_153 (by decide) (fun c15 => ?_) (fun c15 => ?_)
              · replace hD := g_neg c15 hD
                refine lv_bipush (v := (-2)) C.1.1 C.1.2.1 dX17_frame_165 (by decide) ?_
                exact hb167 ((-2)) M L _ _ ls hD hw (lv_sub hl [] rfl)
              · replace hD := g_pos c15 hD
                refine lv_aload_n C.1.1 C.1.2.1 dX17_frame_156 rfl (lv_at hl 0 rfl) ?_
                refine mr_getR C hw kc_17 31 (by decide) tf_869 ff_869_31 wd_2362 dX17_frame_157 (by decide) rfl ?_
                refine lv_iload_n C.1.1 C.1.2.1 dX17_frame_160 rfl (lv_at hl 1 rfl) ?_
                obtain ⟨q16, hD⟩ := g_ck hD
                refine mr_iald C hw (by decide) tf_896 q16 dX17_frame_161 ?_
                refine lv_goto (tgt := 167) C.1.1 C.1.2.1 dX17_frame_162 (by decide) ?_
                exact hb167 (M 896 a1.toNatClampNeg) M L _ _ ls hD hw (lv_sub hl [] rfl)
            · replace hD := g_pos c14 hD
              refine lv_aload_n C.1.1 C.1.2.1 dX17_frame_143 rfl (lv_at hl 0 rfl) ?_
              refine mr_getR C hw kc_17 32 (by decide) tf_869 ff_869_32 wd_2363 dX17_frame_144 (by decide) rfl ?_
              refine lv_iload_n C.1.1 C.1.2.1 dX17_frame_147 rfl (lv_at hl 1 rfl) ?_
              obtain ⟨q17, hD⟩ := g_ck hD
              refine mr_lald C hw (by decide) tf_897 q17 dX17_frame_148 ?_
              refine lv_l2i C.1.1 C.1.2.1 dX17_frame_149 rfl ?_
              exact mr_iret C hr hlocks hw rfl (Option.some.inj hD) dX17_frame_150
          · replace hD := g_pos c13 hD
            refine lv_aload_n C.1.1 C.1.2.1 dX17_frame_131 rfl (lv_at hl 0 rfl) ?_
            refine mr_getR C hw kc_17 30 (by decide) tf_869 ff_869_30 wd_2361 dX17_frame_132 (by decide) rfl ?_
            refine lv_iload_n C.1.1 C.1.2.1 dX17_frame_135 rfl (lv_at hl 1 rfl) ?_
            obtain ⟨q18, hD⟩ := g_ck hD
            refine mr_iald C hw (by decide) tf_895 q18 dX17_frame_136 ?_
            exact mr_iret C hr hlocks hw rfl (Option.some.inj hD) dX17_frame_137
        · replace hD := g_pos c12 hD
          refine lv_aload_n C.1.1 C.1.2.1 dX17_frame_119 rfl (lv_at hl 0 rfl) ?_
          refine mr_getR C hw kc_17 29 (by decide) tf_869 ff_869_29 wd_2360 dX17_frame_120 (by decide) rfl ?_
          refine lv_iload_n C.1.1 C.1.2.1 dX17_frame_123 rfl (lv_at hl 1 rfl) ?_
          obtain ⟨q19, hD⟩ := g_ck hD
          refine mr_iald C hw (by decide) tf_894 q19 dX17_frame_124 ?_
          exact mr_iret C hr hlocks hw rfl (Option.some.inj hD) dX17_frame_125
      · replace hD := g_pos c11 hD
        refine lv_aload_n C.1.1 C.1.2.1 dX17_frame_107 rfl (lv_at hl 0 rfl) ?_
        refine mr_getR C hw kc_17 28 (by decide) tf_869 ff_869_28 wd_2359 dX17_frame_108 (by decide) rfl ?_
        refine lv_iload_n C.1.1 C.1.2.1 dX17_frame_111 rfl (lv_at hl 1 rfl) ?_
        obtain ⟨q20, hD⟩ := g_ck hD
        refine mr_iald C hw (by decide) tf_893 q20 dX17_frame_112 ?_
        exact mr_iret C hr hlocks hw rfl (Option.some.inj hD) dX17_frame_113
    · replace hD := g_pos c10 hD
      refine lv_aload_n C.1.1 C.1.2.1 dX17_frame_95 rfl (lv_at hl 0 rfl) ?_
      refine mr_getR C hw kc_17 27 (by decide) tf_869 ff_869_27 wd_2358 dX17_frame_96 (by decide) rfl ?_
      refine lv_iload_n C.1.1 C.1.2.1 dX17_frame_99 rfl (lv_at hl 1 rfl) ?_
      obtain ⟨q21, hD⟩ := g_ck hD
      refine mr_iald C hw (by decide) tf_892 q21 dX17_frame_100 ?_
      exact mr_iret C hr hlocks hw rfl (Option.some.inj hD) dX17_frame_101
  have hb90 : ∀ (s0 : Int32) (M : mwM) (L : mwL) (H : Heap) (locs : List Loc) (ls : Array Slot), fX17_frame_b90 fu a1 a2 s0 M L = some (r0, M0, L0) → mw_W G ad NF TF FF M L H locs → lv_has ls 3 [] → W p l e ({ frames := 0, cells := 0, slots := 0, locals := 0 }) s m [.ref (ad 869), .int a1, .int a2].toArray below meth c H locs 0 0 (MQ below (mw_Qi G ad NF TF FF (mw_eqI r0 M0 L0)) [.ref (ad 869), .int a1, .int a2].toArray s 0 0 (mw_fr G)) (F0 m 90 ls [.int s0]) := by
    intro s0 M L H locs ls hD hw hl
    unfold fX17_frame_b90 at hD
    exact mr_iret C hr hlocks hw rfl (Option.some.inj hD) dX17_frame_90
  have hb89 : ∀ (M : mwM) (L : mwL) (H : Heap) (locs : List Loc) (ls : Array Slot), fX17_frame_b89 fu a1 a2 M L = some (r0, M0, L0) → mw_W G ad NF TF FF M L H locs → lv_has ls 3 [] → W p l e ({ frames := 0, cells := 0, slots := 0, locals := 0 }) s m [.ref (ad 869), .int a1, .int a2].toArray below meth c H locs 0 0 (MQ below (mw_Qi G ad NF TF FF (mw_eqI r0 M0 L0)) [.ref (ad 869), .int a1, .int a2].toArray s 0 0 (mw_fr G)) (F0 m 89 ls []) := by
    intro M L H locs ls hD hw hl
    unfold fX17_frame_b89 at hD
    refine lv_iconst (v := 0) C.1.1 C.1.2.1 dX17_frame_89 (by decide) ?_
    exact hb90 0 M L _ _ ls hD hw (lv_sub hl [] rfl)
  have hb18 : ∀ (M : mwM) (L : mwL) (H : Heap) (locs : List Loc) (ls : Array Slot), fX17_frame_b18 fu a1 a2 M L = some (r0, M0, L0) → mw_W G ad NF TF FF M L H locs → lv_has ls 3 [(0, .ref (ad 869)), (1, .int a1), (2, .int a2)] → W p l e ({ frames := 0, cells := 0, slots := 0, locals := 0 }) s m [.ref (ad 869), .int a1, .int a2].toArray below meth c H locs 0 0 (MQ below (mw_Qi G ad NF TF FF (mw_eqI r0 M0 L0)) [.ref (ad 869), .int a1, .int a2].toArray s 0 0 (mw_fr G)) (F0 m 18 ls []) := by
    intro M L H locs ls hD hw hl
    unfold fX17_frame_b18 at hD
    refine lv_iload_n C.1.1 C.1.2.1 dX17_frame_18 rfl (lv_at hl 1 rfl) ?_
    refine lv_iconst (v := 1) C.1.1 C.1.2.1 dX17_frame_19 (by decide) ?_
    refine lv_icmp_lt (tgt := 31) C.1.1 C.1.2.1 dX17_frame_20 (by decide) (fun c1 => ?_) (fun c1 => ?_)
    · replace hD := g_pos c1 hD
      exact hb31 M L _ _ ls hD hw (lv_sub hl [] rfl)
    · replace hD := g_neg c1 hD
      refine lv_iload_n C.1.1 C.1.2.1 dX17_frame_23 rfl (lv_at hl 1 rfl) ?_
      refine lv_aload_n C.1.1 C.1.2.1 dX17_frame_24 rfl (lv_at hl 0 rfl) ?_
      refine mr_getI C hw kc_17 26 (by decide) tf_869 wd_2357 dX17_frame_25 (by decide) rfl ?_
      refine lv_icmp_le (tgt := 33) C.1.1 C.1.2.1 dX17_frame_28 (by decide) (fun c2 => ?_) (fun c2 => ?_)
      · replace hD := g_pos c2 hD
        refine lv_iload_n C.1.1 C.1.2.1 dX17_frame_33 rfl (lv_at hl 2 rfl) ?_
        refine lv_bipush (v := 8) C.1.1 C.1.2.1 dX17_frame_34 (by decide) ?_
        refine lv_icmp_lt (tgt := 91) C.1.1 C.1.2.1 dX17_frame_36 (by decide) (fun c3 => ?_) (fun c3 => ?_)
        · replace hD := g_pos c3 hD
          exact hb91 M L _ _ ls hD hw (lv_sub hl [0, 1, 2] rfl)
        · replace hD := g_neg c3 hD
          refine lv_iload_n C.1.1 C.1.2.1 dX17_frame_39 rfl (lv_at hl 2 rfl) ?_
          refine lv_bipush (v := 15) C.1.1 C.1.2.1 dX17_frame_40 (by decide) ?_
          refine lv_icmp_ge (tgt := 91) C.1.1 C.1.2.1 dX17_frame_42 (by decide) (fun c4 => ?_) (fun c4 => ?_)
          · replace hD := g_pos c4 hD
            exact hb91 M L _ _ ls hD hw (lv_sub hl [0, 1, 2] rfl)
          · replace hD := g_neg c4 hD
            refine lv_aload_n C.1.1 C.1.2.1 dX17_frame_45 rfl (lv_at hl 0 rfl) ?_
            refine mr_getR C hw kc_17 27 (by decide) tf_869 ff_869_27 wd_2358 dX17_frame_46 (by decide) rfl ?_
            refine lv_iload_n C.1.1 C.1.2.1 dX17_frame_49 rfl (lv_at hl 1 rfl) ?_
            obtain ⟨q5, hD⟩ := g_ck hD
            refine mr_iald C hw (by decide) tf_892 q5 dX17_frame_50 ?_
            refine lv_iconst (v := 3) C.1.1 C.1.2.1 dX17_frame_51 (by decide) ?_
            refine lv_icmp_ge (tgt := 89) C.1.1 C.1.2.1 dX17_frame_52 (by decide) (fun c6 => ?_) (fun c6 => ?_)
            · replace hD := g_pos c6 hD
              exact hb89 M L _ _ ls hD hw (lv_sub hl [] rfl)
            · replace hD := g_neg c6 hD
              refine lv_iload_n C.1.1 C.1.2.1 dX17_frame_55 rfl (lv_at hl 2 rfl) ?_
              refine lv_bipush (v := 8) C.1.1 C.1.2.1 dX17_frame_56 (by decide) ?_
              refine lv_isub C.1.1 C.1.2.1 dX17_frame_58 ?_
              refine lv_aload_n C.1.1 C.1.2.1 dX17_frame_59 rfl (lv_at hl 0 rfl) ?_
              refine mr_getR C hw kc_17 30 (by decide) tf_869 ff_869_30 wd_2361 dX17_frame_60 (by decide) rfl ?_
              refine lv_iload_n C.1.1 C.1.2.1 dX17_frame_63 rfl (lv_at hl 1 rfl) ?_
              obtain ⟨q7, hD⟩ := g_ck hD
              refine mr_iald C hw (by decide) tf_895 q7 dX17_frame_64 ?_
              refine lv_icmp_ge (tgt := 89) C.1.1 C.1.2.1 dX17_frame_65 (by decide) (fun c8 => ?_) (fun c8 => ?_)
              · replace hD := g_pos c8 hD
                exact hb89 M L _ _ ls hD hw (lv_sub hl [] rfl)
              · replace hD := g_neg c8 hD
                refine lv_aload_n C.1.1 C.1.2.1 dX17_frame_68 rfl (lv_at hl 0 rfl) ?_
                refine mr_getR C hw kc_17 34 (by decide) tf_869 ff_869_34 wd_2365 dX17_frame_69 (by decide) rfl ?_
                refine lv_bipush (v := 7) C.1.1 C.1.2.1 dX17_frame_72 (by decide) ?_
                refine lv_iload_n C.1.1 C.1.2.1 dX17_frame_74 rfl (lv_at hl 1 rfl) ?_
                refine lv_imul C.1.1 C.1.2.1 dX17_frame_75 ?_
                refine lv_iload_n C.1.1 C.1.2.1 dX17_frame_76 rfl (lv_at hl 2 rfl) ?_
                refine lv_iadd C.1.1 C.1.2.1 dX17_frame_77 ?_
                refine lv_bipush (v := 8) C.1.1 C.1.2.1 dX17_frame_78 (by decide) ?_
                refine lv_isub C.1.1 C.1.2.1 dX17_frame_80 ?_
                obtain ⟨q9, hD⟩ := g_ck hD
                refine mr_bald C hw (by decide) tf_899 q9 dX17_frame_81 ?_
                refine lv_sipush (v := 255) C.1.1 C.1.2.1 dX17_frame_82 (by decide) ?_
                refine lv_iand C.1.1 C.1.2.1 dX17_frame_85 ?_
                refine lv_goto (tgt := 90) C.1.1 C.1.2.1 dX17_frame_86 (by decide) ?_
                exact hb90 ((M 899 (((7 * a1) + a2) - 8).toNatClampNeg) &&& 255) M L _ _ ls hD hw (lv_sub hl [] rfl)
      · replace hD := g_neg c2 hD
        exact hb31 M L _ _ ls hD hw (lv_sub hl [] rfl)
  unfold DX17_frame at hD
  refine lv_aload_n C.1.1 C.1.2.1 dX17_frame_0 rfl (lv_at hl 0 rfl) ?_
  refine lv_iconst (v := 0) C.1.1 C.1.2.1 dX17_frame_1 (by decide) ?_
  obtain ⟨M22, eM22, hD⟩ := g_let hD
  refine mr_putI C hw kc_17 0 (by decide) tf_869 wd_2331 dX17_frame_2 (by decide) rfl rfl rfl rfl (fun H locs hw => ?_)
  replace hw : mw_W G ad NF TF FF M22 L H locs := by rw [eM22]; exact hw
  refine lv_iload_n C.1.1 C.1.2.1 dX17_frame_5 rfl (lv_at hl 1 rfl) ?_
  refine lv_if_ne (tgt := 18) C.1.1 C.1.2.1 dX17_frame_6 (by decide) (fun c23 => ?_) (fun c23 => ?_)
  · replace hD := g_neg c23 hD
    exact hb18 M22 L _ _ ls hD hw (lv_sub hl [0, 1, 2] rfl)
  · replace hD := g_pos c23 hD
    refine lv_iload_n C.1.1 C.1.2.1 dX17_frame_9 rfl (lv_at hl 2 rfl) ?_
    refine lv_if_ne (tgt := 18) C.1.1 C.1.2.1 dX17_frame_10 (by decide) (fun c24 => ?_) (fun c24 => ?_)
    · replace hD := g_neg c24 hD
      exact hb18 M22 L _ _ ls hD hw (lv_sub hl [0, 1, 2] rfl)
    · replace hD := g_pos c24 hD
      refine lv_aload_n C.1.1 C.1.2.1 dX17_frame_13 rfl (lv_at hl 0 rfl) ?_
      refine mr_getI C hw kc_17 26 (by decide) tf_869 wd_2357 dX17_frame_14 (by decide) rfl ?_
      exact mr_iret C hr hlocks hw rfl (Option.some.inj hD) dX17_frame_17

theorem dX17_got_0 : decode cX17_got 0 = .ok (.aload_n 0, 1) := by decide +kernel
theorem dX17_got_1 : decode cX17_got 1 = .ok (.iload_n 1, 1) := by decide +kernel
theorem dX17_got_2 : decode cX17_got 2 = .ok (.ifCond .lt 11, 3) := by decide +kernel
theorem dX17_got_5 : decode cX17_got 5 = .ok (.iload_n 1, 1) := by decide +kernel
theorem dX17_got_6 : decode cX17_got 6 = .ok (.aload_n 0, 1) := by decide +kernel
theorem dX17_got_7 : decode cX17_got 7 = .ok (.getfield 141, 3) := by decide +kernel
theorem dX17_got_10 : decode cX17_got 10 = .ok (.if_icmp .lt 7, 3) := by decide +kernel
theorem dX17_got_13 : decode cX17_got 13 = .ok (.iconst 1, 1) := by decide +kernel
theorem dX17_got_14 : decode cX17_got 14 = .ok (.goto 4, 3) := by decide +kernel
theorem dX17_got_17 : decode cX17_got 17 = .ok (.iconst 0, 1) := by decide +kernel
theorem dX17_got_18 : decode cX17_got 18 = .ok (.putfield 144, 3) := by decide +kernel
theorem dX17_got_21 : decode cX17_got 21 = .ok (.aload_n 0, 1) := by decide +kernel
theorem dX17_got_22 : decode cX17_got 22 = .ok (.getfield 144, 3) := by decide +kernel
theorem dX17_got_25 : decode cX17_got 25 = .ok (.ifCond .le 7, 3) := by decide +kernel
theorem dX17_got_28 : decode cX17_got 28 = .ok (.iconst 0, 1) := by decide +kernel
theorem dX17_got_29 : decode cX17_got 29 = .ok (.goto 9, 3) := by decide +kernel
theorem dX17_got_32 : decode cX17_got 32 = .ok (.aload_n 0, 1) := by decide +kernel
theorem dX17_got_33 : decode cX17_got 33 = .ok (.getfield 109, 3) := by decide +kernel
theorem dX17_got_36 : decode cX17_got 36 = .ok (.iload_n 1, 1) := by decide +kernel
theorem dX17_got_37 : decode cX17_got 37 = .ok (.baload, 1) := by decide +kernel
theorem dX17_got_38 : decode cX17_got 38 = .ok (.ireturn, 1) := by decide +kernel
theorem cwX17_got : mw_cwV yX17_got cX17_got 2 ((some .byte)) 1 := ⟨⟨wd_17, wd_3983, by decide +kernel⟩, wd_3981, wd_3982⟩
set_option maxHeartbeats 4000000 in
set_option maxRecDepth 100000 in
theorem tX17_got (l : Launch) (G : mwG) (ad : Nat → Nat) (fu : Nat) (a1 : Int32) (M : mwM) (L : mwL) {r0 : Int32} {M0 : mwM} {L0 : mwL} (hD : DX17_got fu a1 M L = some (r0, M0, L0)) : Met l yX17_got (Cond.code yX17_got cX17_got 2 ((some .byte)) :: GT) ({ frames := 0, cells := 0, slots := 0, locals := 0 }) (mw_Pre G ad NF TF FF M L [.ref (ad 869), .int a1]) (mw_Qi G ad NF TF FF (mw_eqI r0 M0 L0)) 0 0 (mw_fr G) := by
  refine mw_enter (by decide) (Nat.le_of_ble_eq_true rfl) ?_
  intro p e s m below meth c ls C hr hlocks hnm hw hl
  have hl : lv_has ls 2 [(0, .ref (ad 869)), (1, .int a1)] := hl
  have hb38 : ∀ (s0 : Int32) (M : mwM) (L : mwL) (H : Heap) (locs : List Loc) (ls : Array Slot), fX17_got_b38 fu a1 s0 M L = some (r0, M0, L0) → mw_W G ad NF TF FF M L H locs → lv_has ls 2 [] → W p l e ({ frames := 0, cells := 0, slots := 0, locals := 0 }) s m [.ref (ad 869), .int a1].toArray below meth c H locs 0 0 (MQ below (mw_Qi G ad NF TF FF (mw_eqI r0 M0 L0)) [.ref (ad 869), .int a1].toArray s 0 0 (mw_fr G)) (F0 m 38 ls [.int s0]) := by
    intro s0 M L H locs ls hD hw hl
    unfold fX17_got_b38 at hD
    obtain ⟨z4, hD⟩ := g_bb hD
    exact mr_iret C hr hlocks hw (nb_bb z4) (Option.some.inj hD) dX17_got_38
  have hb18 : ∀ (s1 : Int32) (M : mwM) (L : mwL) (H : Heap) (locs : List Loc) (ls : Array Slot), fX17_got_b18 fu a1 s1 M L = some (r0, M0, L0) → mw_W G ad NF TF FF M L H locs → lv_has ls 2 [(0, .ref (ad 869)), (1, .int a1)] → W p l e ({ frames := 0, cells := 0, slots := 0, locals := 0 }) s m [.ref (ad 869), .int a1].toArray below meth c H locs 0 0 (MQ below (mw_Qi G ad NF TF FF (mw_eqI r0 M0 L0)) [.ref (ad 869), .int a1].toArray s 0 0 (mw_fr G)) (F0 m 18 ls [.int s1, .ref (ad 869)]) := by
    intro s1 M L H locs ls hD hw hl
    unfold fX17_got_b18 at hD
    obtain ⟨M1, eM1, hD⟩ := g_let hD
    refine mr_putI C hw kc_17 0 (by decide) tf_869 wd_2331 dX17_got_18 (by decide) rfl rfl rfl rfl (fun H locs hw => ?_)
    replace hw : mw_W G ad NF TF FF M1 L H locs := by rw [eM1]; exact hw
    refine lv_aload_n C.1.1 C.1.2.1 dX17_got_21 rfl (lv_at hl 0 rfl) ?_
    refine mr_getI C hw kc_17 0 (by decide) tf_869 wd_2331 dX17_got_22 (by decide) rfl ?_
    refine lv_if_le (tgt := 32) C.1.1 C.1.2.1 dX17_got_25 (by decide) (fun c2 => ?_) (fun c2 => ?_)
    · replace hD := g_pos c2 hD
      refine lv_aload_n C.1.1 C.1.2.1 dX17_got_32 rfl (lv_at hl 0 rfl) ?_
      refine mr_getR C hw kc_17 41 (by decide) tf_869 ff_869_41 wd_2372 dX17_got_33 (by decide) rfl ?_
      refine lv_iload_n C.1.1 C.1.2.1 dX17_got_36 rfl (lv_at hl 1 rfl) ?_
      obtain ⟨q3, hD⟩ := g_ck hD
      refine mr_bald C hw (by decide) tf_900 q3 dX17_got_37 ?_
      exact hb38 (M1 900 a1.toNatClampNeg) M1 L _ _ ls hD hw (lv_sub hl [] rfl)
    · replace hD := g_neg c2 hD
      refine lv_iconst (v := 0) C.1.1 C.1.2.1 dX17_got_28 (by decide) ?_
      refine lv_goto (tgt := 38) C.1.1 C.1.2.1 dX17_got_29 (by decide) ?_
      exact hb38 0 M1 L _ _ ls hD hw (lv_sub hl [] rfl)
  have hb13 : ∀ (M : mwM) (L : mwL) (H : Heap) (locs : List Loc) (ls : Array Slot), fX17_got_b13 fu a1 M L = some (r0, M0, L0) → mw_W G ad NF TF FF M L H locs → lv_has ls 2 [(0, .ref (ad 869)), (1, .int a1)] → W p l e ({ frames := 0, cells := 0, slots := 0, locals := 0 }) s m [.ref (ad 869), .int a1].toArray below meth c H locs 0 0 (MQ below (mw_Qi G ad NF TF FF (mw_eqI r0 M0 L0)) [.ref (ad 869), .int a1].toArray s 0 0 (mw_fr G)) (F0 m 13 ls [.ref (ad 869)]) := by
    intro M L H locs ls hD hw hl
    unfold fX17_got_b13 at hD
    refine lv_iconst (v := 1) C.1.1 C.1.2.1 dX17_got_13 (by decide) ?_
    refine lv_goto (tgt := 18) C.1.1 C.1.2.1 dX17_got_14 (by decide) ?_
    exact hb18 1 M L _ _ ls hD hw (lv_sub hl [0, 1] rfl)
  unfold DX17_got at hD
  refine lv_aload_n C.1.1 C.1.2.1 dX17_got_0 rfl (lv_at hl 0 rfl) ?_
  refine lv_iload_n C.1.1 C.1.2.1 dX17_got_1 rfl (lv_at hl 1 rfl) ?_
  refine lv_if_lt (tgt := 13) C.1.1 C.1.2.1 dX17_got_2 (by decide) (fun c5 => ?_) (fun c5 => ?_)
  · replace hD := g_pos c5 hD
    exact hb13 M L _ _ ls hD hw (lv_sub hl [0, 1] rfl)
  · replace hD := g_neg c5 hD
    refine lv_iload_n C.1.1 C.1.2.1 dX17_got_5 rfl (lv_at hl 1 rfl) ?_
    refine lv_aload_n C.1.1 C.1.2.1 dX17_got_6 rfl (lv_at hl 0 rfl) ?_
    refine mr_getI C hw kc_17 40 (by decide) tf_869 wd_2371 dX17_got_7 (by decide) rfl ?_
    refine lv_icmp_lt (tgt := 17) C.1.1 C.1.2.1 dX17_got_10 (by decide) (fun c6 => ?_) (fun c6 => ?_)
    · replace hD := g_pos c6 hD
      refine lv_iconst (v := 0) C.1.1 C.1.2.1 dX17_got_17 (by decide) ?_
      exact hb18 0 M L _ _ ls hD hw (lv_sub hl [0, 1] rfl)
    · replace hD := g_neg c6 hD
      exact hb13 M L _ _ ls hD hw (lv_sub hl [0, 1] rfl)

theorem dX17_length_0 : decode cX17_length 0 = .ok (.aload_n 0, 1) := by decide +kernel
theorem dX17_length_1 : decode cX17_length 1 = .ok (.iconst 0, 1) := by decide +kernel
theorem dX17_length_2 : decode cX17_length 2 = .ok (.putfield 144, 3) := by decide +kernel
theorem dX17_length_5 : decode cX17_length 5 = .ok (.aload_n 0, 1) := by decide +kernel
theorem dX17_length_6 : decode cX17_length 6 = .ok (.getfield 141, 3) := by decide +kernel
theorem dX17_length_9 : decode cX17_length 9 = .ok (.ireturn, 1) := by decide +kernel
theorem cwX17_length : mw_cwV yX17_length cX17_length 1 ((some .int)) 0 := ⟨⟨wd_17, wd_3979, by decide +kernel⟩, wd_3977, wd_3978⟩
set_option maxHeartbeats 4000000 in
set_option maxRecDepth 100000 in
theorem tX17_length (l : Launch) (G : mwG) (ad : Nat → Nat) (fu : Nat) (M : mwM) (L : mwL) {r0 : Int32} {M0 : mwM} {L0 : mwL} (hD : DX17_length fu M L = some (r0, M0, L0)) : Met l yX17_length (Cond.code yX17_length cX17_length 1 ((some .int)) :: GT) ({ frames := 0, cells := 0, slots := 0, locals := 0 }) (mw_Pre G ad NF TF FF M L [.ref (ad 869)]) (mw_Qi G ad NF TF FF (mw_eqI r0 M0 L0)) 0 0 (mw_fr G) := by
  refine mw_enter (by decide) (Nat.le_of_ble_eq_true rfl) ?_
  intro p e s m below meth c ls C hr hlocks hnm hw hl
  have hl : lv_has ls 1 [(0, .ref (ad 869))] := hl
  unfold DX17_length at hD
  refine lv_aload_n C.1.1 C.1.2.1 dX17_length_0 rfl (lv_at hl 0 rfl) ?_
  refine lv_iconst (v := 0) C.1.1 C.1.2.1 dX17_length_1 (by decide) ?_
  obtain ⟨M1, eM1, hD⟩ := g_let hD
  refine mr_putI C hw kc_17 0 (by decide) tf_869 wd_2331 dX17_length_2 (by decide) rfl rfl rfl rfl (fun H locs hw => ?_)
  replace hw : mw_W G ad NF TF FF M1 L H locs := by rw [eM1]; exact hw
  refine lv_aload_n C.1.1 C.1.2.1 dX17_length_5 rfl (lv_at hl 0 rfl) ?_
  refine mr_getI C hw kc_17 40 (by decide) tf_869 wd_2371 dX17_length_6 (by decide) rfl ?_
  exact mr_iret C hr hlocks hw rfl (Option.some.inj hD) dX17_length_9

theorem dX17_ended_0 : decode cX17_ended 0 = .ok (.aload_n 0, 1) := by decide +kernel
theorem dX17_ended_1 : decode cX17_ended 1 = .ok (.iconst 0, 1) := by decide +kernel
theorem dX17_ended_2 : decode cX17_ended 2 = .ok (.putfield 144, 3) := by decide +kernel
theorem dX17_ended_5 : decode cX17_ended 5 = .ok (.iload_n 1, 1) := by decide +kernel
theorem dX17_ended_6 : decode cX17_ended 6 = .ok (.ifCond .lt 9, 3) := by decide +kernel
theorem dX17_ended_9 : decode cX17_ended 9 = .ok (.iload_n 1, 1) := by decide +kernel
theorem dX17_ended_10 : decode cX17_ended 10 = .ok (.bipush 7, 2) := by decide +kernel
theorem dX17_ended_12 : decode cX17_ended 12 = .ok (.if_icmp .le 8, 3) := by decide +kernel
theorem dX17_ended_15 : decode cX17_ended 15 = .ok (.bipush (-2), 2) := by decide +kernel
theorem dX17_ended_17 : decode cX17_ended 17 = .ok (.goto 9, 3) := by decide +kernel
theorem dX17_ended_20 : decode cX17_ended 20 = .ok (.aload_n 0, 1) := by decide +kernel
theorem dX17_ended_21 : decode cX17_ended 21 = .ok (.getfield 112, 3) := by decide +kernel
theorem dX17_ended_24 : decode cX17_ended 24 = .ok (.iload_n 1, 1) := by decide +kernel
theorem dX17_ended_25 : decode cX17_ended 25 = .ok (.iaload, 1) := by decide +kernel
theorem dX17_ended_26 : decode cX17_ended 26 = .ok (.ireturn, 1) := by decide +kernel
theorem cwX17_ended : mw_cwV yX17_ended cX17_ended 2 ((some .int)) 1 := ⟨⟨wd_17, wd_3975, by decide +kernel⟩, wd_3973, wd_3974⟩
set_option maxHeartbeats 4000000 in
set_option maxRecDepth 100000 in
theorem tX17_ended (l : Launch) (G : mwG) (ad : Nat → Nat) (fu : Nat) (a1 : Int32) (M : mwM) (L : mwL) {r0 : Int32} {M0 : mwM} {L0 : mwL} (hD : DX17_ended fu a1 M L = some (r0, M0, L0)) : Met l yX17_ended (Cond.code yX17_ended cX17_ended 2 ((some .int)) :: GT) ({ frames := 0, cells := 0, slots := 0, locals := 0 }) (mw_Pre G ad NF TF FF M L [.ref (ad 869), .int a1]) (mw_Qi G ad NF TF FF (mw_eqI r0 M0 L0)) 0 0 (mw_fr G) := by
  refine mw_enter (by decide) (Nat.le_of_ble_eq_true rfl) ?_
  intro p e s m below meth c ls C hr hlocks hnm hw hl
  have hl : lv_has ls 2 [(0, .ref (ad 869)), (1, .int a1)] := hl
  have hb26 : ∀ (s0 : Int32) (M : mwM) (L : mwL) (H : Heap) (locs : List Loc) (ls : Array Slot), fX17_ended_b26 fu a1 s0 M L = some (r0, M0, L0) → mw_W G ad NF TF FF M L H locs → lv_has ls 2 [] → W p l e ({ frames := 0, cells := 0, slots := 0, locals := 0 }) s m [.ref (ad 869), .int a1].toArray below meth c H locs 0 0 (MQ below (mw_Qi G ad NF TF FF (mw_eqI r0 M0 L0)) [.ref (ad 869), .int a1].toArray s 0 0 (mw_fr G)) (F0 m 26 ls [.int s0]) := by
    intro s0 M L H locs ls hD hw hl
    unfold fX17_ended_b26 at hD
    exact mr_iret C hr hlocks hw rfl (Option.some.inj hD) dX17_ended_26
  have hb15 : ∀ (M : mwM) (L : mwL) (H : Heap) (locs : List Loc) (ls : Array Slot), fX17_ended_b15 fu a1 M L = some (r0, M0, L0) → mw_W G ad NF TF FF M L H locs → lv_has ls 2 [] → W p l e ({ frames := 0, cells := 0, slots := 0, locals := 0 }) s m [.ref (ad 869), .int a1].toArray below meth c H locs 0 0 (MQ below (mw_Qi G ad NF TF FF (mw_eqI r0 M0 L0)) [.ref (ad 869), .int a1].toArray s 0 0 (mw_fr G)) (F0 m 15 ls []) := by
    intro M L H locs ls hD hw hl
    unfold fX17_ended_b15 at hD
    refine lv_bipush (v := (-2)) C.1.1 C.1.2.1 dX17_ended_15 (by decide) ?_
    refine lv_goto (tgt := 26) C.1.1 C.1.2.1 dX17_ended_17 (by decide) ?_
    exact hb26 ((-2)) M L _ _ ls hD hw (lv_sub hl [] rfl)
  unfold DX17_ended at hD
  refine lv_aload_n C.1.1 C.1.2.1 dX17_ended_0 rfl (lv_at hl 0 rfl) ?_
  refine lv_iconst (v := 0) C.1.1 C.1.2.1 dX17_ended_1 (by decide) ?_
  obtain ⟨M1, eM1, hD⟩ := g_let hD
  refine mr_putI C hw kc_17 0 (by decide) tf_869 wd_2331 dX17_ended_2 (by decide) rfl rfl rfl rfl (fun H locs hw => ?_)
  replace hw : mw_W G ad NF TF FF M1 L H locs := by rw [eM1]; exact hw
  refine lv_iload_n C.1.1 C.1.2.1 dX17_ended_5 rfl (lv_at hl 1 rfl) ?_
  refine lv_if_lt (tgt := 15) C.1.1 C.1.2.1 dX17_ended_6 (by decide) (fun c2 => ?_) (fun c2 => ?_)
  · replace hD := g_pos c2 hD
    exact hb15 M1 L _ _ ls hD hw (lv_sub hl [] rfl)
  · replace hD := g_neg c2 hD
    refine lv_iload_n C.1.1 C.1.2.1 dX17_ended_9 rfl (lv_at hl 1 rfl) ?_
    refine lv_bipush (v := 7) C.1.1 C.1.2.1 dX17_ended_10 (by decide) ?_
    refine lv_icmp_le (tgt := 20) C.1.1 C.1.2.1 dX17_ended_12 (by decide) (fun c3 => ?_) (fun c3 => ?_)
    · replace hD := g_pos c3 hD
      refine lv_aload_n C.1.1 C.1.2.1 dX17_ended_20 rfl (lv_at hl 0 rfl) ?_
      refine mr_getR C hw kc_17 42 (by decide) tf_869 ff_869_42 wd_2373 dX17_ended_21 (by decide) rfl ?_
      refine lv_iload_n C.1.1 C.1.2.1 dX17_ended_24 rfl (lv_at hl 1 rfl) ?_
      obtain ⟨q4, hD⟩ := g_ck hD
      refine mr_iald C hw (by decide) tf_901 q4 dX17_ended_25 ?_
      exact hb26 (M1 901 a1.toNatClampNeg) M1 L _ _ ls hD hw (lv_sub hl [] rfl)
    · replace hD := g_neg c3 hD
      exact hb15 M1 L _ _ ls hD hw (lv_sub hl [] rfl)
