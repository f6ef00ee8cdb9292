theorem dX10_tell_0 : decode cX10_tell 0 = .ok (.iload_n 2, 1) := by decide +kernel
theorem dX10_tell_1 : decode cX10_tell 1 = .ok (.tableswitch 94 0 3 #[31, 40, 50, 72], 31) := by decide +kernel
theorem dX10_tell_32 : decode cX10_tell 32 = .ok (.aload_n 0, 1) := by decide +kernel
theorem dX10_tell_33 : decode cX10_tell 33 = .ok (.getfield 11, 3) := by decide +kernel
theorem dX10_tell_36 : decode cX10_tell 36 = .ok (.iconst 5, 1) := by decide +kernel
theorem dX10_tell_37 : decode cX10_tell 37 = .ok (.aaload, 1) := by decide +kernel
theorem dX10_tell_38 : decode cX10_tell 38 = .ok (.iload_n 1, 1) := by decide +kernel
theorem dX10_tell_39 : decode cX10_tell 39 = .ok (.iaload, 1) := by decide +kernel
theorem dX10_tell_40 : decode cX10_tell 40 = .ok (.ireturn, 1) := by decide +kernel
theorem dX10_tell_41 : decode cX10_tell 41 = .ok (.aload_n 0, 1) := by decide +kernel
theorem dX10_tell_42 : decode cX10_tell 42 = .ok (.getfield 11, 3) := by decide +kernel
theorem dX10_tell_45 : decode cX10_tell 45 = .ok (.bipush 8, 2) := by decide +kernel
theorem dX10_tell_47 : decode cX10_tell 47 = .ok (.aaload, 1) := by decide +kernel
theorem dX10_tell_48 : decode cX10_tell 48 = .ok (.iload_n 1, 1) := by decide +kernel
theorem dX10_tell_49 : decode cX10_tell 49 = .ok (.iaload, 1) := by decide +kernel
theorem dX10_tell_50 : decode cX10_tell 50 = .ok (.ireturn, 1) := by decide +kernel
theorem dX10_tell_51 : decode cX10_tell 51 = .ok (.aload_n 0, 1) := by decide +kernel
theorem dX10_tell_52 : decode cX10_tell 52 = .ok (.iload_n 1, 1) := by decide +kernel
theorem dX10_tell_53 : decode cX10_tell 53 = .ok (.invokevirtual 56, 3) := by decide +kernel
theorem dX10_tell_56 : decode cX10_tell 56 = .ok (.ifCond .ge 7, 3) := by decide +kernel
theorem dX10_tell_59 : decode cX10_tell 59 = .ok (.iconst (-1), 1) := by decide +kernel
theorem dX10_tell_60 : decode cX10_tell 60 = .ok (.goto 12, 3) := by decide +kernel
theorem dX10_tell_63 : decode cX10_tell 63 = .ok (.aload_n 0, 1) := by decide +kernel
theorem dX10_tell_64 : decode cX10_tell 64 = .ok (.getfield 11, 3) := by decide +kernel
theorem dX10_tell_67 : decode cX10_tell 67 = .ok (.bipush 10, 2) := by decide +kernel
theorem dX10_tell_69 : decode cX10_tell 69 = .ok (.aaload, 1) := by decide +kernel
theorem dX10_tell_70 : decode cX10_tell 70 = .ok (.iload_n 1, 1) := by decide +kernel
theorem dX10_tell_71 : decode cX10_tell 71 = .ok (.iaload, 1) := by decide +kernel
theorem dX10_tell_72 : decode cX10_tell 72 = .ok (.ireturn, 1) := by decide +kernel
theorem dX10_tell_73 : decode cX10_tell 73 = .ok (.aload_n 0, 1) := by decide +kernel
theorem dX10_tell_74 : decode cX10_tell 74 = .ok (.iload_n 1, 1) := by decide +kernel
theorem dX10_tell_75 : decode cX10_tell 75 = .ok (.invokevirtual 56, 3) := by decide +kernel
theorem dX10_tell_78 : decode cX10_tell 78 = .ok (.ifCond .ge 7, 3) := by decide +kernel
theorem dX10_tell_81 : decode cX10_tell 81 = .ok (.iconst (-1), 1) := by decide +kernel
theorem dX10_tell_82 : decode cX10_tell 82 = .ok (.goto 12, 3) := by decide +kernel
theorem dX10_tell_85 : decode cX10_tell 85 = .ok (.aload_n 0, 1) := by decide +kernel
theorem dX10_tell_86 : decode cX10_tell 86 = .ok (.getfield 11, 3) := by decide +kernel
theorem dX10_tell_89 : decode cX10_tell 89 = .ok (.bipush 11, 2) := by decide +kernel
theorem dX10_tell_91 : decode cX10_tell 91 = .ok (.aaload, 1) := by decide +kernel
theorem dX10_tell_92 : decode cX10_tell 92 = .ok (.iload_n 1, 1) := by decide +kernel
theorem dX10_tell_93 : decode cX10_tell 93 = .ok (.iaload, 1) := by decide +kernel
theorem dX10_tell_94 : decode cX10_tell 94 = .ok (.ireturn, 1) := by decide +kernel
theorem dX10_tell_95 : decode cX10_tell 95 = .ok (.iload_n 1, 1) := by decide +kernel
theorem dX10_tell_96 : decode cX10_tell 96 = .ok (.aload_n 0, 1) := by decide +kernel
theorem dX10_tell_97 : decode cX10_tell 97 = .ok (.getfield 24, 3) := by decide +kernel
theorem dX10_tell_100 : decode cX10_tell 100 = .ok (.if_icmp .ge 14, 3) := by decide +kernel
theorem dX10_tell_103 : decode cX10_tell 103 = .ok (.aload_n 0, 1) := by decide +kernel
theorem dX10_tell_104 : decode cX10_tell 104 = .ok (.getfield 16, 3) := by decide +kernel
theorem dX10_tell_107 : decode cX10_tell 107 = .ok (.iload_n 1, 1) := by decide +kernel
theorem dX10_tell_108 : decode cX10_tell 108 = .ok (.iaload, 1) := by decide +kernel
theorem dX10_tell_109 : decode cX10_tell 109 = .ok (.iconst 1, 1) := by decide +kernel
theorem dX10_tell_110 : decode cX10_tell 110 = .ok (.iadd, 1) := by decide +kernel
theorem dX10_tell_111 : decode cX10_tell 111 = .ok (.goto 4, 3) := by decide +kernel
theorem dX10_tell_114 : decode cX10_tell 114 = .ok (.iconst (-1), 1) := by decide +kernel
theorem dX10_tell_115 : decode cX10_tell 115 = .ok (.ireturn, 1) := by decide +kernel
theorem cwX10_tell : mw_cwV yX10_tell cX10_tell 3 ((some .int)) 2 := ⟨⟨wd_9, wd_1901, by decide +kernel⟩, wd_1899, wd_1900⟩
noncomputable def fX10_tell_b72 (fu : Nat) (a1 : Int32) (a2 : Int32) (s0 : Int32) (M : mwM) (L : mwL) : Option (Int32 × mwM × mwL) :=
  some (s0, M, L)
noncomputable def fX10_tell_b94 (fu : Nat) (a1 : Int32) (a2 : Int32) (s0 : Int32) (M : mwM) (L : mwL) : Option (Int32 × mwM × mwL) :=
  some (s0, M, L)
noncomputable def fX10_tell_b115 (fu : Nat) (a1 : Int32) (a2 : Int32) (s0 : Int32) (M : mwM) (L : mwL) : Option (Int32 × mwM × mwL) :=
  some (s0, M, L)
noncomputable def DX10_tell (fu : Nat) (a1 : Int32) (a2 : Int32) (M : mwM) (L : mwL) : Option (Int32 × mwM × mwL) :=
  mlet a2 (fun x1 => (if x1 = 0 then mck a1 30 (some (M 146 a1.toNatClampNeg, M, L)) else if x1 = 1 then mck a1 30 (some (M 149 a1.toNatClampNeg, M, L)) else if x1 = 2 then mb3 (DX10_entryOf fu a1 M L) (fun r11 M9 L10 => (if 0 ≤ r11 then mck a1 30 (fX10_tell_b72 fu a1 a2 (M9 151 a1.toNatClampNeg) M9 L10) else fX10_tell_b72 fu a1 a2 ((-1)) M9 L10)) else if x1 = 3 then mb3 (DX10_entryOf fu a1 M L) (fun r18 M16 L17 => (if 0 ≤ r18 then mck a1 30 (fX10_tell_b94 fu a1 a2 (M16 152 a1.toNatClampNeg) M16 L17) else fX10_tell_b94 fu a1 a2 ((-1)) M16 L17)) else (if (M 139 3) ≤ a1 then fX10_tell_b115 fu a1 a2 ((-1)) M L else mck a1 8 (fX10_tell_b115 fu a1 a2 ((M 153 a1.toNatClampNeg) + 1) M L))))
set_option maxHeartbeats 4000000 in
set_option maxRecDepth 100000 in
theorem tX10_tell (l : Launch) (G : mwG) (ad : Nat → Nat) (fu : Nat) (a1 : Int32) (a2 : Int32) (M : mwM) (L : mwL) {r0 : Int32} {M0 : mwM} {L0 : mwL} (hD : DX10_tell fu a1 a2 M L = some (r0, M0, L0)) : Met l yX10_tell (Cond.code yX10_tell cX10_tell 3 ((some .int)) :: GT) ({ frames := 1, cells := 0, slots := 0, locals := 22 }) (mw_Pre G ad NF TF FF M L [.ref (ad 139), .int a1, .int a2]) (mw_Qi G ad NF TF FF (mw_eqI r0 M0 L0)) 0 0 (mw_fr G) := by
  refine mw_enter (by decide) (Nat.le_of_ble_eq_true rfl) ?_
  intro p e s m below meth c ls C hr hlocks hnm hw hl
  have hl : lv_has ls 3 [(0, .ref (ad 139)), (1, .int a1), (2, .int a2)] := hl
  have hb72 : ∀ (s0 : Int32) (M : mwM) (L : mwL) (H : Heap) (locs : List Loc) (ls : Array Slot), fX10_tell_b72 fu a1 a2 s0 M L = some (r0, M0, L0) → mw_W G ad NF TF FF M L H locs → lv_has ls 3 [] → W p l e ({ frames := 1, cells := 0, slots := 0, locals := 22 }) s m [.ref (ad 139), .int a1, .int a2].toArray below meth c H locs 0 0 (MQ below (mw_Qi G ad NF TF FF (mw_eqI r0 M0 L0)) [.ref (ad 139), .int a1, .int a2].toArray s 0 0 (mw_fr G)) (F0 m 72 ls [.int s0]) := by
    intro s0 M L H locs ls hD hw hl
    unfold fX10_tell_b72 at hD
    exact mr_iret C hr hlocks hw rfl (Option.some.inj hD) dX10_tell_72
  have hb94 : ∀ (s0 : Int32) (M : mwM) (L : mwL) (H : Heap) (locs : List Loc) (ls : Array Slot), fX10_tell_b94 fu a1 a2 s0 M L = some (r0, M0, L0) → mw_W G ad NF TF FF M L H locs → lv_has ls 3 [] → W p l e ({ frames := 1, cells := 0, slots := 0, locals := 22 }) s m [.ref (ad 139), .int a1, .int a2].toArray below meth c H locs 0 0 (MQ below (mw_Qi G ad NF TF FF (mw_eqI r0 M0 L0)) [.ref (ad 139), .int a1, .int a2].toArray s 0 0 (mw_fr G)) (F0 m 94 ls [.int s0]) := by
    intro s0 M L H locs ls hD hw hl
    unfold fX10_tell_b94 at hD
    exact mr_iret C hr hlocks hw rfl (Option.some.inj hD) dX10_tell_94
  have hb115 : ∀ (s0 : Int32) (M : mwM) (L : mwL) (H : Heap) (locs : List Loc) (ls : Array Slot), fX10_tell_b115 fu a1 a2 s0 M L = some (r0, M0, L0) → mw_W G ad NF TF FF M L H locs → lv_has ls 3 [] → W p l e ({ frames := 1, cells := 0, slots := 0, locals := 22 }) s m [.ref (ad 139), .int a1, .int a2].toArray below meth c H locs 0 0 (MQ below (mw_Qi G ad NF TF FF (mw_eqI r0 M0 L0)) [.ref (ad 139), .int a1, .int a2].toArray s 0 0 (mw_fr G)) (F0 m 115 ls [.int s0]) := by
    intro s0 M L H locs ls hD hw hl
    unfold fX10_tell_b115 at hD
    exact mr_iret C hr hlocks hw rfl (Option.some.inj hD) dX10_tell_115
  unfold DX10_tell at hD
  refine lv_iload_n C.1.1 C.1.2.1 dX10_tell_0 rfl (lv_at hl 2 rfl) ?_
  obtain ⟨x1, ex1, hD⟩ := g_let hD
  refine W.eq (g2 := F0 m 1 ls (.int x1 :: [])) (by rw [ex1]) ?_
  by_cases c2 : x1 = 0
  · replace hD := g_pos c2 hD
    refine lv_tableIn (tgt := 32) C.1.1 C.1.2.1 dX10_tell_1 (by rw [c2]; decide) (by rw [c2]; decide) (off := 31) (by rw [c2]; decide) (by decide) ?_
    refine lv_aload_n C.1.1 C.1.2.1 dX10_tell_32 rfl (lv_at hl 0 rfl) ?_
    refine mr_getR C hw kc_10 0 (by decide) tf_139 ff_139_0 wd_328 dX10_tell_33 (by decide) rfl ?_
    refine lv_iconst (v := 5) C.1.1 C.1.2.1 dX10_tell_36 (by decide) ?_
    refine mr_aald C hw (by decide) tf_140 (by decide) (by decide) rfl rfl (show vp_in 5 12 from by unfold vp_in; decide) ff_140_5 dX10_tell_37 ?_
    refine lv_iload_n C.1.1 C.1.2.1 dX10_tell_38 rfl (lv_at hl 1 rfl) ?_
    obtain ⟨q4, hD⟩ := g_ck hD
    refine mr_iald C hw (by decide) tf_146 q4 dX10_tell_39 ?_
    exact mr_iret C hr hlocks hw rfl (Option.some.inj hD) dX10_tell_40
  replace hD := g_neg c2 hD
  by_cases c5 : x1 = 1
  · replace hD := g_pos c5 hD
    refine lv_tableIn (tgt := 41) C.1.1 C.1.2.1 dX10_tell_1 (by rw [c5]; decide) (by rw [c5]; decide) (off := 40) (by rw [c5]; decide) (by decide) ?_
    refine lv_aload_n C.1.1 C.1.2.1 dX10_tell_41 rfl (lv_at hl 0 rfl) ?_
    refine mr_getR C hw kc_10 0 (by decide) tf_139 ff_139_0 wd_328 dX10_tell_42 (by decide) rfl ?_
    refine lv_bipush (v := 8) C.1.1 C.1.2.1 dX10_tell_45 (by decide) ?_
    refine mr_aald C hw (by decide) tf_140 (by decide) (by decide) rfl rfl (show vp_in 8 12 from by unfold vp_in; decide) ff_140_8 dX10_tell_47 ?_
    refine lv_iload_n C.1.1 C.1.2.1 dX10_tell_48 rfl (lv_at hl 1 rfl) ?_
    obtain ⟨q7, hD⟩ := g_ck hD
    refine mr_iald C hw (by decide) tf_149 q7 dX10_tell_49 ?_
    exact mr_iret C hr hlocks hw rfl (Option.some.inj hD) dX10_tell_50
  replace hD := g_neg c5 hD
  by_cases c8 : x1 = 2
  · replace hD := g_pos c8 hD
    refine lv_tableIn (tgt := 51) C.1.1 C.1.2.1 dX10_tell_1 (by rw [c8]; decide) (by rw [c8]; decide) (off := 50) (by rw [c8]; decide) (by decide) ?_
    refine lv_aload_n C.1.1 C.1.2.1 dX10_tell_51 rfl (lv_at hl 0 rfl) ?_
    refine lv_iload_n C.1.1 C.1.2.1 dX10_tell_52 rfl (lv_at hl 1 rfl) ?_
    obtain ⟨r11, M9, L10, h1, hD⟩ := g_b3 hD
    refine md_cvI (As := [.int a1]) (rest := []) C hw (tX10_entryOf l G ad fu a1 M L h1) kc_10 (by decide) tf_139 wd_1739 cwX10_entryOf ⟨Nat.le_of_ble_eq_true rfl, Nat.le_of_ble_eq_true rfl⟩ rfl hl.1 (Nat.le_of_ble_eq_true rfl) dX10_tell_53 rfl rfl ⟨Nat.zero_le _, Nat.zero_le _⟩ rfl (fun H locs hw => ?_)
    refine lv_if_ge (tgt := 63) C.1.1 C.1.2.1 dX10_tell_56 (by decide) (fun c12 => ?_) (fun c12 => ?_)
    · replace hD := g_pos c12 hD
      refine lv_aload_n C.1.1 C.1.2.1 dX10_tell_63 rfl (lv_at hl 0 rfl) ?_
      refine mr_getR C hw kc_10 0 (by decide) tf_139 ff_139_0 wd_328 dX10_tell_64 (by decide) rfl ?_
      refine lv_bipush (v := 10) C.1.1 C.1.2.1 dX10_tell_67 (by decide) ?_
      refine mr_aald C hw (by decide) tf_140 (by decide) (by decide) rfl rfl (show vp_in 10 12 from by unfold vp_in; decide) ff_140_10 dX10_tell_69 ?_
      refine lv_iload_n C.1.1 C.1.2.1 dX10_tell_70 rfl (lv_at hl 1 rfl) ?_
      obtain ⟨q14, hD⟩ := g_ck hD
      refine mr_iald C hw (by decide) tf_151 q14 dX10_tell_71 ?_
      exact hb72 (M9 151 a1.toNatClampNeg) M9 L10 _ _ ls hD hw (lv_sub hl [] rfl)
    · replace hD := g_neg c12 hD
      refine lv_iconst (v := (-1)) C.1.1 C.1.2.1 dX10_tell_59 (by decide) ?_
      refine lv_goto (tgt := 72) C.1.1 C.1.2.1 dX10_tell_60 (by decide) ?_
      exact hb72 ((-1)) M9 L10 _ _ ls hD hw (lv_sub hl [] rfl)
  replace hD := g_neg c8 hD
  by_cases c15 : x1 = 3
  · replace hD := g_pos c15 hD
    refine lv_tableIn (tgt := 73) C.1.1 C.1.2.1 dX10_tell_1 (by rw [c15]; decide) (by rw [c15]; decide) (off := 72) (by rw [c15]; decide) (by decide) ?_
    refine lv_aload_n C.1.1 C.1.2.1 dX10_tell_73 rfl (lv_at hl 0 rfl) ?_
    refine lv_iload_n C.1.1 C.1.2.1 dX10_tell_74 rfl (lv_at hl 1 rfl) ?_
    obtain ⟨r18, M16, L17, h1, hD⟩ := g_b3 hD
    refine md_cvI (As := [.int a1]) (rest := []) C hw (tX10_entryOf l G ad fu a1 M L h1) kc_10 (by decide) tf_139 wd_1739 cwX10_entryOf ⟨Nat.le_of_ble_eq_true rfl, Nat.le_of_ble_eq_true rfl⟩ rfl hl.1 (Nat.le_of_ble_eq_true rfl) dX10_tell_75 rfl rfl ⟨Nat.zero_le _, Nat.zero_le _⟩ rfl (fun H locs hw => ?_)
    refine lv_if_ge (tgt := 85) C.1.1 C.1.2.1 dX10_tell_78 (by decide) (fun c19 => ?_) (fun c19 => ?_)
    · replace hD := g_pos c19 hD
      refine lv_aload_n C.1.1 C.1.2.1 dX10_tell_85 rfl (lv_at hl 0 rfl) ?_
      refine mr_getR C hw kc_10 0 (by decide) tf_139 ff_139_0 wd_328 dX10_tell_86 (by decide) rfl ?_
      refine lv_bipush (v := 11) C.1.1 C.1.2.1 dX10_tell_89 (by decide) ?_
      refine mr_aald C hw (by decide) tf_140 (by decide) (by decide) rfl rfl (show vp_in 11 12 from by unfold vp_in; decide) ff_140_11 dX10_tell_91 ?_
      refine lv_iload_n C.1.1 C.1.2.1 dX10_tell_92 rfl (lv_at hl 1 rfl) ?_
      obtain ⟨q21, hD⟩ := g_ck hD
      refine mr_iald C hw (by decide) tf_152 q21 dX10_tell_93 ?_
      exact hb94 (M16 152 a1.toNatClampNeg) M16 L17 _ _ ls hD hw (lv_sub hl [] rfl)
    · replace hD := g_neg c19 hD
      refine lv_iconst (v := (-1)) C.1.1 C.1.2.1 dX10_tell_81 (by decide) ?_
      refine lv_goto (tgt := 94) C.1.1 C.1.2.1 dX10_tell_82 (by decide) ?_
      exact hb94 ((-1)) M16 L17 _ _ ls hD hw (lv_sub hl [] rfl)
  replace hD := g_neg c15 hD
  have nc2 : ¬ x1.toInt = 0 := fun q => c2 (Int32.toInt_inj.mp (q.trans (by decide)))
  have nc5 : ¬ x1.toInt = 1 := fun q => c5 (Int32.toInt_inj.mp (q.trans (by decide)))
  have nc8 : ¬ x1.toInt = 2 := fun q => c8 (Int32.toInt_inj.mp (q.trans (by decide)))
  have nc15 : ¬ x1.toInt = 3 := fun q => c15 (Int32.toInt_inj.mp (q.trans (by decide)))
  refine lv_tableOut (tgt := 95) C.1.1 C.1.2.1 dX10_tell_1 (by omega) (by decide) ?_
  refine lv_iload_n C.1.1 C.1.2.1 dX10_tell_95 rfl (lv_at hl 1 rfl) ?_
  refine lv_aload_n C.1.1 C.1.2.1 dX10_tell_96 rfl (lv_at hl 0 rfl) ?_
  refine mr_getI C hw kc_10 3 (by decide) tf_139 wd_334 dX10_tell_97 (by decide) rfl ?_
  refine lv_icmp_ge (tgt := 114) C.1.1 C.1.2.1 dX10_tell_100 (by decide) (fun c22 => ?_) (fun c22 => ?_)
  · replace hD := g_pos c22 hD
    refine lv_iconst (v := (-1)) C.1.1 C.1.2.1 dX10_tell_114 (by decide) ?_
    exact hb115 ((-1)) M L _ _ ls hD hw (lv_sub hl [] rfl)
  · replace hD := g_neg c22 hD
    refine lv_aload_n C.1.1 C.1.2.1 dX10_tell_103 rfl (lv_at hl 0 rfl) ?_
    refine mr_getR C hw kc_10 1 (by decide) tf_139 ff_139_1 wd_329 dX10_tell_104 (by decide) rfl ?_
    refine lv_iload_n C.1.1 C.1.2.1 dX10_tell_107 rfl (lv_at hl 1 rfl) ?_
    obtain ⟨q23, hD⟩ := g_ck hD
    refine mr_iald C hw (by decide) tf_153 q23 dX10_tell_108 ?_
    refine lv_iconst (v := 1) C.1.1 C.1.2.1 dX10_tell_109 (by decide) ?_
    refine lv_iadd C.1.1 C.1.2.1 dX10_tell_110 ?_
    refine lv_goto (tgt := 115) C.1.1 C.1.2.1 dX10_tell_111 (by decide) ?_
    exact hb115 ((M 153 a1.toNatClampNeg) + 1) M L _ _ ls hD hw (lv_sub hl [] rfl)

theorem dX10_statusOf_0 : decode cX10_statusOf 0 = .ok (.aload_n 0, 1) := by decide +kernel
theorem dX10_statusOf_1 : decode cX10_statusOf 1 = .ok (.getfield 11, 3) := by decide +kernel
theorem dX10_statusOf_4 : decode cX10_statusOf 4 = .ok (.iconst 5, 1) := by decide +kernel
theorem dX10_statusOf_5 : decode cX10_statusOf 5 = .ok (.aaload, 1) := by decide +kernel
theorem dX10_statusOf_6 : decode cX10_statusOf 6 = .ok (.iload_n 1, 1) := by decide +kernel
theorem dX10_statusOf_7 : decode cX10_statusOf 7 = .ok (.iaload, 1) := by decide +kernel
theorem dX10_statusOf_8 : decode cX10_statusOf 8 = .ok (.ireturn, 1) := by decide +kernel
theorem cwX10_statusOf : mw_cwV yX10_statusOf cX10_statusOf 2 ((some .int)) 1 := ⟨⟨wd_9, wd_1581, by decide +kernel⟩, wd_1579, wd_1580⟩
noncomputable def DX10_statusOf (fu : Nat) (a1 : Int32) (M : mwM) (L : mwL) : Option (Int32 × mwM × mwL) :=
  mck a1 30 (some (M 146 a1.toNatClampNeg, M, L))
set_option maxHeartbeats 4000000 in
set_option maxRecDepth 100000 in
theorem tX10_statusOf (l : Launch) (G : mwG) (ad : Nat → Nat) (fu : Nat) (a1 : Int32) (M : mwM) (L : mwL) {r0 : Int32} {M0 : mwM} {L0 : mwL} (hD : DX10_statusOf fu a1 M L = some (r0, M0, L0)) : Met l yX10_statusOf (Cond.code yX10_statusOf cX10_statusOf 2 ((some .int)) :: GT) ({ frames := 0, cells := 0, slots := 0, locals := 0 }) (mw_Pre G ad NF TF FF M L [.ref (ad 139), .int a1]) (mw_Qi G ad NF TF FF (mw_eqI r0 M0 L0)) 0 0 (mw_fr G) := by
  refine mw_enter (by decide) (Nat.le_of_ble_eq_true rfl) ?_
  intro p e s m below meth c ls C hr hlocks hnm hw hl
  have hl : lv_has ls 2 [(0, .ref (ad 139)), (1, .int a1)] := hl
  unfold DX10_statusOf at hD
  refine lv_aload_n C.1.1 C.1.2.1 dX10_statusOf_0 rfl (lv_at hl 0 rfl) ?_
  refine mr_getR C hw kc_10 0 (by decide) tf_139 ff_139_0 wd_328 dX10_statusOf_1 (by decide) rfl ?_
  refine lv_iconst (v := 5) C.1.1 C.1.2.1 dX10_statusOf_4 (by decide) ?_
  refine mr_aald C hw (by decide) tf_140 (by decide) (by decide) rfl rfl (show vp_in 5 12 from by unfold vp_in; decide) ff_140_5 dX10_statusOf_5 ?_
  refine lv_iload_n C.1.1 C.1.2.1 dX10_statusOf_6 rfl (lv_at hl 1 rfl) ?_
  obtain ⟨q2, hD⟩ := g_ck hD
  refine mr_iald C hw (by decide) tf_146 q2 dX10_statusOf_7 ?_
  exact mr_iret C hr hlocks hw rfl (Option.some.inj hD) dX10_statusOf_8
