theorem dX0_seeClearing_0 : decode cX0_seeClearing 0 = .ok (.aload_n 0, 1) := by decide +kernel
theorem dX0_seeClearing_1 : decode cX0_seeClearing 1 = .ok (.getfield 24, 3) := by decide +kernel
theorem dX0_seeClearing_4 : decode cX0_seeClearing 4 = .ok (.iconst 1, 1) := by decide +kernel
theorem dX0_seeClearing_5 : decode cX0_seeClearing 5 = .ok (.aaload, 1) := by decide +kernel
theorem dX0_seeClearing_6 : decode cX0_seeClearing 6 = .ok (.iload_n 1, 1) := by decide +kernel
theorem dX0_seeClearing_7 : decode cX0_seeClearing 7 = .ok (.dup2, 1) := by decide +kernel
theorem dX0_seeClearing_8 : decode cX0_seeClearing 8 = .ok (.iaload, 1) := by decide +kernel
theorem dX0_seeClearing_9 : decode cX0_seeClearing 9 = .ok (.iconst 1, 1) := by decide +kernel
theorem dX0_seeClearing_10 : decode cX0_seeClearing 10 = .ok (.isub, 1) := by decide +kernel
theorem dX0_seeClearing_11 : decode cX0_seeClearing 11 = .ok (.iastore, 1) := by decide +kernel
theorem dX0_seeClearing_12 : decode cX0_seeClearing 12 = .ok (.iload_n 2, 1) := by decide +kernel
theorem dX0_seeClearing_13 : decode cX0_seeClearing 13 = .ok (.ifCond .ne 28, 3) := by decide +kernel
theorem dX0_seeClearing_16 : decode cX0_seeClearing 16 = .ok (.aload_n 0, 1) := by decide +kernel
theorem dX0_seeClearing_17 : decode cX0_seeClearing 17 = .ok (.iload_n 1, 1) := by decide +kernel
theorem dX0_seeClearing_18 : decode cX0_seeClearing 18 = .ok (.aload_n 0, 1) := by decide +kernel
theorem dX0_seeClearing_19 : decode cX0_seeClearing 19 = .ok (.getfield 24, 3) := by decide +kernel
theorem dX0_seeClearing_22 : decode cX0_seeClearing 22 = .ok (.iconst 1, 1) := by decide +kernel
theorem dX0_seeClearing_23 : decode cX0_seeClearing 23 = .ok (.aaload, 1) := by decide +kernel
theorem dX0_seeClearing_24 : decode cX0_seeClearing 24 = .ok (.iload_n 1, 1) := by decide +kernel
theorem dX0_seeClearing_25 : decode cX0_seeClearing 25 = .ok (.iaload, 1) := by decide +kernel
theorem dX0_seeClearing_26 : decode cX0_seeClearing 26 = .ok (.ifCond .ne 7, 3) := by decide +kernel
theorem dX0_seeClearing_29 : decode cX0_seeClearing 29 = .ok (.iconst 5, 1) := by decide +kernel
theorem dX0_seeClearing_30 : decode cX0_seeClearing 30 = .ok (.goto 4, 3) := by decide +kernel
theorem dX0_seeClearing_33 : decode cX0_seeClearing 33 = .ok (.iconst 2, 1) := by decide +kernel
theorem dX0_seeClearing_34 : decode cX0_seeClearing 34 = .ok (.iload_n 3, 1) := by decide +kernel
theorem dX0_seeClearing_35 : decode cX0_seeClearing 35 = .ok (.invokevirtual 110, 3) := by decide +kernel
theorem dX0_seeClearing_38 : decode cX0_seeClearing 38 = .ok (.goto 22, 3) := by decide +kernel
theorem dX0_seeClearing_41 : decode cX0_seeClearing 41 = .ok (.aload_n 0, 1) := by decide +kernel
theorem dX0_seeClearing_42 : decode cX0_seeClearing 42 = .ok (.getfield 24, 3) := by decide +kernel
theorem dX0_seeClearing_45 : decode cX0_seeClearing 45 = .ok (.iconst 1, 1) := by decide +kernel
theorem dX0_seeClearing_46 : decode cX0_seeClearing 46 = .ok (.aaload, 1) := by decide +kernel
theorem dX0_seeClearing_47 : decode cX0_seeClearing 47 = .ok (.iload_n 1, 1) := by decide +kernel
theorem dX0_seeClearing_48 : decode cX0_seeClearing 48 = .ok (.iaload, 1) := by decide +kernel
theorem dX0_seeClearing_49 : decode cX0_seeClearing 49 = .ok (.ifCond .ne 11, 3) := by decide +kernel
theorem dX0_seeClearing_52 : decode cX0_seeClearing 52 = .ok (.aload_n 0, 1) := by decide +kernel
theorem dX0_seeClearing_53 : decode cX0_seeClearing 53 = .ok (.iload_n 1, 1) := by decide +kernel
theorem dX0_seeClearing_54 : decode cX0_seeClearing 54 = .ok (.bipush 6, 2) := by decide +kernel
theorem dX0_seeClearing_56 : decode cX0_seeClearing 56 = .ok (.iconst 3, 1) := by decide +kernel
theorem dX0_seeClearing_57 : decode cX0_seeClearing 57 = .ok (.invokevirtual 101, 3) := by decide +kernel
theorem dX0_seeClearing_60 : decode cX0_seeClearing 60 = .ok (.return_, 1) := by decide +kernel
theorem cwX0_seeClearing : mw_cwV yX0_seeClearing cX0_seeClearing 4 (none) 3 := ⟨⟨wd_5, wd_1467, by decide +kernel⟩, wd_1466, sl_93⟩
set_option maxHeartbeats 4000000 in
set_option maxRecDepth 100000 in
theorem tX0_seeClearing (l : Launch) (G : mwG) (ad : Nat → Nat) (fu : Nat) (a1 : Int32) (a2 : Int32) (a3 : Int32) (M : mwM) (L : mwL) {M0 : mwM} {L0 : mwL} (hD : DX0_seeClearing fu a1 a2 a3 M L = some (M0, L0)) : Met l yX0_seeClearing (Cond.code yX0_seeClearing cX0_seeClearing 4 (none) :: GT) ({ frames := 2, cells := 0, slots := 0, locals := 46 }) (mw_Pre G ad NF TF FF M L [.ref (ad 20), .int a1, .int a2, .int a3]) (mw_Qv G ad NF TF FF (mw_eqV M0 L0)) 0 0 (mw_fr G) := by
  refine mw_enter (by decide) (Nat.le_of_ble_eq_true rfl) ?_
  intro p e s m below meth c ls C hr hlocks hnm hw hl
  have hl : lv_has ls 4 [(0, .ref (ad 20)), (1, .int a1), (2, .int a2), (3, .int a3)] := hl
  have hb60 : ∀ (M : mwM) (L : mwL) (H : Heap) (locs : List Loc) (ls : Array Slot), fX0_seeClearing_b60 fu a1 a2 a3 M L = some (M0, L0) → mw_W G ad NF TF FF M L H locs → lv_has ls 4 [] → W p l e ({ frames := 2, cells := 0, slots := 0, locals := 46 }) s m [.ref (ad 20), .int a1, .int a2, .int a3].toArray below meth c H locs 0 0 (MQ below (mw_Qv G ad NF TF FF (mw_eqV M0 L0)) [.ref (ad 20), .int a1, .int a2, .int a3].toArray s 0 0 (mw_fr G)) (F0 m 60 ls []) := by
    intro M L H locs ls hD hw hl
    unfold fX0_seeClearing_b60 at hD
    exact mr_vret C hr hlocks hw (Option.some.inj hD) dX0_seeClearing_60
  have hb34 : ∀ (s2 : Int32) (M : mwM) (L : mwL) (H : Heap) (locs : List Loc) (ls : Array Slot), fX0_seeClearing_b34 fu a1 a2 a3 s2 M L = some (M0, L0) → mw_W G ad NF TF FF M L H locs → lv_has ls 4 [(3, .int a3)] → W p l e ({ frames := 2, cells := 0, slots := 0, locals := 46 }) s m [.ref (ad 20), .int a1, .int a2, .int a3].toArray below meth c H locs 0 0 (MQ below (mw_Qv G ad NF TF FF (mw_eqV M0 L0)) [.ref (ad 20), .int a1, .int a2, .int a3].toArray s 0 0 (mw_fr G)) (F0 m 34 ls [.int s2, .int a1, .ref (ad 20)]) := by
    intro s2 M L H locs ls hD hw hl
    unfold fX0_seeClearing_b34 at hD
    refine lv_iload_n C.1.1 C.1.2.1 dX0_seeClearing_34 rfl (lv_at hl 0 rfl) ?_
    obtain ⟨M1, L2, h1, hD⟩ := g_b2 hD
    refine md_cvV (As := [.int a1, .int s2, .int a3]) (rest := []) C hw (tX0_tellFault l G ad fu a1 s2 a3 M L h1) kc_0 (by decide) tf_20 wd_1448 cwX0_tellFault ⟨Nat.le_of_ble_eq_true rfl, Nat.le_of_ble_eq_true rfl⟩ rfl hl.1 (Nat.le_of_ble_eq_true rfl) dX0_seeClearing_35 rfl rfl ⟨Nat.zero_le _, Nat.zero_le _⟩ rfl (fun H locs hw => ?_)
    refine lv_goto (tgt := 60) C.1.1 C.1.2.1 dX0_seeClearing_38 (by decide) ?_
    exact hb60 M1 L2 _ _ ls hD hw (lv_sub hl [] rfl)
  unfold DX0_seeClearing at hD
  refine lv_aload_n C.1.1 C.1.2.1 dX0_seeClearing_0 rfl (lv_at hl 0 rfl) ?_
  refine mr_getR C hw kc_0 3 (by decide) tf_20 ff_20_3 wd_176 dX0_seeClearing_1 (by decide) rfl ?_
  refine lv_iconst (v := 1) C.1.1 C.1.2.1 dX0_seeClearing_4 (by decide) ?_
  refine mr_aald C hw (by decide) tf_24 (by decide) (by decide) rfl rfl (show vp_in 1 8 from by unfold vp_in; decide) ff_24_1 dX0_seeClearing_5 ?_
  refine lv_iload_n C.1.1 C.1.2.1 dX0_seeClearing_6 rfl (lv_at hl 1 rfl) ?_
  refine lv_dup2_11 C.1.1 C.1.2.1 dX0_seeClearing_7 rfl rfl ?_
  obtain ⟨q4, hD⟩ := g_ck hD
  refine mr_iald C hw (by decide) tf_26 q4 dX0_seeClearing_8 ?_
  refine lv_iconst (v := 1) C.1.1 C.1.2.1 dX0_seeClearing_9 (by decide) ?_
  refine lv_isub C.1.1 C.1.2.1 dX0_seeClearing_10 ?_
  obtain ⟨q5, hD⟩ := g_ck hD
  obtain ⟨M6, eM6, hD⟩ := g_let hD
  refine mr_iast C hw (by decide) tf_26 q5 dX0_seeClearing_11 (fun H locs hw => ?_)
  replace hw : mw_W G ad NF TF FF M6 L H locs := by rw [eM6]; exact hw
  refine lv_iload_n C.1.1 C.1.2.1 dX0_seeClearing_12 rfl (lv_at hl 2 rfl) ?_
  refine lv_if_ne (tgt := 41) C.1.1 C.1.2.1 dX0_seeClearing_13 (by decide) (fun c7 => ?_) (fun c7 => ?_)
  · replace hD := g_neg c7 hD
    refine lv_aload_n C.1.1 C.1.2.1 dX0_seeClearing_41 rfl (lv_at hl 0 rfl) ?_
    refine mr_getR C hw kc_0 3 (by decide) tf_20 ff_20_3 wd_176 dX0_seeClearing_42 (by decide) rfl ?_
    refine lv_iconst (v := 1) C.1.1 C.1.2.1 dX0_seeClearing_45 (by decide) ?_
    refine mr_aald C hw (by decide) tf_24 (by decide) (by decide) rfl rfl (show vp_in 1 8 from by unfold vp_in; decide) ff_24_1 dX0_seeClearing_46 ?_
    refine lv_iload_n C.1.1 C.1.2.1 dX0_seeClearing_47 rfl (lv_at hl 1 rfl) ?_
    obtain ⟨q9, hD⟩ := g_ck hD
    refine mr_iald C hw (by decide) tf_26 q9 dX0_seeClearing_48 ?_
    refine lv_if_ne (tgt := 60) C.1.1 C.1.2.1 dX0_seeClearing_49 (by decide) (fun c10 => ?_) (fun c10 => ?_)
    · replace hD := g_neg c10 hD
      exact hb60 M6 L _ _ ls hD hw (lv_sub hl [] rfl)
    · replace hD := g_pos c10 hD
      refine lv_aload_n C.1.1 C.1.2.1 dX0_seeClearing_52 rfl (lv_at hl 0 rfl) ?_
      refine lv_iload_n C.1.1 C.1.2.1 dX0_seeClearing_53 rfl (lv_at hl 1 rfl) ?_
      refine lv_bipush (v := 6) C.1.1 C.1.2.1 dX0_seeClearing_54 (by decide) ?_
      refine lv_iconst (v := 3) C.1.1 C.1.2.1 dX0_seeClearing_56 (by decide) ?_
      obtain ⟨M11, L12, h1, hD⟩ := g_b2 hD
      refine md_cvV (As := [.int a1, .int 6, .int 3]) (rest := []) C hw (tX0_become l G ad fu a1 6 3 M6 L h1) kc_0 (by decide) tf_20 wd_1452 cwX0_become ⟨Nat.le_of_ble_eq_true rfl, Nat.le_of_ble_eq_true rfl⟩ rfl hl.1 (Nat.le_of_ble_eq_true rfl) dX0_seeClearing_57 rfl rfl ⟨Nat.zero_le _, Nat.zero_le _⟩ rfl (fun H locs hw => ?_)
      exact hb60 M11 L12 _ _ ls hD hw (lv_sub hl [] rfl)
  · replace hD := g_pos c7 hD
    refine lv_aload_n C.1.1 C.1.2.1 dX0_seeClearing_16 rfl (lv_at hl 0 rfl) ?_
    refine lv_iload_n C.1.1 C.1.2.1 dX0_seeClearing_17 rfl (lv_at hl 1 rfl) ?_
    refine lv_aload_n C.1.1 C.1.2.1 dX0_seeClearing_18 rfl (lv_at hl 0 rfl) ?_
    refine mr_getR C hw kc_0 3 (by decide) tf_20 ff_20_3 wd_176 dX0_seeClearing_19 (by decide) rfl ?_
    refine lv_iconst (v := 1) C.1.1 C.1.2.1 dX0_seeClearing_22 (by decide) ?_
    refine mr_aald C hw (by decide) tf_24 (by decide) (by decide) rfl rfl (show vp_in 1 8 from by unfold vp_in; decide) ff_24_1 dX0_seeClearing_23 ?_
    refine lv_iload_n C.1.1 C.1.2.1 dX0_seeClearing_24 rfl (lv_at hl 1 rfl) ?_
    obtain ⟨q14, hD⟩ := g_ck hD
    refine mr_iald C hw (by decide) tf_26 q14 dX0_seeClearing_25 ?_
    refine lv_if_ne (tgt := 33) C.1.1 C.1.2.1 dX0_seeClearing_26 (by decide) (fun c15 => ?_) (fun c15 => ?_)
    · replace hD := g_neg c15 hD
      refine lv_iconst (v := 2) C.1.1 C.1.2.1 dX0_seeClearing_33 (by decide) ?_
      exact hb34 2 M6 L _ _ ls hD hw (lv_sub hl [3] rfl)
    · replace hD := g_pos c15 hD
      refine lv_iconst (v := 5) C.1.1 C.1.2.1 dX0_seeClearing_29 (by decide) ?_
      refine lv_goto (tgt := 34) C.1.1 C.1.2.1 dX0_seeClearing_30 (by decide) ?_
      exact hb34 5 M6 L _ _ ls hD hw (lv_sub hl [3] rfl)

theorem dX0_seePausing_0 : decode cX0_seePausing 0 = .ok (.aload_n 0, 1) := by decide +kernel
theorem dX0_seePausing_1 : decode cX0_seePausing 1 = .ok (.getfield 24, 3) := by decide +kernel
theorem dX0_seePausing_4 : decode cX0_seePausing 4 = .ok (.iconst 1, 1) := by decide +kernel
theorem dX0_seePausing_5 : decode cX0_seePausing 5 = .ok (.aaload, 1) := by decide +kernel
theorem dX0_seePausing_6 : decode cX0_seePausing 6 = .ok (.iload_n 1, 1) := by decide +kernel
theorem dX0_seePausing_7 : decode cX0_seePausing 7 = .ok (.dup2, 1) := by decide +kernel
theorem dX0_seePausing_8 : decode cX0_seePausing 8 = .ok (.iaload, 1) := by decide +kernel
theorem dX0_seePausing_9 : decode cX0_seePausing 9 = .ok (.iconst 1, 1) := by decide +kernel
theorem dX0_seePausing_10 : decode cX0_seePausing 10 = .ok (.isub, 1) := by decide +kernel
theorem dX0_seePausing_11 : decode cX0_seePausing 11 = .ok (.iastore, 1) := by decide +kernel
theorem dX0_seePausing_12 : decode cX0_seePausing 12 = .ok (.iload_n 2, 1) := by decide +kernel
theorem dX0_seePausing_13 : decode cX0_seePausing 13 = .ok (.ifCond .ne 24, 3) := by decide +kernel
theorem dX0_seePausing_16 : decode cX0_seePausing 16 = .ok (.aload_n 0, 1) := by decide +kernel
theorem dX0_seePausing_17 : decode cX0_seePausing 17 = .ok (.getfield 24, 3) := by decide +kernel
theorem dX0_seePausing_20 : decode cX0_seePausing 20 = .ok (.iconst 1, 1) := by decide +kernel
theorem dX0_seePausing_21 : decode cX0_seePausing 21 = .ok (.aaload, 1) := by decide +kernel
theorem dX0_seePausing_22 : decode cX0_seePausing 22 = .ok (.iload_n 1, 1) := by decide +kernel
theorem dX0_seePausing_23 : decode cX0_seePausing 23 = .ok (.iaload, 1) := by decide +kernel
theorem dX0_seePausing_24 : decode cX0_seePausing 24 = .ok (.ifCond .le 13, 3) := by decide +kernel
theorem dX0_seePausing_27 : decode cX0_seePausing 27 = .ok (.aload_n 0, 1) := by decide +kernel
theorem dX0_seePausing_28 : decode cX0_seePausing 28 = .ok (.iload_n 1, 1) := by decide +kernel
theorem dX0_seePausing_29 : decode cX0_seePausing 29 = .ok (.iconst 5, 1) := by decide +kernel
theorem dX0_seePausing_30 : decode cX0_seePausing 30 = .ok (.iload_n 3, 1) := by decide +kernel
theorem dX0_seePausing_31 : decode cX0_seePausing 31 = .ok (.invokevirtual 110, 3) := by decide +kernel
theorem dX0_seePausing_34 : decode cX0_seePausing 34 = .ok (.goto 67, 3) := by decide +kernel
theorem dX0_seePausing_37 : decode cX0_seePausing 37 = .ok (.iload_n 2, 1) := by decide +kernel
theorem dX0_seePausing_38 : decode cX0_seePausing 38 = .ok (.ifCond .ne 31, 3) := by decide +kernel
theorem dX0_seePausing_41 : decode cX0_seePausing 41 = .ok (.aload_n 0, 1) := by decide +kernel
theorem dX0_seePausing_42 : decode cX0_seePausing 42 = .ok (.getfield 24, 3) := by decide +kernel
theorem dX0_seePausing_45 : decode cX0_seePausing 45 = .ok (.iconst 5, 1) := by decide +kernel
theorem dX0_seePausing_46 : decode cX0_seePausing 46 = .ok (.aaload, 1) := by decide +kernel
theorem dX0_seePausing_47 : decode cX0_seePausing 47 = .ok (.iload_n 1, 1) := by decide +kernel
theorem dX0_seePausing_48 : decode cX0_seePausing 48 = .ok (.iaload, 1) := by decide +kernel
theorem dX0_seePausing_49 : decode cX0_seePausing 49 = .ok (.ifCond .le 20, 3) := by decide +kernel
theorem dX0_seePausing_52 : decode cX0_seePausing 52 = .ok (.aload_n 0, 1) := by decide +kernel
theorem dX0_seePausing_53 : decode cX0_seePausing 53 = .ok (.iload_n 1, 1) := by decide +kernel
theorem dX0_seePausing_54 : decode cX0_seePausing 54 = .ok (.invokevirtual 77, 3) := by decide +kernel
theorem dX0_seePausing_57 : decode cX0_seePausing 57 = .ok (.aload_n 0, 1) := by decide +kernel
theorem dX0_seePausing_58 : decode cX0_seePausing 58 = .ok (.getfield 24, 3) := by decide +kernel
theorem dX0_seePausing_61 : decode cX0_seePausing 61 = .ok (.iconst 3, 1) := by decide +kernel
theorem dX0_seePausing_62 : decode cX0_seePausing 62 = .ok (.aaload, 1) := by decide +kernel
theorem dX0_seePausing_63 : decode cX0_seePausing 63 = .ok (.iload_n 1, 1) := by decide +kernel
theorem dX0_seePausing_64 : decode cX0_seePausing 64 = .ok (.iconst 1, 1) := by decide +kernel
theorem dX0_seePausing_65 : decode cX0_seePausing 65 = .ok (.iastore, 1) := by decide +kernel
theorem dX0_seePausing_66 : decode cX0_seePausing 66 = .ok (.goto 35, 3) := by decide +kernel
theorem dX0_seePausing_69 : decode cX0_seePausing 69 = .ok (.iload_n 2, 1) := by decide +kernel
theorem dX0_seePausing_70 : decode cX0_seePausing 70 = .ok (.ifCond .ne 11, 3) := by decide +kernel
theorem dX0_seePausing_73 : decode cX0_seePausing 73 = .ok (.aload_n 0, 1) := by decide +kernel
theorem dX0_seePausing_74 : decode cX0_seePausing 74 = .ok (.iload_n 1, 1) := by decide +kernel
theorem dX0_seePausing_75 : decode cX0_seePausing 75 = .ok (.invokevirtual 85, 3) := by decide +kernel
theorem dX0_seePausing_78 : decode cX0_seePausing 78 = .ok (.goto 23, 3) := by decide +kernel
theorem dX0_seePausing_81 : decode cX0_seePausing 81 = .ok (.aload_n 0, 1) := by decide +kernel
theorem dX0_seePausing_82 : decode cX0_seePausing 82 = .ok (.getfield 24, 3) := by decide +kernel
theorem dX0_seePausing_85 : decode cX0_seePausing 85 = .ok (.iconst 1, 1) := by decide +kernel
theorem dX0_seePausing_86 : decode cX0_seePausing 86 = .ok (.aaload, 1) := by decide +kernel
theorem dX0_seePausing_87 : decode cX0_seePausing 87 = .ok (.iload_n 1, 1) := by decide +kernel
theorem dX0_seePausing_88 : decode cX0_seePausing 88 = .ok (.iaload, 1) := by decide +kernel
theorem dX0_seePausing_89 : decode cX0_seePausing 89 = .ok (.ifCond .ne 12, 3) := by decide +kernel
theorem dX0_seePausing_92 : decode cX0_seePausing 92 = .ok (.aload_n 0, 1) := by decide +kernel
theorem dX0_seePausing_93 : decode cX0_seePausing 93 = .ok (.getfield 24, 3) := by decide +kernel
theorem dX0_seePausing_96 : decode cX0_seePausing 96 = .ok (.iconst 0, 1) := by decide +kernel
theorem dX0_seePausing_97 : decode cX0_seePausing 97 = .ok (.aaload, 1) := by decide +kernel
theorem dX0_seePausing_98 : decode cX0_seePausing 98 = .ok (.iload_n 1, 1) := by decide +kernel
theorem dX0_seePausing_99 : decode cX0_seePausing 99 = .ok (.iconst 0, 1) := by decide +kernel
theorem dX0_seePausing_100 : decode cX0_seePausing 100 = .ok (.iastore, 1) := by decide +kernel
theorem dX0_seePausing_101 : decode cX0_seePausing 101 = .ok (.return_, 1) := by decide +kernel
theorem cwX0_seePausing : mw_cwV yX0_seePausing cX0_seePausing 4 (none) 3 := ⟨⟨wd_5, wd_1471, by decide +kernel⟩, wd_1470, sl_94⟩
set_option maxHeartbeats 4000000 in
set_option maxRecDepth 100000 in
theorem tX0_seePausing (l : Launch) (G : mwG) (ad : Nat → Nat) (fu : Nat) (a1 : Int32) (a2 : Int32) (a3 : Int32) (M : mwM) (L : mwL) {M0 : mwM} {L0 : mwL} (hD : DX0_seePausing fu a1 a2 a3 M L = some (M0, L0)) : Met l yX0_seePausing (Cond.code yX0_seePausing cX0_seePausing 4 (none) :: GT) ({ frames := 3, cells := 0, slots := 0, locals := 75 }) (mw_Pre G ad NF TF FF M L [.ref (ad 20), .int a1, .int a2, .int a3]) (mw_Qv G ad NF TF FF (mw_eqV M0 L0)) 0 0 (mw_fr G) := by
  refine mw_enter (by decide) (Nat.le_of_ble_eq_true rfl) ?_
  intro p e s m below meth c ls C hr hlocks hnm hw hl
  have hl : lv_has ls 4 [(0, .ref (ad 20)), (1, .int a1), (2, .int a2), (3, .int a3)] := hl
  have hb101 : ∀ (M : mwM) (L : mwL) (H : Heap) (locs : List Loc) (ls : Array Slot), fX0_seePausing_b101 fu a1 a2 a3 M L = some (M0, L0) → mw_W G ad NF TF FF M L H locs → lv_has ls 4 [] → W p l e ({ frames := 3, cells := 0, slots := 0, locals := 75 }) s m [.ref (ad 20), .int a1, .int a2, .int a3].toArray below meth c H locs 0 0 (MQ below (mw_Qv G ad NF TF FF (mw_eqV M0 L0)) [.ref (ad 20), .int a1, .int a2, .int a3].toArray s 0 0 (mw_fr G)) (F0 m 101 ls []) := by
    intro M L H locs ls hD hw hl
    unfold fX0_seePausing_b101 at hD
    exact mr_vret C hr hlocks hw (Option.some.inj hD) dX0_seePausing_101
  have hb69 : ∀ (M : mwM) (L : mwL) (H : Heap) (locs : List Loc) (ls : Array Slot), fX0_seePausing_b69 fu a1 a2 a3 M L = some (M0, L0) → mw_W G ad NF TF FF M L H locs → lv_has ls 4 [(0, .ref (ad 20)), (1, .int a1), (2, .int a2)] → W p l e ({ frames := 3, cells := 0, slots := 0, locals := 75 }) s m [.ref (ad 20), .int a1, .int a2, .int a3].toArray below meth c H locs 0 0 (MQ below (mw_Qv G ad NF TF FF (mw_eqV M0 L0)) [.ref (ad 20), .int a1, .int a2, .int a3].toArray s 0 0 (mw_fr G)) (F0 m 69 ls []) := by
    intro M L H locs ls hD hw hl
    unfold fX0_seePausing_b69 at hD
    refine lv_iload_n C.1.1 C.1.2.1 dX0_seePausing_69 rfl (lv_at hl 2 rfl) ?_
    refine lv_if_ne (tgt := 81) C.1.1 C.1.2.1 dX0_seePausing_70 (by decide) (fun c10 => ?_) (fun c10 => ?_)
    · replace hD := g_neg c10 hD
      refine lv_aload_n C.1.1 C.1.2.1 dX0_seePausing_81 rfl (lv_at hl 0 rfl) ?_
      refine mr_getR C hw kc_0 3 (by decide) tf_20 ff_20_3 wd_176 dX0_seePausing_82 (by decide) rfl ?_
      refine lv_iconst (v := 1) C.1.1 C.1.2.1 dX0_seePausing_85 (by decide) ?_
      refine mr_aald C hw (by decide) tf_24 (by decide) (by decide) rfl rfl (show vp_in 1 8 from by unfold vp_in; decide) ff_24_1 dX0_seePausing_86 ?_
      refine lv_iload_n C.1.1 C.1.2.1 dX0_seePausing_87 rfl (lv_at hl 1 rfl) ?_
      obtain ⟨q12, hD⟩ := g_ck hD
      refine mr_iald C hw (by decide) tf_26 q12 dX0_seePausing_88 ?_
      refine lv_if_ne (tgt := 101) C.1.1 C.1.2.1 dX0_seePausing_89 (by decide) (fun c13 => ?_) (fun c13 => ?_)
      · replace hD := g_neg c13 hD
        exact hb101 M L _ _ ls hD hw (lv_sub hl [] rfl)
      · replace hD := g_pos c13 hD
        refine lv_aload_n C.1.1 C.1.2.1 dX0_seePausing_92 rfl (lv_at hl 0 rfl) ?_
        refine mr_getR C hw kc_0 3 (by decide) tf_20 ff_20_3 wd_176 dX0_seePausing_93 (by decide) rfl ?_
        refine lv_iconst (v := 0) C.1.1 C.1.2.1 dX0_seePausing_96 (by decide) ?_
        refine mr_aald C hw (by decide) tf_24 (by decide) (by decide) rfl rfl (show vp_in 0 8 from by unfold vp_in; decide) ff_24_0 dX0_seePausing_97 ?_
        refine lv_iload_n C.1.1 C.1.2.1 dX0_seePausing_98 rfl (lv_at hl 1 rfl) ?_
        refine lv_iconst (v := 0) C.1.1 C.1.2.1 dX0_seePausing_99 (by decide) ?_
        obtain ⟨q15, hD⟩ := g_ck hD
        obtain ⟨M16, eM16, hD⟩ := g_let hD
        refine mr_iast C hw (by decide) tf_25 q15 dX0_seePausing_100 (fun H locs hw => ?_)
        replace hw : mw_W G ad NF TF FF M16 L H locs := by rw [eM16]; exact hw
        exact hb101 M16 L _ _ ls hD hw (lv_sub hl [] rfl)
    · replace hD := g_pos c10 hD
      refine lv_aload_n C.1.1 C.1.2.1 dX0_seePausing_73 rfl (lv_at hl 0 rfl) ?_
      refine lv_iload_n C.1.1 C.1.2.1 dX0_seePausing_74 rfl (lv_at hl 1 rfl) ?_
      obtain ⟨M17, L18, h1, hD⟩ := g_b2 hD
      refine md_cvV (As := [.int a1]) (rest := []) C hw (tX0_beginListening l G ad fu a1 M L h1) kc_0 (by decide) tf_20 wd_1377 cwX0_beginListening ⟨Nat.le_of_ble_eq_true rfl, Nat.le_of_ble_eq_true rfl⟩ rfl hl.1 (Nat.le_of_ble_eq_true rfl) dX0_seePausing_75 rfl rfl ⟨Nat.zero_le _, Nat.zero_le _⟩ rfl (fun H locs hw => ?_)
      refine lv_goto (tgt := 101) C.1.1 C.1.2.1 dX0_seePausing_78 (by decide) ?_
      exact hb101 M17 L18 _ _ ls hD hw (lv_sub hl [] rfl)
  have hb37 : ∀ (M : mwM) (L : mwL) (H : Heap) (locs : List Loc) (ls : Array Slot), fX0_seePausing_b37 fu a1 a2 a3 M L = some (M0, L0) → mw_W G ad NF TF FF M L H locs → lv_has ls 4 [(0, .ref (ad 20)), (1, .int a1), (2, .int a2)] → W p l e ({ frames := 3, cells := 0, slots := 0, locals := 75 }) s m [.ref (ad 20), .int a1, .int a2, .int a3].toArray below meth c H locs 0 0 (MQ below (mw_Qv G ad NF TF FF (mw_eqV M0 L0)) [.ref (ad 20), .int a1, .int a2, .int a3].toArray s 0 0 (mw_fr G)) (F0 m 37 ls []) := by
    intro M L H locs ls hD hw hl
    unfold fX0_seePausing_b37 at hD
    refine lv_iload_n C.1.1 C.1.2.1 dX0_seePausing_37 rfl (lv_at hl 2 rfl) ?_
    refine lv_if_ne (tgt := 69) C.1.1 C.1.2.1 dX0_seePausing_38 (by decide) (fun c1 => ?_) (fun c1 => ?_)
    · replace hD := g_neg c1 hD
      exact hb69 M L _ _ ls hD hw (lv_sub hl [0, 1, 2] rfl)
    · replace hD := g_pos c1 hD
      refine lv_aload_n C.1.1 C.1.2.1 dX0_seePausing_41 rfl (lv_at hl 0 rfl) ?_
      refine mr_getR C hw kc_0 3 (by decide) tf_20 ff_20_3 wd_176 dX0_seePausing_42 (by decide) rfl ?_
      refine lv_iconst (v := 5) C.1.1 C.1.2.1 dX0_seePausing_45 (by decide) ?_
      refine mr_aald C hw (by decide) tf_24 (by decide) (by decide) rfl rfl (show vp_in 5 8 from by unfold vp_in; decide) ff_24_5 dX0_seePausing_46 ?_
      refine lv_iload_n C.1.1 C.1.2.1 dX0_seePausing_47 rfl (lv_at hl 1 rfl) ?_
      obtain ⟨q3, hD⟩ := g_ck hD
      refine mr_iald C hw (by decide) tf_30 q3 dX0_seePausing_48 ?_
      refine lv_if_le (tgt := 69) C.1.1 C.1.2.1 dX0_seePausing_49 (by decide) (fun c4 => ?_) (fun c4 => ?_)
      · replace hD := g_pos c4 hD
        exact hb69 M L _ _ ls hD hw (lv_sub hl [0, 1, 2] rfl)
      · replace hD := g_neg c4 hD
        refine lv_aload_n C.1.1 C.1.2.1 dX0_seePausing_52 rfl (lv_at hl 0 rfl) ?_
        refine lv_iload_n C.1.1 C.1.2.1 dX0_seePausing_53 rfl (lv_at hl 1 rfl) ?_
        obtain ⟨M5, L6, h1, hD⟩ := g_b2 hD
        refine md_cvV (As := [.int a1]) (rest := []) C hw (tX0_beginSending l G ad fu a1 M L h1) kc_0 (by decide) tf_20 wd_1345 cwX0_beginSending ⟨Nat.le_of_ble_eq_true rfl, Nat.le_of_ble_eq_true rfl⟩ rfl hl.1 (Nat.le_of_ble_eq_true rfl) dX0_seePausing_54 rfl rfl ⟨Nat.zero_le _, Nat.zero_le _⟩ rfl (fun H locs hw => ?_)
        refine lv_aload_n C.1.1 C.1.2.1 dX0_seePausing_57 rfl (lv_at hl 0 rfl) ?_
        refine mr_getR C hw kc_0 3 (by decide) tf_20 ff_20_3 wd_176 dX0_seePausing_58 (by decide) rfl ?_
        refine lv_iconst (v := 3) C.1.1 C.1.2.1 dX0_seePausing_61 (by decide) ?_
        refine mr_aald C hw (by decide) tf_24 (by decide) (by decide) rfl rfl (show vp_in 3 8 from by unfold vp_in; decide) ff_24_3 dX0_seePausing_62 ?_
        refine lv_iload_n C.1.1 C.1.2.1 dX0_seePausing_63 rfl (lv_at hl 1 rfl) ?_
        refine lv_iconst (v := 1) C.1.1 C.1.2.1 dX0_seePausing_64 (by decide) ?_
        obtain ⟨q8, hD⟩ := g_ck hD
        obtain ⟨M9, eM9, hD⟩ := g_let hD
        refine mr_iast C hw (by decide) tf_28 q8 dX0_seePausing_65 (fun H locs hw => ?_)
        replace hw : mw_W G ad NF TF FF M9 L6 H locs := by rw [eM9]; exact hw
        refine lv_goto (tgt := 101) C.1.1 C.1.2.1 dX0_seePausing_66 (by decide) ?_
        exact hb101 M9 L6 _ _ ls hD hw (lv_sub hl [] rfl)
  unfold DX0_seePausing at hD
  refine lv_aload_n C.1.1 C.1.2.1 dX0_seePausing_0 rfl (lv_at hl 0 rfl) ?_
  refine mr_getR C hw kc_0 3 (by decide) tf_20 ff_20_3 wd_176 dX0_seePausing_1 (by decide) rfl ?_
  refine lv_iconst (v := 1) C.1.1 C.1.2.1 dX0_seePausing_4 (by decide) ?_
  refine mr_aald C hw (by decide) tf_24 (by decide) (by decide) rfl rfl (show vp_in 1 8 from by unfold vp_in; decide) ff_24_1 dX0_seePausing_5 ?_
  refine lv_iload_n C.1.1 C.1.2.1 dX0_seePausing_6 rfl (lv_at hl 1 rfl) ?_
  refine lv_dup2_11 C.1.1 C.1.2.1 dX0_seePausing_7 rfl rfl ?_
  obtain ⟨q20, hD⟩ := g_ck hD
  refine mr_iald C hw (by decide) tf_26 q20 dX0_seePausing_8 ?_
  refine lv_iconst (v := 1) C.1.1 C.1.2.1 dX0_seePausing_9 (by decide) ?_
  refine lv_isub C.1.1 C.1.2.1 dX0_seePausing_10 ?_
  obtain ⟨q21, hD⟩ := g_ck hD
  obtain ⟨M22, eM22, hD⟩ := g_let hD
  refine mr_iast C hw (by decide) tf_26 q21 dX0_seePausing_11 (fun H locs hw => ?_)
  replace hw : mw_W G ad NF TF FF M22 L H locs := by rw [eM22]; exact hw
  refine lv_iload_n C.1.1 C.1.2.1 dX0_seePausing_12 rfl (lv_at hl 2 rfl) ?_
  refine lv_if_ne (tgt := 37) C.1.1 C.1.2.1 dX0_seePausing_13 (by decide) (fun c23 => ?_) (fun c23 => ?_)
  · replace hD := g_neg c23 hD
    exact hb37 M22 L _ _ ls hD hw (lv_sub hl [0, 1, 2] rfl)
  · replace hD := g_pos c23 hD
    refine lv_aload_n C.1.1 C.1.2.1 dX0_seePausing_16 rfl (lv_at hl 0 rfl) ?_
    refine mr_getR C hw kc_0 3 (by decide) tf_20 ff_20_3 wd_176 dX0_seePausing_17 (by decide) rfl ?_
    refine lv_iconst (v := 1) C.1.1 C.1.2.1 dX0_seePausing_20 (by decide) ?_
    refine mr_aald C hw (by decide) tf_24 (by decide) (by decide) rfl rfl (show vp_in 1 8 from by unfold vp_in; decide) ff_24_1 dX0_seePausing_21 ?_
    refine lv_iload_n C.1.1 C.1.2.1 dX0_seePausing_22 rfl (lv_at hl 1 rfl) ?_
    obtain ⟨q25, hD⟩ := g_ck hD
    refine mr_iald C hw (by decide) tf_26 q25 dX0_seePausing_23 ?_
    refine lv_if_le (tgt := 37) C.1.1 C.1.2.1 dX0_seePausing_24 (by decide) (fun c26 => ?_) (fun c26 => ?_)
    · replace hD := g_pos c26 hD
      exact hb37 M22 L _ _ ls hD hw (lv_sub hl [0, 1, 2] rfl)
    · replace hD := g_neg c26 hD
      refine lv_aload_n C.1.1 C.1.2.1 dX0_seePausing_27 rfl (lv_at hl 0 rfl) ?_
      refine lv_iload_n C.1.1 C.1.2.1 dX0_seePausing_28 rfl (lv_at hl 1 rfl) ?_
      refine lv_iconst (v := 5) C.1.1 C.1.2.1 dX0_seePausing_29 (by decide) ?_
      refine lv_iload_n C.1.1 C.1.2.1 dX0_seePausing_30 rfl (lv_at hl 3 rfl) ?_
      obtain ⟨M27, L28, h1, hD⟩ := g_b2 hD
      refine md_cvV (As := [.int a1, .int 5, .int a3]) (rest := []) C hw (tX0_tellFault l G ad fu a1 5 a3 M22 L h1) kc_0 (by decide) tf_20 wd_1448 cwX0_tellFault ⟨Nat.le_of_ble_eq_true rfl, Nat.le_of_ble_eq_true rfl⟩ rfl hl.1 (Nat.le_of_ble_eq_true rfl) dX0_seePausing_31 rfl rfl ⟨Nat.zero_le _, Nat.zero_le _⟩ rfl (fun H locs hw => ?_)
      refine lv_goto (tgt := 101) C.1.1 C.1.2.1 dX0_seePausing_34 (by decide) ?_
      exact hb101 M27 L28 _ _ ls hD hw (lv_sub hl [] rfl)

theorem dX0_see_0 : decode cX0_see 0 = .ok (.aload_n 0, 1) := by decide +kernel
theorem dX0_see_1 : decode cX0_see 1 = .ok (.getfield 24, 3) := by decide +kernel
theorem dX0_see_4 : decode cX0_see 4 = .ok (.iconst 0, 1) := by decide +kernel
theorem dX0_see_5 : decode cX0_see 5 = .ok (.aaload, 1) := by decide +kernel
theorem dX0_see_6 : decode cX0_see 6 = .ok (.iload_n 1, 1) := by decide +kernel
theorem dX0_see_7 : decode cX0_see 7 = .ok (.iaload, 1) := by decide +kernel
theorem dX0_see_8 : decode cX0_see 8 = .ok (.tableswitch 150 0 5 #[40, 52, 79, 89, 124, 140], 40) := by decide +kernel
theorem dX0_see_48 : decode cX0_see 48 = .ok (.iload_n 2, 1) := by decide +kernel
theorem dX0_see_49 : decode cX0_see 49 = .ok (.ifCond .ne 116, 3) := by decide +kernel
theorem dX0_see_52 : decode cX0_see 52 = .ok (.aload_n 0, 1) := by decide +kernel
theorem dX0_see_53 : decode cX0_see 53 = .ok (.iload_n 1, 1) := by decide +kernel
theorem dX0_see_54 : decode cX0_see 54 = .ok (.invokevirtual 85, 3) := by decide +kernel
theorem dX0_see_57 : decode cX0_see 57 = .ok (.goto 108, 3) := by decide +kernel
theorem dX0_see_60 : decode cX0_see 60 = .ok (.aload_n 0, 1) := by decide +kernel
theorem dX0_see_61 : decode cX0_see 61 = .ok (.iload_n 1, 1) := by decide +kernel
theorem dX0_see_62 : decode cX0_see 62 = .ok (.iload_n 2, 1) := by decide +kernel
theorem dX0_see_63 : decode cX0_see 63 = .ok (.invokevirtual 88, 3) := by decide +kernel
theorem dX0_see_66 : decode cX0_see 66 = .ok (.ifCond .eq 11, 3) := by decide +kernel
theorem dX0_see_69 : decode cX0_see 69 = .ok (.aload_n 0, 1) := by decide +kernel
theorem dX0_see_70 : decode cX0_see 70 = .ok (.iload_n 1, 1) := by decide +kernel
theorem dX0_see_71 : decode cX0_see 71 = .ok (.invokevirtual 92, 3) := by decide +kernel
theorem dX0_see_74 : decode cX0_see 74 = .ok (.goto 91, 3) := by decide +kernel
theorem dX0_see_77 : decode cX0_see 77 = .ok (.aload_n 0, 1) := by decide +kernel
theorem dX0_see_78 : decode cX0_see 78 = .ok (.iload_n 1, 1) := by decide +kernel
theorem dX0_see_79 : decode cX0_see 79 = .ok (.iload_n 2, 1) := by decide +kernel
theorem dX0_see_80 : decode cX0_see 80 = .ok (.iload_n 3, 1) := by decide +kernel
theorem dX0_see_81 : decode cX0_see 81 = .ok (.invokevirtual 95, 3) := by decide +kernel
theorem dX0_see_84 : decode cX0_see 84 = .ok (.goto 81, 3) := by decide +kernel
theorem dX0_see_87 : decode cX0_see 87 = .ok (.aload_n 0, 1) := by decide +kernel
theorem dX0_see_88 : decode cX0_see 88 = .ok (.iload_n 1, 1) := by decide +kernel
theorem dX0_see_89 : decode cX0_see 89 = .ok (.iload_n 2, 1) := by decide +kernel
theorem dX0_see_90 : decode cX0_see 90 = .ok (.iload_n 3, 1) := by decide +kernel
theorem dX0_see_91 : decode cX0_see 91 = .ok (.invokevirtual 98, 3) := by decide +kernel
theorem dX0_see_94 : decode cX0_see 94 = .ok (.goto 71, 3) := by decide +kernel
theorem dX0_see_97 : decode cX0_see 97 = .ok (.aload_n 0, 1) := by decide +kernel
theorem dX0_see_98 : decode cX0_see 98 = .ok (.getfield 24, 3) := by decide +kernel
theorem dX0_see_101 : decode cX0_see 101 = .ok (.iconst 1, 1) := by decide +kernel
theorem dX0_see_102 : decode cX0_see 102 = .ok (.aaload, 1) := by decide +kernel
theorem dX0_see_103 : decode cX0_see 103 = .ok (.iload_n 1, 1) := by decide +kernel
theorem dX0_see_104 : decode cX0_see 104 = .ok (.dup2, 1) := by decide +kernel
theorem dX0_see_105 : decode cX0_see 105 = .ok (.iaload, 1) := by decide +kernel
theorem dX0_see_106 : decode cX0_see 106 = .ok (.iconst 1, 1) := by decide +kernel
theorem dX0_see_107 : decode cX0_see 107 = .ok (.isub, 1) := by decide +kernel
theorem dX0_see_108 : decode cX0_see 108 = .ok (.iastore, 1) := by decide +kernel
theorem dX0_see_109 : decode cX0_see 109 = .ok (.aload_n 0, 1) := by decide +kernel
theorem dX0_see_110 : decode cX0_see 110 = .ok (.getfield 24, 3) := by decide +kernel
theorem dX0_see_113 : decode cX0_see 113 = .ok (.iconst 1, 1) := by decide +kernel
theorem dX0_see_114 : decode cX0_see 114 = .ok (.aaload, 1) := by decide +kernel
theorem dX0_see_115 : decode cX0_see 115 = .ok (.iload_n 1, 1) := by decide +kernel
theorem dX0_see_116 : decode cX0_see 116 = .ok (.iaload, 1) := by decide +kernel
theorem dX0_see_117 : decode cX0_see 117 = .ok (.ifCond .ne 48, 3) := by decide +kernel
theorem dX0_see_120 : decode cX0_see 120 = .ok (.aload_n 0, 1) := by decide +kernel
theorem dX0_see_121 : decode cX0_see 121 = .ok (.getfield 24, 3) := by decide +kernel
theorem dX0_see_124 : decode cX0_see 124 = .ok (.iconst 0, 1) := by decide +kernel
theorem dX0_see_125 : decode cX0_see 125 = .ok (.aaload, 1) := by decide +kernel
theorem dX0_see_126 : decode cX0_see 126 = .ok (.iload_n 1, 1) := by decide +kernel
theorem dX0_see_127 : decode cX0_see 127 = .ok (.iconst 4, 1) := by decide +kernel
theorem dX0_see_128 : decode cX0_see 128 = .ok (.iastore, 1) := by decide +kernel
theorem dX0_see_129 : decode cX0_see 129 = .ok (.goto 36, 3) := by decide +kernel
theorem dX0_see_132 : decode cX0_see 132 = .ok (.iload_n 2, 1) := by decide +kernel
theorem dX0_see_133 : decode cX0_see 133 = .ok (.iconst 1, 1) := by decide +kernel
theorem dX0_see_134 : decode cX0_see 134 = .ok (.if_icmp .ne 31, 3) := by decide +kernel
theorem dX0_see_137 : decode cX0_see 137 = .ok (.aload_n 0, 1) := by decide +kernel
theorem dX0_see_138 : decode cX0_see 138 = .ok (.iload_n 1, 1) := by decide +kernel
theorem dX0_see_139 : decode cX0_see 139 = .ok (.iconst 5, 1) := by decide +kernel
theorem dX0_see_140 : decode cX0_see 140 = .ok (.bipush 7, 2) := by decide +kernel
theorem dX0_see_142 : decode cX0_see 142 = .ok (.invokevirtual 101, 3) := by decide +kernel
theorem dX0_see_145 : decode cX0_see 145 = .ok (.goto 20, 3) := by decide +kernel
theorem dX0_see_148 : decode cX0_see 148 = .ok (.aload_n 0, 1) := by decide +kernel
theorem dX0_see_149 : decode cX0_see 149 = .ok (.iload_n 1, 1) := by decide +kernel
theorem dX0_see_150 : decode cX0_see 150 = .ok (.iload_n 2, 1) := by decide +kernel
theorem dX0_see_151 : decode cX0_see 151 = .ok (.iload_n 3, 1) := by decide +kernel
theorem dX0_see_152 : decode cX0_see 152 = .ok (.invokevirtual 104, 3) := by decide +kernel
theorem dX0_see_155 : decode cX0_see 155 = .ok (.goto 10, 3) := by decide +kernel
theorem dX0_see_158 : decode cX0_see 158 = .ok (.aload_n 0, 1) := by decide +kernel
theorem dX0_see_159 : decode cX0_see 159 = .ok (.iload_n 1, 1) := by decide +kernel
theorem dX0_see_160 : decode cX0_see 160 = .ok (.iload_n 2, 1) := by decide +kernel
theorem dX0_see_161 : decode cX0_see 161 = .ok (.iload_n 3, 1) := by decide +kernel
theorem dX0_see_162 : decode cX0_see 162 = .ok (.invokevirtual 107, 3) := by decide +kernel
theorem dX0_see_165 : decode cX0_see 165 = .ok (.return_, 1) := by decide +kernel
theorem cwX0_see : mw_cwV yX0_see cX0_see 4 (none) 3 := ⟨⟨wd_5, wd_1376, by decide +kernel⟩, wd_1375, sl_76⟩
set_option maxHeartbeats 4000000 in
set_option maxRecDepth 100000 in
theorem tX0_see (l : Launch) (G : mwG) (ad : Nat → Nat) (fu : Nat) (a1 : Int32) (a2 : Int32) (a3 : Int32) (M : mwM) (L : mwL) {M0 : mwM} {L0 : mwL} (hD : DX0_see fu a1 a2 a3 M L = some (M0, L0)) : Met l yX0_see (Cond.code yX0_see cX0_see 4 (none) :: GT) ({ frames := 5, cells := 0, slots := 0, locals := 112 }) (mw_Pre G ad NF TF FF M L [.ref (ad 20), .int a1, .int a2, .int a3]) (mw_Qv G ad NF TF FF (mw_eqV M0 L0)) 0 0 (mw_fr G) := by
  refine mw_enter (by decide) (Nat.le_of_ble_eq_true rfl) ?_
  intro p e s m below meth c ls C hr hlocks hnm hw hl
  have hl : lv_has ls 4 [(0, .ref (ad 20)), (1, .int a1), (2, .int a2), (3, .int a3)] := hl
  have hb165 : ∀ (M : mwM) (L : mwL) (H : Heap) (locs : List Loc) (ls : Array Slot), fX0_see_b165 fu a1 a2 a3 M L = some (M0, L0) → mw_W G ad NF TF FF M L H locs → lv_has ls 4 [] → W p l e ({ frames := 5, cells := 0, slots := 0, locals := 112 }) s m [.ref (ad 20), .int a1, .int a2, .int a3].toArray below meth c H locs 0 0 (MQ below (mw_Qv G ad NF TF FF (mw_eqV M0 L0)) [.ref (ad 20), .int a1, .int a2, .int a3].toArray s 0 0 (mw_fr G)) (F0 m 165 ls []) := by
    intro M L H locs ls hD hw hl
    unfold fX0_see_b165 at hD
    exact mr_vret C hr hlocks hw (Option.some.inj hD) dX0_see_165
  unfold DX0_see at hD
  refine lv_aload_n C.1.1 C.1.2.1 dX0_see_0 rfl (lv_at hl 0 rfl) ?_
  refine mr_getR C hw kc_0 3 (by decide) tf_20 ff_20_3 wd_176 dX0_see_1 (by decide) rfl ?_
  refine lv_iconst (v := 0) C.1.1 C.1.2.1 dX0_see_4 (by decide) ?_
  refine mr_aald C hw (by decide) tf_24 (by decide) (by decide) rfl rfl (show vp_in 0 8 from by unfold vp_in; decide) ff_24_0 dX0_see_5 ?_
  refine lv_iload_n C.1.1 C.1.2.1 dX0_see_6 rfl (lv_at hl 1 rfl) ?_
  obtain ⟨q2, hD⟩ := g_ck hD
  refine mr_iald C hw (by decide) tf_25 q2 dX0_see_7 ?_
  obtain ⟨x3, ex3, hD⟩ := g_let hD
  refine W.eq (g2 := F0 m 8 ls (.int x3 :: [])) (by rw [ex3]) ?_
  by_cases c4 : x3 = 0
  · replace hD := g_pos c4 hD
    refine lv_tableIn (tgt := 48) C.1.1 C.1.2.1 dX0_see_8 (by rw [c4]; decide) (by rw [c4]; decide) (off := 40) (by rw [c4]; decide) (by decide) ?_
    refine lv_iload_n C.1.1 C.1.2.1 dX0_see_48 rfl (lv_at hl 2 rfl) ?_
    refine lv_if_ne (tgt := 165) C.1.1 C.1.2.1 dX0_see_49 (by decide) (fun c5 => ?_) (fun c5 => ?_)
    · replace hD := g_neg c5 hD
      exact hb165 M L _ _ ls hD hw (lv_sub hl [] rfl)
    · replace hD := g_pos c5 hD
      refine lv_aload_n C.1.1 C.1.2.1 dX0_see_52 rfl (lv_at hl 0 rfl) ?_
      refine lv_iload_n C.1.1 C.1.2.1 dX0_see_53 rfl (lv_at hl 1 rfl) ?_
      obtain ⟨M6, L7, h1, hD⟩ := g_b2 hD
      refine md_cvV (As := [.int a1]) (rest := []) C hw (tX0_beginListening l G ad fu a1 M L h1) kc_0 (by decide) tf_20 wd_1377 cwX0_beginListening ⟨Nat.le_of_ble_eq_true rfl, Nat.le_of_ble_eq_true rfl⟩ rfl hl.1 (Nat.le_of_ble_eq_true rfl) dX0_see_54 rfl rfl ⟨Nat.zero_le _, Nat.zero_le _⟩ rfl (fun H locs hw => ?_)
      refine lv_goto (tgt := 165) C.1.1 C.1.2.1 dX0_see_57 (by decide) ?_
      exact hb165 M6 L7 _ _ ls hD hw (lv_sub hl [] rfl)
  replace hD := g_neg c4 hD
  by_cases c8 : x3 = 1
  · replace hD := g_pos c8 hD
    refine lv_tableIn (tgt := 60) C.1.1 C.1.2.1 dX0_see_8 (by rw [c8]; decide) (by rw [c8]; decide) (off := 52) (by rw [c8]; decide) (by decide) ?_
    refine lv_aload_n C.1.1 C.1.2.1 dX0_see_60 rfl (lv_at hl 0 rfl) ?_
    refine lv_iload_n C.1.1 C.1.2.1 dX0_see_61 rfl (lv_at hl 1 rfl) ?_
    refine lv_iload_n C.1.1 C.1.2.1 dX0_see_62 rfl (lv_at hl 2 rfl) ?_
    obtain ⟨r11, M9, L10, h1, hD⟩ := g_b3 hD
    refine md_cvI (As := [.int a1, .int a2]) (rest := []) C hw (tX0_isLosing l G ad fu a1 a2 M L h1) kc_0 (by decide) tf_20 wd_1391 cwX0_isLosing ⟨Nat.le_of_ble_eq_true rfl, Nat.le_of_ble_eq_true rfl⟩ rfl hl.1 (Nat.le_of_ble_eq_true rfl) dX0_see_63 rfl rfl ⟨Nat.zero_le _, Nat.zero_le _⟩ rfl (fun H locs hw => ?_)
    refine lv_if_eq (tgt := 77) C.1.1 C.1.2.1 dX0_see_66 (by decide) (fun c12 => ?_) (fun c12 => ?_)
    · replace hD := g_pos c12 hD
      refine lv_aload_n C.1.1 C.1.2.1 dX0_see_77 rfl (lv_at hl 0 rfl) ?_
      refine lv_iload_n C.1.1 C.1.2.1 dX0_see_78 rfl (lv_at hl 1 rfl) ?_
      refine lv_iload_n C.1.1 C.1.2.1 dX0_see_79 rfl (lv_at hl 2 rfl) ?_
      refine lv_iload_n C.1.1 C.1.2.1 dX0_see_80 rfl (lv_at hl 3 rfl) ?_
      obtain ⟨M13, L14, h1, hD⟩ := g_b2 hD
      refine md_cvV (As := [.int a1, .int a2, .int a3]) (rest := []) C hw (tX0_seeSending l G ad fu a1 a2 a3 M9 L10 h1) kc_0 (by decide) tf_20 wd_1444 cwX0_seeSending ⟨Nat.le_of_ble_eq_true rfl, Nat.le_of_ble_eq_true rfl⟩ rfl hl.1 (Nat.le_of_ble_eq_true rfl) dX0_see_81 rfl rfl ⟨Nat.zero_le _, Nat.zero_le _⟩ rfl (fun H locs hw => ?_)
      refine lv_goto (tgt := 165) C.1.1 C.1.2.1 dX0_see_84 (by decide) ?_
      exact hb165 M13 L14 _ _ ls hD hw (lv_sub hl [] rfl)
    · replace hD := g_neg c12 hD
      refine lv_aload_n C.1.1 C.1.2.1 dX0_see_69 rfl (lv_at hl 0 rfl) ?_
      refine lv_iload_n C.1.1 C.1.2.1 dX0_see_70 rfl (lv_at hl 1 rfl) ?_
      obtain ⟨M15, L16, h1, hD⟩ := g_b2 hD
      refine md_cvV (As := [.int a1]) (rest := []) C hw (tX0_loseArbitration l G ad fu a1 M9 L10 h1) kc_0 (by decide) tf_20 wd_1395 cwX0_loseArbitration ⟨Nat.le_of_ble_eq_true rfl, Nat.le_of_ble_eq_true rfl⟩ rfl hl.1 (Nat.le_of_ble_eq_true rfl) dX0_see_71 rfl rfl ⟨Nat.zero_le _, Nat.zero_le _⟩ rfl (fun H locs hw => ?_)
      refine lv_goto (tgt := 165) C.1.1 C.1.2.1 dX0_see_74 (by decide) ?_
      exact hb165 M15 L16 _ _ ls hD hw (lv_sub hl [] rfl)
  replace hD := g_neg c8 hD
  by_cases c17 : x3 = 2
  · replace hD := g_pos c17 hD
    refine lv_tableIn (tgt := 87) C.1.1 C.1.2.1 dX0_see_8 (by rw [c17]; decide) (by rw [c17]; decide) (off := 79) (by rw [c17]; decide) (by decide) ?_
    refine lv_aload_n C.1.1 C.1.2.1 dX0_see_87 rfl (lv_at hl 0 rfl) ?_
    refine lv_iload_n C.1.1 C.1.2.1 dX0_see_88 rfl (lv_at hl 1 rfl) ?_
    refine lv_iload_n C.1.1 C.1.2.1 dX0_see_89 rfl (lv_at hl 2 rfl) ?_
    refine lv_iload_n C.1.1 C.1.2.1 dX0_see_90 rfl (lv_at hl 3 rfl) ?_
    obtain ⟨M18, L19, h1, hD⟩ := g_b2 hD
    refine md_cvV (As := [.int a1, .int a2, .int a3]) (rest := []) C hw (tX0_seeListening l G ad fu a1 a2 a3 M L h1) kc_0 (by decide) tf_20 wd_1460 cwX0_seeListening ⟨Nat.le_of_ble_eq_true rfl, Nat.le_of_ble_eq_true rfl⟩ rfl hl.1 (Nat.le_of_ble_eq_true rfl) dX0_see_91 rfl rfl ⟨Nat.zero_le _, Nat.zero_le _⟩ rfl (fun H locs hw => ?_)
    refine lv_goto (tgt := 165) C.1.1 C.1.2.1 dX0_see_94 (by decide) ?_
    exact hb165 M18 L19 _ _ ls hD hw (lv_sub hl [] rfl)
  replace hD := g_neg c17 hD
  by_cases c20 : x3 = 3
  · replace hD := g_pos c20 hD
    refine lv_tableIn (tgt := 97) C.1.1 C.1.2.1 dX0_see_8 (by rw [c20]; decide) (by rw [c20]; decide) (off := 89) (by rw [c20]; decide) (by decide) ?_
    refine lv_aload_n C.1.1 C.1.2.1 dX0_see_97 rfl (lv_at hl 0 rfl) ?_
    refine mr_getR C hw kc_0 3 (by decide) tf_20 ff_20_3 wd_176 dX0_see_98 (by decide) rfl ?_
    refine lv_iconst (v := 1) C.1.1 C.1.2.1 dX0_see_101 (by decide) ?_
    refine mr_aald C hw (by decide) tf_24 (by decide) (by decide) rfl rfl (show vp_in 1 8 from by unfold vp_in; decide) ff_24_1 dX0_see_102 ?_
    refine lv_iload_n C.1.1 C.1.2.1 dX0_see_103 rfl (lv_at hl 1 rfl) ?_
    refine lv_dup2_11 C.1.1 C.1.2.1 dX0_see_104 rfl rfl ?_
    obtain ⟨q22, hD⟩ := g_ck hD
    refine mr_iald C hw (by decide) tf_26 q22 dX0_see_105 ?_
    refine lv_iconst (v := 1) C.1.1 C.1.2.1 dX0_see_106 (by decide) ?_
    refine lv_isub C.1.1 C.1.2.1 dX0_see_107 ?_
    obtain ⟨q23, hD⟩ := g_ck hD
    obtain ⟨M24, eM24, hD⟩ := g_let hD
    refine mr_iast C hw (by decide) tf_26 q23 dX0_see_108 (fun H locs hw => ?_)
    replace hw : mw_W G ad NF TF FF M24 L H locs := by rw [eM24]; exact hw
    refine lv_aload_n C.1.1 C.1.2.1 dX0_see_109 rfl (lv_at hl 0 rfl) ?_
    refine mr_getR C hw kc_0 3 (by decide) tf_20 ff_20_3 wd_176 dX0_see_110 (by decide) rfl ?_
    refine lv_iconst (v := 1) C.1.1 C.1.2.1 dX0_see_113 (by decide) ?_
    refine mr_aald C hw (by decide) tf_24 (by decide) (by decide) rfl rfl (show vp_in 1 8 from by unfold vp_in; decide) ff_24_1 dX0_see_114 ?_
    refine lv_iload_n C.1.1 C.1.2.1 dX0_see_115 rfl (lv_at hl 1 rfl) ?_
    obtain ⟨q26, hD⟩ := g_ck hD
    refine mr_iald C hw (by decide) tf_26 q26 dX0_see_116 ?_
    refine lv_if_ne (tgt := 165) C.1.1 C.1.2.1 dX0_see_117 (by decide) (fun c27 => ?_) (fun c27 => ?_)
    · replace hD := g_neg c27 hD
      exact hb165 M24 L _ _ ls hD hw (lv_sub hl [] rfl)
    · replace hD := g_pos c27 hD
      refine lv_aload_n C.1.1 C.1.2.1 dX0_see_120 rfl (lv_at hl 0 rfl) ?_
      refine mr_getR C hw kc_0 3 (by decide) tf_20 ff_20_3 wd_176 dX0_see_121 (by decide) rfl ?_
      refine lv_iconst (v := 0) C.1.1 C.1.2.1 dX0_see_124 (by decide) ?_
      refine mr_aald C hw (by decide) tf_24 (by decide) (by decide) rfl rfl (show vp_in 0 8 from by unfold vp_in; decide) ff_24_0 dX0_see_125 ?_
      refine lv_iload_n C.1.1 C.1.2.1 dX0_see_126 rfl (lv_at hl 1 rfl) ?_
      refine lv_iconst (v := 4) C.1.1 C.1.2.1 dX0_see_127 (by decide) ?_
      obtain ⟨q29, hD⟩ := g_ck hD
      obtain ⟨M30, eM30, hD⟩ := g_let hD
      refine mr_iast C hw (by decide) tf_25 q29 dX0_see_128 (fun H locs hw => ?_)
      replace hw : mw_W G ad NF TF FF M30 L H locs := by rw [eM30]; exact hw
      refine lv_goto (tgt := 165) C.1.1 C.1.2.1 dX0_see_129 (by decide) ?_
      exact hb165 M30 L _ _ ls hD hw (lv_sub hl [] rfl)
  replace hD := g_neg c20 hD
  by_cases c31 : x3 = 4
  · replace hD := g_pos c31 hD
    refine lv_tableIn (tgt := 132) C.1.1 C.1.2.1 dX0_see_8 (by rw [c31]; decide) (by rw [c31]; decide) (off := 124) (by rw [c31]; decide) (by decide) ?_
    refine lv_iload_n C.1.1 C.1.2.1 dX0_see_132 rfl (lv_at hl 2 rfl) ?_
    refine lv_iconst (v := 1) C.1.1 C.1.2.1 dX0_see_133 (by decide) ?_
    refine lv_icmp_ne (tgt := 165) C.1.1 C.1.2.1 dX0_see_134 (by decide) (fun c32 => ?_) (fun c32 => ?_)
    · replace hD := g_neg c32 hD
      exact hb165 M L _ _ ls hD hw (lv_sub hl [] rfl)
    · replace hD := g_pos c32 hD
      refine lv_aload_n C.1.1 C.1.2.1 dX0_see_137 rfl (lv_at hl 0 rfl) ?_
      refine lv_iload_n C.1.1 C.1.2.1 dX0_see_138 rfl (lv_at hl 1 rfl) ?_
      refine lv_iconst (v := 5) C.1.1 C.1.2.1 dX0_see_139 (by decide) ?_
      refine lv_bipush (v := 7) C.1.1 C.1.2.1 dX0_see_140 (by decide) ?_
      obtain ⟨M33, L34, h1, hD⟩ := g_b2 hD
      refine md_cvV (As := [.int a1, .int 5, .int 7]) (rest := []) C hw (tX0_become l G ad fu a1 5 7 M L h1) kc_0 (by decide) tf_20 wd_1452 cwX0_become ⟨Nat.le_of_ble_eq_true rfl, Nat.le_of_ble_eq_true rfl⟩ rfl hl.1 (Nat.le_of_ble_eq_true rfl) dX0_see_142 rfl rfl ⟨Nat.zero_le _, Nat.zero_le _⟩ rfl (fun H locs hw => ?_)
      refine lv_goto (tgt := 165) C.1.1 C.1.2.1 dX0_see_145 (by decide) ?_
      exact hb165 M33 L34 _ _ ls hD hw (lv_sub hl [] rfl)
  replace hD := g_neg c31 hD
  by_cases c35 : x3 = 5
  · replace hD := g_pos c35 hD
    refine lv_tableIn (tgt := 148) C.1.1 C.1.2.1 dX0_see_8 (by rw [c35]; decide) (by rw [c35]; decide) (off := 140) (by rw [c35]; decide) (by decide) ?_
    refine lv_aload_n C.1.1 C.1.2.1 dX0_see_148 rfl (lv_at hl 0 rfl) ?_
    refine lv_iload_n C.1.1 C.1.2.1 dX0_see_149 rfl (lv_at hl 1 rfl) ?_
    refine lv_iload_n C.1.1 C.1.2.1 dX0_see_150 rfl (lv_at hl 2 rfl) ?_
    refine lv_iload_n C.1.1 C.1.2.1 dX0_see_151 rfl (lv_at hl 3 rfl) ?_
    obtain ⟨M36, L37, h1, hD⟩ := g_b2 hD
    refine md_cvV (As := [.int a1, .int a2, .int a3]) (rest := []) C hw (tX0_seeClearing l G ad fu a1 a2 a3 M L h1) kc_0 (by decide) tf_20 wd_1464 cwX0_seeClearing ⟨Nat.le_of_ble_eq_true rfl, Nat.le_of_ble_eq_true rfl⟩ rfl hl.1 (Nat.le_of_ble_eq_true rfl) dX0_see_152 rfl rfl ⟨Nat.zero_le _, Nat.zero_le _⟩ rfl (fun H locs hw => ?_)
    refine lv_goto (tgt := 165) C.1.1 C.1.2.1 dX0_see_155 (by decide) ?_
    exact hb165 M36 L37 _ _ ls hD hw (lv_sub hl [] rfl)
  replace hD := g_neg c35 hD
  have nc4 : ¬ x3.toInt = 0 := fun q => c4 (Int32.toInt_inj.mp (q.trans (by decide)))
  have nc8 : ¬ x3.toInt = 1 := fun q => c8 (Int32.toInt_inj.mp (q.trans (by decide)))
  have nc17 : ¬ x3.toInt = 2 := fun q => c17 (Int32.toInt_inj.mp (q.trans (by decide)))
  have nc20 : ¬ x3.toInt = 3 := fun q => c20 (Int32.toInt_inj.mp (q.trans (by decide)))
  have nc31 : ¬ x3.toInt = 4 := fun q => c31 (Int32.toInt_inj.mp (q.trans (by decide)))
  have nc35 : ¬ x3.toInt = 5 := fun q => c35 (Int32.toInt_inj.mp (q.trans (by decide)))
  refine lv_tableOut (tgt := 158) C.1.1 C.1.2.1 dX0_see_8 (by omega) (by decide) ?_
  refine lv_aload_n C.1.1 C.1.2.1 dX0_see_158 rfl (lv_at hl 0 rfl) ?_
  refine lv_iload_n C.1.1 C.1.2.1 dX0_see_159 rfl (lv_at hl 1 rfl) ?_
  refine lv_iload_n C.1.1 C.1.2.1 dX0_see_160 rfl (lv_at hl 2 rfl) ?_
  refine lv_iload_n C.1.1 C.1.2.1 dX0_see_161 rfl (lv_at hl 3 rfl) ?_
  obtain ⟨M38, L39, h1, hD⟩ := g_b2 hD
  refine md_cvV (As := [.int a1, .int a2, .int a3]) (rest := []) C hw (tX0_seePausing l G ad fu a1 a2 a3 M L h1) kc_0 (by decide) tf_20 wd_1468 cwX0_seePausing ⟨Nat.le_of_ble_eq_true rfl, Nat.le_of_ble_eq_true rfl⟩ rfl hl.1 (Nat.le_of_ble_eq_true rfl) dX0_see_162 rfl rfl ⟨Nat.zero_le _, Nat.zero_le _⟩ rfl (fun H locs hw => ?_)
  exact hb165 M38 L39 _ _ ls hD hw (lv_sub hl [] rfl)

theorem dX0_passBit_0 : decode cX0_passBit 0 = .ok (.aload_n 0, 1) := by decide +kernel
theorem dX0_passBit_1 : decode cX0_passBit 1 = .ok (.iconst 0, 1) := by decide +kernel
theorem dX0_passBit_2 : decode cX0_passBit 2 = .ok (.putfield 62, 3) := by decide +kernel
theorem dX0_passBit_5 : decode cX0_passBit 5 = .ok (.aload_n 0, 1) := by decide +kernel
theorem dX0_passBit_6 : decode cX0_passBit 6 = .ok (.getfield 11, 3) := by decide +kernel
theorem dX0_passBit_9 : decode cX0_passBit 9 = .ok (.iload_n 1, 1) := by decide +kernel
theorem dX0_passBit_10 : decode cX0_passBit 10 = .ok (.iconst 1, 1) := by decide +kernel
theorem dX0_passBit_11 : decode cX0_passBit 11 = .ok (.bastore, 1) := by decide +kernel
theorem dX0_passBit_12 : decode cX0_passBit 12 = .ok (.aload_n 0, 1) := by decide +kernel
theorem dX0_passBit_13 : decode cX0_passBit 13 = .ok (.getfield 65, 3) := by decide +kernel
theorem dX0_passBit_16 : decode cX0_passBit 16 = .ok (.ifCond .eq 13, 3) := by decide +kernel
theorem dX0_passBit_19 : decode cX0_passBit 19 = .ok (.aload_n 0, 1) := by decide +kernel
theorem dX0_passBit_20 : decode cX0_passBit 20 = .ok (.getfield 15, 3) := by decide +kernel
theorem dX0_passBit_23 : decode cX0_passBit 23 = .ok (.iload_n 1, 1) := by decide +kernel
theorem dX0_passBit_24 : decode cX0_passBit 24 = .ok (.baload, 1) := by decide +kernel
theorem dX0_passBit_25 : decode cX0_passBit 25 = .ok (.ifCond .ne 4, 3) := by decide +kernel
theorem dX0_passBit_28 : decode cX0_passBit 28 = .ok (.return_, 1) := by decide +kernel
theorem dX0_passBit_29 : decode cX0_passBit 29 = .ok (.iconst 1, 1) := by decide +kernel
theorem dX0_passBit_30 : decode cX0_passBit 30 = .ok (.istore_n 2, 1) := by decide +kernel
theorem dX0_passBit_31 : decode cX0_passBit 31 = .ok (.iconst 0, 1) := by decide +kernel
theorem dX0_passBit_32 : decode cX0_passBit 32 = .ok (.istore_n 3, 1) := by decide +kernel
theorem dX0_passBit_33 : decode cX0_passBit 33 = .ok (.iload_n 3, 1) := by decide +kernel
theorem dX0_passBit_34 : decode cX0_passBit 34 = .ok (.aload_n 0, 1) := by decide +kernel
theorem dX0_passBit_35 : decode cX0_passBit 35 = .ok (.getfield 49, 3) := by decide +kernel
theorem dX0_passBit_38 : decode cX0_passBit 38 = .ok (.if_icmp .ge 35, 3) := by decide +kernel
theorem dX0_passBit_41 : decode cX0_passBit 41 = .ok (.aload_n 0, 1) := by decide +kernel
theorem dX0_passBit_42 : decode cX0_passBit 42 = .ok (.getfield 24, 3) := by decide +kernel
theorem dX0_passBit_45 : decode cX0_passBit 45 = .ok (.bipush 7, 2) := by decide +kernel
theorem dX0_passBit_47 : decode cX0_passBit 47 = .ok (.aaload, 1) := by decide +kernel
theorem dX0_passBit_48 : decode cX0_passBit 48 = .ok (.iload_n 3, 1) := by decide +kernel
theorem dX0_passBit_49 : decode cX0_passBit 49 = .ok (.aload_n 0, 1) := by decide +kernel
theorem dX0_passBit_50 : decode cX0_passBit 50 = .ok (.iload_n 3, 1) := by decide +kernel
theorem dX0_passBit_51 : decode cX0_passBit 51 = .ok (.invokevirtual 69, 3) := by decide +kernel
theorem dX0_passBit_54 : decode cX0_passBit 54 = .ok (.iastore, 1) := by decide +kernel
theorem dX0_passBit_55 : decode cX0_passBit 55 = .ok (.iload_n 2, 1) := by decide +kernel
theorem dX0_passBit_56 : decode cX0_passBit 56 = .ok (.aload_n 0, 1) := by decide +kernel
theorem dX0_passBit_57 : decode cX0_passBit 57 = .ok (.getfield 24, 3) := by decide +kernel
theorem dX0_passBit_60 : decode cX0_passBit 60 = .ok (.bipush 7, 2) := by decide +kernel
theorem dX0_passBit_62 : decode cX0_passBit 62 = .ok (.aaload, 1) := by decide +kernel
theorem dX0_passBit_63 : decode cX0_passBit 63 = .ok (.iload_n 3, 1) := by decide +kernel
theorem dX0_passBit_64 : decode cX0_passBit 64 = .ok (.iaload, 1) := by decide +kernel
theorem dX0_passBit_65 : decode cX0_passBit 65 = .ok (.iand, 1) := by decide +kernel
theorem dX0_passBit_66 : decode cX0_passBit 66 = .ok (.istore_n 2, 1) := by decide +kernel
theorem dX0_passBit_67 : decode cX0_passBit 67 = .ok (.iinc 3 1, 3) := by decide +kernel
theorem dX0_passBit_70 : decode cX0_passBit 70 = .ok (.goto (-37), 3) := by decide +kernel
theorem dX0_passBit_73 : decode cX0_passBit 73 = .ok (.aload_n 0, 1) := by decide +kernel
theorem dX0_passBit_74 : decode cX0_passBit 74 = .ok (.getfield 11, 3) := by decide +kernel
theorem dX0_passBit_77 : decode cX0_passBit 77 = .ok (.iload_n 1, 1) := by decide +kernel
theorem dX0_passBit_78 : decode cX0_passBit 78 = .ok (.iload_n 2, 1) := by decide +kernel
theorem dX0_passBit_79 : decode cX0_passBit 79 = .ok (.i2b, 1) := by decide +kernel
theorem dX0_passBit_80 : decode cX0_passBit 80 = .ok (.bastore, 1) := by decide +kernel
theorem dX0_passBit_81 : decode cX0_passBit 81 = .ok (.aload_n 0, 1) := by decide +kernel
theorem dX0_passBit_82 : decode cX0_passBit 82 = .ok (.iconst 1, 1) := by decide +kernel
theorem dX0_passBit_83 : decode cX0_passBit 83 = .ok (.putfield 65, 3) := by decide +kernel
theorem dX0_passBit_86 : decode cX0_passBit 86 = .ok (.iconst 0, 1) := by decide +kernel
theorem dX0_passBit_87 : decode cX0_passBit 87 = .ok (.istore_n 3, 1) := by decide +kernel
theorem dX0_passBit_88 : decode cX0_passBit 88 = .ok (.iload_n 3, 1) := by decide +kernel
theorem dX0_passBit_89 : decode cX0_passBit 89 = .ok (.aload_n 0, 1) := by decide +kernel
theorem dX0_passBit_90 : decode cX0_passBit 90 = .ok (.getfield 49, 3) := by decide +kernel
theorem dX0_passBit_93 : decode cX0_passBit 93 = .ok (.if_icmp .ge 63, 3) := by decide +kernel
theorem dX0_passBit_96 : decode cX0_passBit 96 = .ok (.aload_n 0, 1) := by decide +kernel
theorem dX0_passBit_97 : decode cX0_passBit 97 = .ok (.iload_n 3, 1) := by decide +kernel
theorem dX0_passBit_98 : decode cX0_passBit 98 = .ok (.iload_n 2, 1) := by decide +kernel
theorem dX0_passBit_99 : decode cX0_passBit 99 = .ok (.aload_n 0, 1) := by decide +kernel
theorem dX0_passBit_100 : decode cX0_passBit 100 = .ok (.getfield 15, 3) := by decide +kernel
theorem dX0_passBit_103 : decode cX0_passBit 103 = .ok (.iload_n 1, 1) := by decide +kernel
theorem dX0_passBit_104 : decode cX0_passBit 104 = .ok (.baload, 1) := by decide +kernel
theorem dX0_passBit_105 : decode cX0_passBit 105 = .ok (.iload_n 3, 1) := by decide +kernel
theorem dX0_passBit_106 : decode cX0_passBit 106 = .ok (.ishr, 1) := by decide +kernel
theorem dX0_passBit_107 : decode cX0_passBit 107 = .ok (.iconst 1, 1) := by decide +kernel
theorem dX0_passBit_108 : decode cX0_passBit 108 = .ok (.iand, 1) := by decide +kernel
theorem dX0_passBit_109 : decode cX0_passBit 109 = .ok (.ixor, 1) := by decide +kernel
theorem dX0_passBit_110 : decode cX0_passBit 110 = .ok (.iload_n 1, 1) := by decide +kernel
theorem dX0_passBit_111 : decode cX0_passBit 111 = .ok (.invokevirtual 73, 3) := by decide +kernel
theorem dX0_passBit_114 : decode cX0_passBit 114 = .ok (.aload_n 0, 1) := by decide +kernel
theorem dX0_passBit_115 : decode cX0_passBit 115 = .ok (.dup, 1) := by decide +kernel
theorem dX0_passBit_116 : decode cX0_passBit 116 = .ok (.getfield 65, 3) := by decide +kernel
theorem dX0_passBit_119 : decode cX0_passBit 119 = .ok (.aload_n 0, 1) := by decide +kernel
theorem dX0_passBit_120 : decode cX0_passBit 120 = .ok (.getfield 24, 3) := by decide +kernel
theorem dX0_passBit_123 : decode cX0_passBit 123 = .ok (.iconst 0, 1) := by decide +kernel
theorem dX0_passBit_124 : decode cX0_passBit 124 = .ok (.aaload, 1) := by decide +kernel
theorem dX0_passBit_125 : decode cX0_passBit 125 = .ok (.iload_n 3, 1) := by decide +kernel
theorem dX0_passBit_126 : decode cX0_passBit 126 = .ok (.iaload, 1) := by decide +kernel
theorem dX0_passBit_127 : decode cX0_passBit 127 = .ok (.ifCond .ne 18, 3) := by decide +kernel
theorem dX0_passBit_130 : decode cX0_passBit 130 = .ok (.aload_n 0, 1) := by decide +kernel
theorem dX0_passBit_131 : decode cX0_passBit 131 = .ok (.getfield 24, 3) := by decide +kernel
theorem dX0_passBit_134 : decode cX0_passBit 134 = .ok (.iconst 5, 1) := by decide +kernel
theorem dX0_passBit_135 : decode cX0_passBit 135 = .ok (.aaload, 1) := by decide +kernel
theorem dX0_passBit_136 : decode cX0_passBit 136 = .ok (.iload_n 3, 1) := by decide +kernel
theorem dX0_passBit_137 : decode cX0_passBit 137 = .ok (.iaload, 1) := by decide +kernel
theorem dX0_passBit_138 : decode cX0_passBit 138 = .ok (.ifCond .ne 7, 3) := by decide +kernel
theorem dX0_passBit_141 : decode cX0_passBit 141 = .ok (.iconst 1, 1) := by decide +kernel
theorem dX0_passBit_142 : decode cX0_passBit 142 = .ok (.goto 4, 3) := by decide +kernel
theorem dX0_passBit_145 : decode cX0_passBit 145 = .ok (.iconst 0, 1) := by decide +kernel
theorem dX0_passBit_146 : decode cX0_passBit 146 = .ok (.iand, 1) := by decide +kernel
theorem dX0_passBit_147 : decode cX0_passBit 147 = .ok (.putfield 65, 3) := by decide +kernel
theorem dX0_passBit_150 : decode cX0_passBit 150 = .ok (.iinc 3 1, 3) := by decide +kernel
theorem dX0_passBit_153 : decode cX0_passBit 153 = .ok (.goto (-65), 3) := by decide +kernel
theorem dX0_passBit_156 : decode cX0_passBit 156 = .ok (.return_, 1) := by decide +kernel
theorem cwX0_passBit : mw_cwV yX0_passBit cX0_passBit 4 (none) 1 := ⟨⟨wd_5, wd_1340, by decide +kernel⟩, wd_1338, wd_1339⟩
set_option maxHeartbeats 4000000 in
set_option maxRecDepth 100000 in
theorem tX0_passBit (l : Launch) (G : mwG) (ad : Nat → Nat) (fu : Nat) (a1 : Int32) (M : mwM) (L : mwL) {M0 : mwM} {L0 : mwL} (hD : DX0_passBit fu a1 M L = some (M0, L0)) : Met l yX0_passBit (Cond.code yX0_passBit cX0_passBit 4 (none) :: GT) ({ frames := 6, cells := 0, slots := 0, locals := 135 }) (mw_Pre G ad NF TF FF M L [.ref (ad 20), .int a1]) (mw_Qv G ad NF TF FF (mw_eqV M0 L0)) 0 0 (mw_fr G) := by
  refine mw_enter (by decide) (Nat.le_of_ble_eq_true rfl) ?_
  intro p e s m below meth c ls C hr hlocks hnm hw hl
  have hl : lv_has ls 4 [(0, .ref (ad 20)), (1, .int a1)] := hl
  have hh88 : ∀ (f : Nat) (v2 : Int32) (v3 : Int32) (M : mwM) (L : mwL) (H : Heap) (locs : List Loc) (ls : Array Slot), fX0_passBit_h88 fu a1 f (v2, v3, M, L) = some (M0, L0) → mw_W G ad NF TF FF M L H locs → lv_has ls 4 [(0, .ref (ad 20)), (1, .int a1), (2, .int v2), (3, .int v3)] → W p l e ({ frames := 6, cells := 0, slots := 0, locals := 135 }) s m [.ref (ad 20), .int a1].toArray below meth c H locs 0 0 (MQ below (mw_Qv G ad NF TF FF (mw_eqV M0 L0)) [.ref (ad 20), .int a1].toArray s 0 0 (mw_fr G)) (F0 m 88 ls []) := by
    intro f
    induction f with
    | zero => intro v2 v3 M L H locs ls hD; cases hD
    | succ f88 ih88 =>
      intro v2 v3 M L H locs ls hD hw hl
      replace hD : fX0_passBit_i88 fu a1 (fX0_passBit_h88 fu a1 f88) v2 v3 M L = some (M0, L0) := hD
      have hb146 : ∀ (v2 : Int32) (v3 : Int32) (s1 : Int32) (s2 : Int32) (M : mwM) (L : mwL) (H : Heap) (locs : List Loc) (ls : Array Slot), fX0_passBit_b146 fu a1 (fX0_passBit_h88 fu a1 f88) v2 v3 s1 s2 M L = some (M0, L0) → mw_W G ad NF TF FF M L H locs → lv_has ls 4 [(0, .ref (ad 20)), (1, .int a1), (2, .int v2), (3, .int v3)] → W p l e ({ frames := 6, cells := 0, slots := 0, locals := 135 }) s m [.ref (ad 20), .int a1].toArray below meth c H locs 0 0 (MQ below (mw_Qv G ad NF TF FF (mw_eqV M0 L0)) [.ref (ad 20), .int a1].toArray s 0 0 (mw_fr G)) (F0 m 146 ls [.int s2, .int s1, .ref (ad 20)]) := by
        intro v2 v3 s1 s2 M L H locs ls hD hw hl
        unfold fX0_passBit_b146 at hD
        refine lv_iand C.1.1 C.1.2.1 dX0_passBit_146 ?_
        obtain ⟨z25, hD⟩ := g_zz hD
        obtain ⟨M26, eM26, hD⟩ := g_let hD
        refine mr_putI C hw kc_0 13 (by decide) tf_20 wd_191 dX0_passBit_147 (by decide) rfl rfl (nz_zz z25) (ft_zz z25) (fun H locs hw => ?_)
        replace hw : mw_W G ad NF TF FF M26 L H locs := by rw [eM26]; exact hw
        obtain ⟨x27, ex27, hD⟩ := g_let hD
        refine lv_iinc (v := x27) (lv' := [(3, .int x27), (0, .ref (ad 20)), (1, .int a1), (2, .int v2)]) C.1.1 C.1.2.1 dX0_passBit_150 hl (k := 3) rfl (by rw [ex27]; rfl) (by decide) rfl (fun ls hl => ?_)
        refine lv_goto (tgt := 88) C.1.1 C.1.2.1 dX0_passBit_153 (by decide) ?_
        exact ih88 v2 x27 M26 L _ _ ls hD hw (lv_sub hl [1, 2, 3, 0] rfl)
      have hb145 : ∀ (v2 : Int32) (v3 : Int32) (s1 : Int32) (M : mwM) (L : mwL) (H : Heap) (locs : List Loc) (ls : Array Slot), fX0_passBit_b145 fu a1 (fX0_passBit_h88 fu a1 f88) v2 v3 s1 M L = some (M0, L0) → mw_W G ad NF TF FF M L H locs → lv_has ls 4 [(0, .ref (ad 20)), (1, .int a1), (2, .int v2), (3, .int v3)] → W p l e ({ frames := 6, cells := 0, slots := 0, locals := 135 }) s m [.ref (ad 20), .int a1].toArray below meth c H locs 0 0 (MQ below (mw_Qv G ad NF TF FF (mw_eqV M0 L0)) [.ref (ad 20), .int a1].toArray s 0 0 (mw_fr G)) (F0 m 145 ls [.int s1, .ref (ad 20)]) := by
        intro v2 v3 s1 M L H locs ls hD hw hl
        unfold fX0_passBit_b145 at hD
        refine lv_iconst (v := 0) C.1.1 C.1.2.1 dX0_passBit_145 (by decide) ?_
        exact hb146 v2 v3 s1 0 M L _ _ ls hD hw (lv_sub hl [0, 1, 2, 3] rfl)
      unfold fX0_passBit_i88 at hD
      refine lv_iload_n C.1.1 C.1.2.1 dX0_passBit_88 rfl (lv_at hl 3 rfl) ?_
      refine lv_aload_n C.1.1 C.1.2.1 dX0_passBit_89 rfl (lv_at hl 0 rfl) ?_
      refine mr_getI C hw kc_0 8 (by decide) tf_20 wd_183 dX0_passBit_90 (by decide) rfl ?_
      refine lv_icmp_ge (tgt := 156) C.1.1 C.1.2.1 dX0_passBit_93 (by decide) (fun c15 => ?_) (fun c15 => ?_)
      · replace hD := g_pos c15 hD
        exact mr_vret C hr hlocks hw (Option.some.inj hD) dX0_passBit_156
      · replace hD := g_neg c15 hD
        refine lv_aload_n C.1.1 C.1.2.1 dX0_passBit_96 rfl (lv_at hl 0 rfl) ?_
        refine lv_iload_n C.1.1 C.1.2.1 dX0_passBit_97 rfl (lv_at hl 3 rfl) ?_
        refine lv_iload_n C.1.1 C.1.2.1 dX0_passBit_98 rfl (lv_at hl 2 rfl) ?_
        refine lv_aload_n C.1.1 C.1.2.1 dX0_passBit_99 rfl (lv_at hl 0 rfl) ?_
        refine mr_getR C hw kc_0 1 (by decide) tf_20 ff_20_1 wd_173 dX0_passBit_100 (by decide) rfl ?_
        refine lv_iload_n C.1.1 C.1.2.1 dX0_passBit_103 rfl (lv_at hl 1 rfl) ?_
        obtain ⟨q16, hD⟩ := g_ck hD
        refine mr_bald C hw (by decide) tf_22 q16 dX0_passBit_104 ?_
        refine lv_iload_n C.1.1 C.1.2.1 dX0_passBit_105 rfl (lv_at hl 3 rfl) ?_
        refine lv_ishr C.1.1 C.1.2.1 dX0_passBit_106 ?_
        refine lv_iconst (v := 1) C.1.1 C.1.2.1 dX0_passBit_107 (by decide) ?_
        refine lv_iand C.1.1 C.1.2.1 dX0_passBit_108 ?_
        refine lv_ixor C.1.1 C.1.2.1 dX0_passBit_109 ?_
        refine lv_iload_n C.1.1 C.1.2.1 dX0_passBit_110 rfl (lv_at hl 1 rfl) ?_
        obtain ⟨M17, L18, h1, hD⟩ := g_b2 hD
        refine md_cvV (As := [.int v3, .int (v2 ^^^ (((M 22 a1.toNatClampNeg) >>> (v3 &&& 31)) &&& 1)), .int a1]) (rest := []) C hw (tX0_see l G ad fu v3 (v2 ^^^ (((M 22 a1.toNatClampNeg) >>> (v3 &&& 31)) &&& 1)) a1 M L h1) kc_0 (by decide) tf_20 wd_1373 cwX0_see ⟨Nat.le_of_ble_eq_true rfl, Nat.le_of_ble_eq_true rfl⟩ rfl hl.1 (Nat.le_of_ble_eq_true rfl) dX0_passBit_111 rfl rfl ⟨Nat.zero_le _, Nat.zero_le _⟩ rfl (fun H locs hw => ?_)
        refine lv_aload_n C.1.1 C.1.2.1 dX0_passBit_114 rfl (lv_at hl 0 rfl) ?_
        refine lv_dup C.1.1 C.1.2.1 dX0_passBit_115 rfl ?_
        refine mr_getI C hw kc_0 13 (by decide) tf_20 wd_191 dX0_passBit_116 (by decide) rfl ?_
        refine lv_aload_n C.1.1 C.1.2.1 dX0_passBit_119 rfl (lv_at hl 0 rfl) ?_
        refine mr_getR C hw kc_0 3 (by decide) tf_20 ff_20_3 wd_176 dX0_passBit_120 (by decide) rfl ?_
        refine lv_iconst (v := 0) C.1.1 C.1.2.1 dX0_passBit_123 (by decide) ?_
        refine mr_aald C hw (by decide) tf_24 (by decide) (by decide) rfl rfl (show vp_in 0 8 from by unfold vp_in; decide) ff_24_0 dX0_passBit_124 ?_
        refine lv_iload_n C.1.1 C.1.2.1 dX0_passBit_125 rfl (lv_at hl 3 rfl) ?_
        obtain ⟨q20, hD⟩ := g_ck hD
        refine mr_iald C hw (by decide) tf_25 q20 dX0_passBit_126 ?_
        refine lv_if_ne (tgt := 145) C.1.1 C.1.2.1 dX0_passBit_127 (by decide) (fun c21 => ?_) (fun c21 => ?_)
        · replace hD := g_neg c21 hD
          exact hb145 v2 v3 (M17 20 13) M17 L18 _ _ ls hD hw (lv_sub hl [0, 1, 2, 3] rfl)
        · replace hD := g_pos c21 hD
          refine lv_aload_n C.1.1 C.1.2.1 dX0_passBit_130 rfl (lv_at hl 0 rfl) ?_
          refine mr_getR C hw kc_0 3 (by decide) tf_20 ff_20_3 wd_176 dX0_passBit_131 (by decide) rfl ?_
          refine lv_iconst (v := 5) C.1.1 C.1.2.1 dX0_passBit_134 (by decide) ?_
          refine mr_aald C hw (by decide) tf_24 (by decide) (by decide) rfl rfl (show vp_in 5 8 from by unfold vp_in; decide) ff_24_5 dX0_passBit_135 ?_
          refine lv_iload_n C.1.1 C.1.2.1 dX0_passBit_136 rfl (lv_at hl 3 rfl) ?_
          obtain ⟨q23, hD⟩ := g_ck hD
          refine mr_iald C hw (by decide) tf_30 q23 dX0_passBit_137 ?_
          refine lv_if_ne (tgt := 145) C.1.1 C.1.2.1 dX0_passBit_138 (by decide) (fun c24 => ?_) (fun c24 => ?_)
          · replace hD := g_neg c24 hD
            exact hb145 v2 v3 (M17 20 13) M17 L18 _ _ ls hD hw (lv_sub hl [0, 1, 2, 3] rfl)
          · replace hD := g_pos c24 hD
            refine lv_iconst (v := 1) C.1.1 C.1.2.1 dX0_passBit_141 (by decide) ?_
            refine lv_goto (tgt := 146) C.1.1 C.1.2.1 dX0_passBit_142 (by decide) ?_
            exact hb146 v2 v3 (M17 20 13) 1 M17 L18 _ _ ls hD hw (lv_sub hl [0, 1, 2, 3] rfl)
  have hh33 : ∀ (f : Nat) (v2 : Int32) (v3 : Int32) (M : mwM) (L : mwL) (H : Heap) (locs : List Loc) (ls : Array Slot), fX0_passBit_h33 fu a1 f (v2, v3, M, L) = some (M0, L0) → mw_W G ad NF TF FF M L H locs → lv_has ls 4 [(0, .ref (ad 20)), (1, .int a1), (2, .int v2), (3, .int v3)] → W p l e ({ frames := 6, cells := 0, slots := 0, locals := 135 }) s m [.ref (ad 20), .int a1].toArray below meth c H locs 0 0 (MQ below (mw_Qv G ad NF TF FF (mw_eqV M0 L0)) [.ref (ad 20), .int a1].toArray s 0 0 (mw_fr G)) (F0 m 33 ls []) := by
    intro f
    induction f with
    | zero => intro v2 v3 M L H locs ls hD; cases hD
    | succ f33 ih33 =>
      intro v2 v3 M L H locs ls hD hw hl
      replace hD : fX0_passBit_i33 fu a1 (fX0_passBit_h33 fu a1 f33) v2 v3 M L = some (M0, L0) := hD
      unfold fX0_passBit_i33 at hD
      refine lv_iload_n C.1.1 C.1.2.1 dX0_passBit_33 rfl (lv_at hl 3 rfl) ?_
      refine lv_aload_n C.1.1 C.1.2.1 dX0_passBit_34 rfl (lv_at hl 0 rfl) ?_
      refine mr_getI C hw kc_0 8 (by decide) tf_20 wd_183 dX0_passBit_35 (by decide) rfl ?_
      refine lv_icmp_ge (tgt := 73) C.1.1 C.1.2.1 dX0_passBit_38 (by decide) (fun c1 => ?_) (fun c1 => ?_)
      · replace hD := g_pos c1 hD
        refine lv_aload_n C.1.1 C.1.2.1 dX0_passBit_73 rfl (lv_at hl 0 rfl) ?_
        refine mr_getR C hw kc_0 0 (by decide) tf_20 ff_20_0 wd_171 dX0_passBit_74 (by decide) rfl ?_
        refine lv_iload_n C.1.1 C.1.2.1 dX0_passBit_77 rfl (lv_at hl 1 rfl) ?_
        refine lv_iload_n C.1.1 C.1.2.1 dX0_passBit_78 rfl (lv_at hl 2 rfl) ?_
        refine lv_i2b C.1.1 C.1.2.1 dX0_passBit_79 rfl ?_
        obtain ⟨q2, hD⟩ := g_ck hD
        obtain ⟨M3, eM3, hD⟩ := g_let hD
        refine mr_bast C hw (by decide) tf_21 q2 dX0_passBit_80 (fun H locs hw => ?_)
        replace hw : mw_W G ad NF TF FF M3 L H locs := by rw [eM3]; exact hw
        refine lv_aload_n C.1.1 C.1.2.1 dX0_passBit_81 rfl (lv_at hl 0 rfl) ?_
        refine lv_iconst (v := 1) C.1.1 C.1.2.1 dX0_passBit_82 (by decide) ?_
        obtain ⟨M4, eM4, hD⟩ := g_let hD
        refine mr_putI C hw kc_0 13 (by decide) tf_20 wd_191 dX0_passBit_83 (by decide) rfl rfl (by decide +kernel) (by decide +kernel) (fun H locs hw => ?_)
        replace hw : mw_W G ad NF TF FF M4 L H locs := by rw [eM4]; exact hw
        refine lv_iconst (v := 0) C.1.1 C.1.2.1 dX0_passBit_86 (by decide) ?_
        refine lv_istore_n (lv' := [(3, .int 0), (0, .ref (ad 20)), (1, .int a1), (2, .int v2)]) C.1.1 C.1.2.1 dX0_passBit_87 rfl hl (by decide) rfl (fun ls hl => ?_)
        exact hh88 fu v2 0 M4 L _ _ ls hD hw (lv_sub hl [1, 2, 3, 0] rfl)
      · replace hD := g_neg c1 hD
        refine lv_aload_n C.1.1 C.1.2.1 dX0_passBit_41 rfl (lv_at hl 0 rfl) ?_
        refine mr_getR C hw kc_0 3 (by decide) tf_20 ff_20_3 wd_176 dX0_passBit_42 (by decide) rfl ?_
        refine lv_bipush (v := 7) C.1.1 C.1.2.1 dX0_passBit_45 (by decide) ?_
        refine mr_aald C hw (by decide) tf_24 (by decide) (by decide) rfl rfl (show vp_in 7 8 from by unfold vp_in; decide) ff_24_7 dX0_passBit_47 ?_
        refine lv_iload_n C.1.1 C.1.2.1 dX0_passBit_48 rfl (lv_at hl 3 rfl) ?_
        refine lv_aload_n C.1.1 C.1.2.1 dX0_passBit_49 rfl (lv_at hl 0 rfl) ?_
        refine lv_iload_n C.1.1 C.1.2.1 dX0_passBit_50 rfl (lv_at hl 3 rfl) ?_
        obtain ⟨r8, M6, L7, h1, hD⟩ := g_b3 hD
        refine md_cvI (As := [.int v3]) (rest := [.int v3, .ref (ad 32)]) C hw (tX0_putOf l G ad fu v3 M L h1) kc_0 (by decide) tf_20 wd_1341 cwX0_putOf ⟨Nat.le_of_ble_eq_true rfl, Nat.le_of_ble_eq_true rfl⟩ rfl hl.1 (Nat.le_of_ble_eq_true rfl) dX0_passBit_51 rfl rfl ⟨Nat.zero_le _, Nat.zero_le _⟩ rfl (fun H locs hw => ?_)
        obtain ⟨q9, hD⟩ := g_ck hD
        obtain ⟨M10, eM10, hD⟩ := g_let hD
        refine mr_iast C hw (by decide) tf_32 q9 dX0_passBit_54 (fun H locs hw => ?_)
        replace hw : mw_W G ad NF TF FF M10 L7 H locs := by rw [eM10]; exact hw
        refine lv_iload_n C.1.1 C.1.2.1 dX0_passBit_55 rfl (lv_at hl 2 rfl) ?_
        refine lv_aload_n C.1.1 C.1.2.1 dX0_passBit_56 rfl (lv_at hl 0 rfl) ?_
        refine mr_getR C hw kc_0 3 (by decide) tf_20 ff_20_3 wd_176 dX0_passBit_57 (by decide) rfl ?_
        refine lv_bipush (v := 7) C.1.1 C.1.2.1 dX0_passBit_60 (by decide) ?_
        refine mr_aald C hw (by decide) tf_24 (by decide) (by decide) rfl rfl (show vp_in 7 8 from by unfold vp_in; decide) ff_24_7 dX0_passBit_62 ?_
        refine lv_iload_n C.1.1 C.1.2.1 dX0_passBit_63 rfl (lv_at hl 3 rfl) ?_
        obtain ⟨q12, hD⟩ := g_ck hD
        refine mr_iald C hw (by decide) tf_32 q12 dX0_passBit_64 ?_
        refine lv_iand C.1.1 C.1.2.1 dX0_passBit_65 ?_
        obtain ⟨x13, ex13, hD⟩ := g_let hD
        refine W.eq (g2 := F0 m 66 ls (.int x13 :: [])) (by rw [ex13]) ?_
        refine lv_istore_n (lv' := [(2, .int x13), (0, .ref (ad 20)), (1, .int a1), (3, .int v3)]) C.1.1 C.1.2.1 dX0_passBit_66 rfl hl (by decide) rfl (fun ls hl => ?_)
        obtain ⟨x14, ex14, hD⟩ := g_let hD
        refine lv_iinc (v := x14) (lv' := [(3, .int x14), (2, .int x13), (0, .ref (ad 20)), (1, .int a1)]) C.1.1 C.1.2.1 dX0_passBit_67 hl (k := 3) rfl (by rw [ex14]; rfl) (by decide) rfl (fun ls hl => ?_)
        refine lv_goto (tgt := 33) C.1.1 C.1.2.1 dX0_passBit_70 (by decide) ?_
        exact ih33 x13 x14 M10 L7 _ _ ls hD hw (lv_sub hl [2, 3, 1, 0] rfl)
  have hb29 : ∀ (M : mwM) (L : mwL) (H : Heap) (locs : List Loc) (ls : Array Slot), fX0_passBit_b29 fu a1 M L = some (M0, L0) → mw_W G ad NF TF FF M L H locs → lv_has ls 4 [(0, .ref (ad 20)), (1, .int a1)] → W p l e ({ frames := 6, cells := 0, slots := 0, locals := 135 }) s m [.ref (ad 20), .int a1].toArray below meth c H locs 0 0 (MQ below (mw_Qv G ad NF TF FF (mw_eqV M0 L0)) [.ref (ad 20), .int a1].toArray s 0 0 (mw_fr G)) (F0 m 29 ls []) := by
    intro M L H locs ls hD hw hl
    unfold fX0_passBit_b29 at hD
    refine lv_iconst (v := 1) C.1.1 C.1.2.1 dX0_passBit_29 (by decide) ?_
    refine lv_istore_n (lv' := [(2, .int 1), (0, .ref (ad 20)), (1, .int a1)]) C.1.1 C.1.2.1 dX0_passBit_30 rfl hl (by decide) rfl (fun ls hl => ?_)
    refine lv_iconst (v := 0) C.1.1 C.1.2.1 dX0_passBit_31 (by decide) ?_
    refine lv_istore_n (lv' := [(3, .int 0), (2, .int 1), (0, .ref (ad 20)), (1, .int a1)]) C.1.1 C.1.2.1 dX0_passBit_32 rfl hl (by decide) rfl (fun ls hl => ?_)
    exact hh33 fu 1 0 M L _ _ ls hD hw (lv_sub hl [2, 3, 1, 0] rfl)
  unfold DX0_passBit at hD
  refine lv_aload_n C.1.1 C.1.2.1 dX0_passBit_0 rfl (lv_at hl 0 rfl) ?_
  refine lv_iconst (v := 0) C.1.1 C.1.2.1 dX0_passBit_1 (by decide) ?_
  obtain ⟨M28, eM28, hD⟩ := g_let hD
  refine mr_putI C hw kc_0 12 (by decide) tf_20 wd_189 dX0_passBit_2 (by decide) rfl rfl rfl rfl (fun H locs hw => ?_)
  replace hw : mw_W G ad NF TF FF M28 L H locs := by rw [eM28]; exact hw
  refine lv_aload_n C.1.1 C.1.2.1 dX0_passBit_5 rfl (lv_at hl 0 rfl) ?_
  refine mr_getR C hw kc_0 0 (by decide) tf_20 ff_20_0 wd_171 dX0_passBit_6 (by decide) rfl ?_
  refine lv_iload_n C.1.1 C.1.2.1 dX0_passBit_9 rfl (lv_at hl 1 rfl) ?_
  refine lv_iconst (v := 1) C.1.1 C.1.2.1 dX0_passBit_10 (by decide) ?_
  obtain ⟨q29, hD⟩ := g_ck hD
  obtain ⟨M30, eM30, hD⟩ := g_let hD
  refine mr_bast C hw (by decide) tf_21 q29 dX0_passBit_11 (fun H locs hw => ?_)
  replace hw : mw_W G ad NF TF FF M30 L H locs := by rw [eM30]; exact hw
  refine lv_aload_n C.1.1 C.1.2.1 dX0_passBit_12 rfl (lv_at hl 0 rfl) ?_
  refine mr_getI C hw kc_0 13 (by decide) tf_20 wd_191 dX0_passBit_13 (by decide) rfl ?_
  refine lv_if_eq (tgt := 29) C.1.1 C.1.2.1 dX0_passBit_16 (by decide) (fun c31 => ?_) (fun c31 => ?_)
  · replace hD := g_pos c31 hD
    exact hb29 M30 L _ _ ls hD hw (lv_sub hl [0, 1] rfl)
  · replace hD := g_neg c31 hD
    refine lv_aload_n C.1.1 C.1.2.1 dX0_passBit_19 rfl (lv_at hl 0 rfl) ?_
    refine mr_getR C hw kc_0 1 (by decide) tf_20 ff_20_1 wd_173 dX0_passBit_20 (by decide) rfl ?_
    refine lv_iload_n C.1.1 C.1.2.1 dX0_passBit_23 rfl (lv_at hl 1 rfl) ?_
    obtain ⟨q32, hD⟩ := g_ck hD
    refine mr_bald C hw (by decide) tf_22 q32 dX0_passBit_24 ?_
    refine lv_if_ne (tgt := 29) C.1.1 C.1.2.1 dX0_passBit_25 (by decide) (fun c33 => ?_) (fun c33 => ?_)
    · replace hD := g_neg c33 hD
      exact hb29 M30 L _ _ ls hD hw (lv_sub hl [0, 1] rfl)
    · replace hD := g_pos c33 hD
      exact mr_vret C hr hlocks hw (Option.some.inj hD) dX0_passBit_28
