theorem dX0_beginListening_0 : decode cX0_beginListening 0 = .ok (.aload_n 0, 1) := by decide +kernel
theorem dX0_beginListening_1 : decode cX0_beginListening 1 = .ok (.getfield 24, 3) := by decide +kernel
theorem dX0_beginListening_4 : decode cX0_beginListening 4 = .ok (.iconst 0, 1) := by decide +kernel
theorem dX0_beginListening_5 : decode cX0_beginListening 5 = .ok (.aaload, 1) := by decide +kernel
theorem dX0_beginListening_6 : decode cX0_beginListening 6 = .ok (.iload_n 1, 1) := by decide +kernel
theorem dX0_beginListening_7 : decode cX0_beginListening 7 = .ok (.iconst 2, 1) := by decide +kernel
theorem dX0_beginListening_8 : decode cX0_beginListening 8 = .ok (.iastore, 1) := by decide +kernel
theorem dX0_beginListening_9 : decode cX0_beginListening 9 = .ok (.aload_n 0, 1) := by decide +kernel
theorem dX0_beginListening_10 : decode cX0_beginListening 10 = .ok (.getfield 32, 3) := by decide +kernel
theorem dX0_beginListening_13 : decode cX0_beginListening 13 = .ok (.iload_n 1, 1) := by decide +kernel
theorem dX0_beginListening_14 : decode cX0_beginListening 14 = .ok (.aaload, 1) := by decide +kernel
theorem dX0_beginListening_15 : decode cX0_beginListening 15 = .ok (.invokevirtual 119, 3) := by decide +kernel
theorem dX0_beginListening_18 : decode cX0_beginListening 18 = .ok (.return_, 1) := by decide +kernel
theorem cwX0_beginListening : mw_cwV yX0_beginListening cX0_beginListening 2 (none) 1 := ⟨⟨wd_5, wd_1380, by decide +kernel⟩, wd_1379, sl_77⟩
noncomputable def DX0_beginListening (fu : Nat) (a1 : Int32) (M : mwM) (L : mwL) : Option (mwM × mwL) :=
  mck a1 7 (mlet (mset M 25 (a1.toNatClampNeg) 2) (fun M3 => mck a1 7 (mb2 (DX5_begin fu ((47 + 2 * a1.toNatClampNeg)) M3 L) (fun M5 L6 => some (M5, L6)))))
set_option maxHeartbeats 4000000 in
set_option maxRecDepth 100000 in
theorem tX0_beginListening (l : Launch) (G : mwG) (ad : Nat → Nat) (fu : Nat) (a1 : Int32) (M : mwM) (L : mwL) {M0 : mwM} {L0 : mwL} (hD : DX0_beginListening fu a1 M L = some (M0, L0)) : Met l yX0_beginListening (Cond.code yX0_beginListening cX0_beginListening 2 (none) :: GT) ({ frames := 2, cells := 0, slots := 0, locals := 44 }) (mw_Pre G ad NF TF FF M L [.ref (ad 20), .int a1]) (mw_Qv G ad NF TF FF (mw_eqV M0 L0)) 0 0 (mw_fr G) := by
  refine mw_enter (by decide) (Nat.le_of_ble_eq_true rfl) ?_
  intro p e s m below meth c ls C hr hlocks hnm hw hl
  have hl : lv_has ls 2 [(0, .ref (ad 20)), (1, .int a1)] := hl
  unfold DX0_beginListening at hD
  refine lv_aload_n C.1.1 C.1.2.1 dX0_beginListening_0 rfl (lv_at hl 0 rfl) ?_
  refine mr_getR C hw kc_0 3 (by decide) tf_20 ff_20_3 wd_176 dX0_beginListening_1 (by decide) rfl ?_
  refine lv_iconst (v := 0) C.1.1 C.1.2.1 dX0_beginListening_4 (by decide) ?_
  refine mr_aald C hw (by decide) tf_24 (by decide) (by decide) rfl rfl (show vp_in 0 8 from by unfold vp_in; decide) ff_24_0 dX0_beginListening_5 ?_
  refine lv_iload_n C.1.1 C.1.2.1 dX0_beginListening_6 rfl (lv_at hl 1 rfl) ?_
  refine lv_iconst (v := 2) C.1.1 C.1.2.1 dX0_beginListening_7 (by decide) ?_
  obtain ⟨q2, hD⟩ := g_ck hD
  obtain ⟨M3, eM3, hD⟩ := g_let hD
  refine mr_iast C hw (by decide) tf_25 q2 dX0_beginListening_8 (fun H locs hw => ?_)
  replace hw : mw_W G ad NF TF FF M3 L H locs := by rw [eM3]; exact hw
  refine lv_aload_n C.1.1 C.1.2.1 dX0_beginListening_9 rfl (lv_at hl 0 rfl) ?_
  refine mr_getR C hw kc_0 5 (by decide) tf_20 ff_20_5 wd_179 dX0_beginListening_10 (by decide) rfl ?_
  refine lv_iload_n C.1.1 C.1.2.1 dX0_beginListening_13 rfl (lv_at hl 1 rfl) ?_
  obtain ⟨q4, hD⟩ := g_ck hD
  refine mr_aald C hw (by decide) tf_41 (by decide) (by decide) rfl rfl q4 (fr_41 _ (g_lt q4)) dX0_beginListening_14 ?_
  obtain ⟨M5, L6, h1, hD⟩ := g_b2 hD
  refine md_cvV (As := []) (rest := []) C hw (tX5_begin l G ad fu ((47 + 2 * a1.toNatClampNeg)) M3 L h1 (isEa_of (g_lt q4))) kc_5 (Ea_N0 (isEa_of (g_lt q4))) (Ea_T0 (isEa_of (g_lt q4))) wd_1381 cwX5_begin ⟨Nat.le_of_ble_eq_true rfl, Nat.le_of_ble_eq_true rfl⟩ rfl hl.1 (Nat.le_of_ble_eq_true rfl) dX0_beginListening_15 rfl rfl ⟨Nat.zero_le _, Nat.zero_le _⟩ rfl (fun H locs hw => ?_)
  exact mr_vret C hr hlocks hw (Option.some.inj hD) dX0_beginListening_18

theorem dX0_seePausing_0 : decode cX0_seePausing 0 = .ok (.aload_n 0, 1) := by decide +kernel
theorem dX0_seePausing_1 : decode cX0_seePausing 1 = .ok (.getfield 24, 3) := by decide +kernel
theorem dX0_seePausing_4 : decode cX0_seePausing 4 = .ok (.iconst 1, 1) := by decide +kernel
theorem dX0_seePausing_5 : decode cX0_seePausing 5 = .ok (.aaload, 1) := by decide +kernel
theorem dX0_seePausing_6 : decode cX0_seePausing 6 = .ok (.iload_n 1, 1) := by decide +kernel
theorem dX0_seePausing_7 : decode cX0_seePausing 7 = .ok (.dup2, 1) := by decide +kernel
theorem dX0_seePausing_8 : decode cX0_seePausing 8 = .ok (.iaload, 1) := by decide +kernel
theorem dX0_seePausing_9 : decode cX0_seePausing 9 = .ok (.iconst 1, 1) := by decide +kernel
theorem dX0_seePausing_10 : decode cX0_seePausing 10 = .ok (.isub, 1) := by decide +kernel
theorem dX0_seePausing_11 : decode cX0_seePausing 11 = .ok (.iastore, 1) := by decide +kernel
theorem dX0_seePausing_12 : decode cX0_seePausing 12 = .ok (.iload_n 2, 1) := by decide +kernel
theorem dX0_seePausing_13 : decode cX0_seePausing 13 = .ok (.ifCond .ne 24, 3) := by decide +kernel
theorem dX0_seePausing_16 : decode cX0_seePausing 16 = .ok (.aload_n 0, 1) := by decide +kernel
theorem dX0_seePausing_17 : decode cX0_seePausing 17 = .ok (.getfield 24, 3) := by decide +kernel
theorem dX0_seePausing_20 : decode cX0_seePausing 20 = .ok (.iconst 1, 1) := by decide +kernel
theorem dX0_seePausing_21 : decode cX0_seePausing 21 = .ok (.aaload, 1) := by decide +kernel
theorem dX0_seePausing_22 : decode cX0_seePausing 22 = .ok (.iload_n 1, 1) := by decide +kernel
theorem dX0_seePausing_23 : decode cX0_seePausing 23 = .ok (.iaload, 1) := by decide +kernel
theorem dX0_seePausing_24 : decode cX0_seePausing 24 = .ok (.ifCond .le 13, 3) := by decide +kernel
theorem dX0_seePausing_27 : decode cX0_seePausing 27 = .ok (.aload_n 0, 1) := by decide +kernel
theorem dX0_seePausing_28 : decode cX0_seePausing 28 = .ok (.iload_n 1, 1) := by decide +kernel
theorem dX0_seePausing_29 : decode cX0_seePausing 29 = .ok (.iconst 5, 1) := by decide +kernel
theorem dX0_seePausing_30 : decode cX0_seePausing 30 = .ok (.iload_n 3, 1) := by decide +kernel
theorem dX0_seePausing_31 : decode cX0_seePausing 31 = .ok (.invokevirtual 110, 3) := by decide +kernel
theorem dX0_seePausing_34 : decode cX0_seePausing 34 = .ok (.goto 67, 3) := by decide +kernel
theorem dX0_seePausing_37 : decode cX0_seePausing 37 = .ok (.iload_n 2, 1) := by decide +kernel
theorem dX0_seePausing_38 : decode cX0_seePausing 38 = .ok (.ifCond .ne 31, 3) := by decide +kernel
theorem dX0_seePausing_41 : decode cX0_seePausing 41 = .ok (.aload_n 0, 1) := by decide +kernel
theorem dX0_seePausing_42 : decode cX0_seePausing 42 = .ok (.getfield 24, 3) := by decide +kernel
theorem dX0_seePausing_45 : decode cX0_seePausing 45 = .ok (.iconst 5, 1) := by decide +kernel
theorem dX0_seePausing_46 : decode cX0_seePausing 46 = .ok (.aaload, 1) := by decide +kernel
theorem dX0_seePausing_47 : decode cX0_seePausing 47 = .ok (.iload_n 1, 1) := by decide +kernel
theorem dX0_seePausing_48 : decode cX0_seePausing 48 = .ok (.iaload, 1) := by decide +kernel
theorem dX0_seePausing_49 : decode cX0_seePausing 49 = .ok (.ifCond .le 20, 3) := by decide +kernel
theorem dX0_seePausing_52 : decode cX0_seePausing 52 = .ok (.aload_n 0, 1) := by decide +kernel
theorem dX0_seePausing_53 : decode cX0_seePausing 53 = .ok (.iload_n 1, 1) := by decide +kernel
theorem dX0_seePausing_54 : decode cX0_seePausing 54 = .ok (.invokevirtual 77, 3) := by decide +kernel
theorem dX0_seePausing_57 : decode cX0_seePausing 57 = .ok (.aload_n 0, 1) := by decide +kernel
theorem dX0_seePausing_58 : decode cX0_seePausing 58 = .ok (.getfield 24, 3) := by decide +kernel
theorem dX0_seePausing_61 : decode cX0_seePausing 61 = .ok (.iconst 3, 1) := by decide +kernel
theorem dX0_seePausing_62 : decode cX0_seePausing 62 = .ok (.aaload, 1) := by decide +kernel
theorem dX0_seePausing_63 : decode cX0_seePausing 63 = .ok (.iload_n 1, 1) := by decide +kernel
theorem dX0_seePausing_64 : decode cX0_seePausing 64 = .ok (.iconst 1, 1) := by decide +kernel
theorem dX0_seePausing_65 : decode cX0_seePausing 65 = .ok (.iastore, 1) := by decide +kernel
theorem dX0_seePausing_66 : decode cX0_seePausing 66 = .ok (.goto 35, 3) := by decide +kernel
theorem dX0_seePausing_69 : decode cX0_seePausing 69 = .ok (.iload_n 2, 1) := by decide +kernel
theorem dX0_seePausing_70 : decode cX0_seePausing 70 = .ok (.ifCond .ne 11, 3) := by decide +kernel
theorem dX0_seePausing_73 : decode cX0_seePausing 73 = .ok (.aload_n 0, 1) := by decide +kernel
theorem dX0_seePausing_74 : decode cX0_seePausing 74 = .ok (.iload_n 1, 1) := by decide +kernel
theorem dX0_seePausing_75 : decode cX0_seePausing 75 = .ok (.invokevirtual 85, 3) := by decide +kernel
theorem dX0_seePausing_78 : decode cX0_seePausing 78 = .ok (.goto 23, 3) := by decide +kernel
theorem dX0_seePausing_81 : decode cX0_seePausing 81 = .ok (.aload_n 0, 1) := by decide +kernel
theorem dX0_seePausing_82 : decode cX0_seePausing 82 = .ok (.getfield 24, 3) := by decide +kernel
theorem dX0_seePausing_85 : decode cX0_seePausing 85 = .ok (.iconst 1, 1) := by decide +kernel
theorem dX0_seePausing_86 : decode cX0_seePausing 86 = .ok (.aaload, 1) := by decide +kernel
theorem dX0_seePausing_87 : decode cX0_seePausing 87 = .ok (.iload_n 1, 1) := by decide +kernel
theorem dX0_seePausing_88 : decode cX0_seePausing 88 = .ok (.iaload, 1) := by decide +kernel
theorem dX0_seePausing_89 : decode cX0_seePausing 89 = .ok (.ifCond .ne 12, 3) := by decide +kernel
theorem dX0_seePausing_92 : decode cX0_seePausing 92 = .ok (.aload_n 0, 1) := by decide +kernel
theorem dX0_seePausing_93 : decode cX0_seePausing 93 = .ok (.getfield 24, 3) := by decide +kernel
theorem dX0_seePausing_96 : decode cX0_seePausing 96 = .ok (.iconst 0, 1) := by decide +kernel
theorem dX0_seePausing_97 : decode cX0_seePausing 97 = .ok (.aaload, 1) := by decide +kernel
theorem dX0_seePausing_98 : decode cX0_seePausing 98 = .ok (.iload_n 1, 1) := by decide +kernel
theorem dX0_seePausing_99 : decode cX0_seePausing 99 = .ok (.iconst 0, 1) := by decide +kernel
theorem dX0_seePausing_100 : decode cX0_seePausing 100 = .ok (.iastore, 1) := by decide +kernel
theorem dX0_seePausing_101 : decode cX0_seePausing 101 = .ok (.return_, 1) := by decide +kernel
theorem cwX0_seePausing : mw_cwV yX0_seePausing cX0_seePausing 4 (none) 3 := ⟨⟨wd_5, wd_1471, by decide +kernel⟩, wd_1470, sl_94⟩
noncomputable def fX0_seePausing_b101 (fu : Nat) (a1 : Int32) (a2 : Int32) (a3 : Int32) (M : mwM) (L : mwL) : Option (mwM × mwL) :=
  some (M, L)
noncomputable def fX0_seePausing_b69 (fu : Nat) (a1 : Int32) (a2 : Int32) (a3 : Int32) (M : mwM) (L : mwL) : Option (mwM × mwL) :=
  (if a2 = 0 then mb2 (DX0_beginListening fu a1 M L) (fun M17 L18 => fX0_seePausing_b101 fu a1 a2 a3 M17 L18) else mck a1 7 ((if (M 26 a1.toNatClampNeg) = 0 then mck a1 7 (mlet (mset M 25 (a1.toNatClampNeg) 0) (fun M16 => fX0_seePausing_b101 fu a1 a2 a3 M16 L)) else fX0_seePausing_b101 fu a1 a2 a3 M L)))
noncomputable def fX0_seePausing_b37 (fu : Nat) (a1 : Int32) (a2 : Int32) (a3 : Int32) (M : mwM) (L : mwL) : Option (mwM × mwL) :=
  (if a2 = 0 then mck a1 7 ((if (M 30 a1.toNatClampNeg) ≤ 0 then fX0_seePausing_b69 fu a1 a2 a3 M L else mb2 (DX0_beginSending fu a1 M L) (fun M5 L6 => mck a1 7 (mlet (mset M5 28 (a1.toNatClampNeg) 1) (fun M9 => fX0_seePausing_b101 fu a1 a2 a3 M9 L6))))) else fX0_seePausing_b69 fu a1 a2 a3 M L)
noncomputable def DX0_seePausing (fu : Nat) (a1 : Int32) (a2 : Int32) (a3 : Int32) (M : mwM) (L : mwL) : Option (mwM × mwL) :=
  mck a1 7 (mck a1 7 (mlet (mset M 26 (a1.toNatClampNeg) ((M 26 a1.toNatClampNeg) - 1)) (fun M22 => (if a2 = 0 then mck a1 7 ((if (M22 26 a1.toNatClampNeg) ≤ 0 then fX0_seePausing_b37 fu a1 a2 a3 M22 L else mb2 (DX0_tellFault fu a1 5 a3 M22 L) (fun M27 L28 => fX0_seePausing_b101 fu a1 a2 a3 M27 L28))) else fX0_seePausing_b37 fu a1 a2 a3 M22 L))))
set_option maxHeartbeats 4000000 in
set_option maxRecDepth 100000 in
theorem tX0_seePausing (l : Launch) (G : mwG) (ad : Nat → Nat) (fu : Nat) (a1 : Int32) (a2 : Int32) (a3 : Int32) (M : mwM) (L : mwL) {M0 : mwM} {L0 : mwL} (hD : DX0_seePausing fu a1 a2 a3 M L = some (M0, L0)) : Met l yX0_seePausing (Cond.code yX0_seePausing cX0_seePausing 4 (none) :: GT) ({ frames := 3, cells := 0, slots := 0, locals := 75 }) (mw_Pre G ad NF TF FF M L [.ref (ad 20), .int a1, .int a2, .int a3]) (mw_Qv G ad NF TF FF (mw_eqV M0 L0)) 0 0 (mw_fr G) := by
  refine mw_enter (by decide) (Nat.le_of_ble_eq_true rfl) ?_
  intro p e s m below meth c ls C hr hlocks hnm hw hl
  have hl : lv_has ls 4 [(0, .ref (ad 20)), (1, .int a1), (2, .int a2), (3, .int a3)] := hl
  have hb101 : ∀ (M : mwM) (L : mwL) (H : Heap) (locs : List Loc) (ls : Array Slot), fX0_seePausing_b101 fu a1 a2 a3 M L = some (M0, L0) → mw_W G ad NF TF FF M L H locs → lv_has ls 4 [] → W p l e ({ frames := 3, cells := 0, slots := 0, locals := 75 }) s m [.ref (ad 20), .int a1, .int a2, .int a3].toArray below meth c H locs 0 0 (MQ below (mw_Qv G ad NF TF FF (mw_eqV M0 L0)) [.ref (ad 20), .int a1, .int a2, .int a3].toArray s 0 0 (mw_fr G)) (F0 m 101 ls []) := by
    intro M L H locs ls hD hw hl
    unfold fX0_seePausing_b101 at hD
    exact mr_vret C hr hlocks hw (Option.some.inj hD) dX0_seePausing_101
  have hb69 : ∀ (M : mwM) (L : mwL) (H : Heap) (locs : List Loc) (ls : Array Slot), fX0_seePausing_b69 fu a1 a2 a3 M L = some (M0, L0) → mw_W G ad NF TF FF M L H locs → lv_has ls 4 [(0, .ref (ad 20)), (1, .int a1), (2, .int a2)] → W p l e ({ frames := 3, cells := 0, slots := 0, locals := 75 }) s m [.ref (ad 20), .int a1, .int a2, .int a3].toArray below meth c H locs 0 0 (MQ below (mw_Qv G ad NF TF FF (mw_eqV M0 L0)) [.ref (ad 20), .int a1, .int a2, .int a3].toArray s 0 0 (mw_fr G)) (F0 m 69 ls []) := by
    intro M L H locs ls hD hw hl
    unfold fX0_seePausing_b69 at hD
    refine lv_iload_n C.1.1 C.1.2.1 dX0_seePausing_69 rfl (lv_at hl 2 rfl) ?_
    refine lv_if_ne (tgt := 81) C.1.1 C.1.2.1 dX0_seePausing_70 (by decide) (fun c10 => ?_) (fun c10 => ?_)
    · replace hD := g_neg c10 hD
      refine lv_aload_n C.1.1 C.1.2.1 dX0_seePausing_81 rfl (lv_at hl 0 rfl) ?_
      refine mr_getR C hw kc_0 3 (by decide) tf_20 ff_20_3 wd_176 dX0_seePausing_82 (by decide) rfl ?_
      refine lv_iconst (v := 1) C.1.1 C.1.2.1 dX0_seePausing_85 (by decide) ?_
      refine mr_aald C hw (by decide) tf_24 (by decide) (by decide) rfl rfl (show vp_in 1 8 from by unfold vp_in; decide) ff_24_1 dX0_seePausing_86 ?_
      refine lv_iload_n C.1.1 C.1.2.1 dX0_seePausing_87 rfl (lv_at hl 1 rfl) ?_
      obtain ⟨q12, hD⟩ := g_ck hD
      refine mr_iald C hw (by decide) tf_26 q12 dX0_seePausing_88 ?_
      refine lv_if_ne (tgt := 101) C.1.1 C.1.2.1 dX0_seePausing_89 (by decide) (fun c13 => ?_) (fun c13 => ?_)
      · replace hD := g_neg c13 hD
        exact hb101 M L _ _ ls hD hw (lv_sub hl [] rfl)
      · replace hD := g_pos c13 hD
        refine lv_aload_n C.1.1 C.1.2.1 dX0_seePausing_92 rfl (lv_at hl 0 rfl) ?_
        refine mr_getR C hw kc_0 3 (by decide) tf_20 ff_20_3 wd_176 dX0_seePausing_93 (by decide) rfl ?_
        refine lv_iconst (v := 0) C.1.1 C.1.2.1 dX0_seePausing_96 (by decide) ?_
        refine mr_aald C hw (by decide) tf_24 (by decide) (by decide) rfl rfl (show vp_in 0 8 from by unfold vp_in; decide) ff_24_0 dX0_seePausing_97 ?_
        refine lv_iload_n C.1.1 C.1.2.1 dX0_seePausing_98 rfl (lv_at hl 1 rfl) ?_
        refine lv_iconst (v := 0) C.1.1 C.1.2.1 dX0_seePausing_99 (by decide) ?_
        obtain ⟨q15, hD⟩ := g_ck hD
        obtain ⟨M16, eM16, hD⟩ := g_let hD
        refine mr_iast C hw (by decide) tf_25 q15 dX0_seePausing_100 (fun H locs hw => ?_)
        replace hw : mw_W G ad NF TF FF M16 L H locs := by rw [eM16]; exact hw
        exact hb101 M16 L _ _ ls hD hw (lv_sub hl [] rfl)
    · replace hD := g_pos c10 hD
      refine lv_aload_n C.1.1 C.1.2.1 dX0_seePausing_73 rfl (lv_at hl 0 rfl) ?_
      refine lv_iload_n C.1.1 C.1.2.1 dX0_seePausing_74 rfl (lv_at hl 1 rfl) ?_
      obtain ⟨M17, L18, h1, hD⟩ := g_b2 hD
      refine md_cvV (As := [.int a1]) (rest := []) C hw (tX0_beginListening l G ad fu a1 M L h1) kc_0 (by decide) tf_20 wd_1377 cwX0_beginListening ⟨Nat.le_of_ble_eq_true rfl, Nat.le_of_ble_eq_true rfl⟩ rfl hl.1 (Nat.le_of_ble_eq_true rfl) dX0_seePausing_75 rfl rfl ⟨Nat.zero_le _, Nat.zero_le _⟩ rfl (fun H locs hw => ?_)
      refine lv_goto (tgt := 101) C.1.1 C.1.2.1 dX0_seePausing_78 (by decide) ?_
      exact hb101 M17 L18 _ _ ls hD hw (lv_sub hl [] rfl)
  have hb37 : ∀ (M : mwM) (L : mwL) (H : Heap) (locs : List Loc) (ls : Array Slot), fX0_seePausing_b37 fu a1 a2 a3 M L = some (M0, L0) → mw_W G ad NF TF FF M L H locs → lv_has ls 4 [(0, .ref (ad 20)), (1, .int a1), (2, .int a2)] → W p l e ({ frames := 3, cells := 0, slots := 0, locals := 75 }) s m [.ref (ad 20), .int a1, .int a2, .int a3].toArray below meth c H locs 0 0 (MQ below (mw_Qv G ad NF TF FF (mw_eqV M0 L0)) [.ref (ad 20), .int a1, .int a2, .int a3].toArray s 0 0 (mw_fr G)) (F0 m 37 ls []) := by
    intro M L H locs ls hD hw hl
    unfold fX0_seePausing_b37 at hD
    refine lv_iload_n C.1.1 C.1.2.1 dX0_seePausing_37 rfl (lv_at hl 2 rfl) ?_
    refine lv_if_ne (tgt := 69) C.1.1 C.1.2.1 dX0_seePausing_38 (by decide) (fun c1 => ?_) (fun c1 => ?_)
    · replace hD := g_neg c1 hD
      exact hb69 M L _ _ ls hD hw (lv_sub hl [0, 1, 2] rfl)
    · replace hD := g_pos c1 hD
      refine lv_aload_n C.1.1 C.1.2.1 dX0_seePausing_41 rfl (lv_at hl 0 rfl) ?_
      refine mr_getR C hw kc_0 3 (by decide) tf_20 ff_20_3 wd_176 dX0_seePausing_42 (by decide) rfl ?_
      refine lv_iconst (v := 5) C.1.1 C.1.2.1 dX0_seePausing_45 (by decide) ?_
      refine mr_aald C hw (by decide) tf_24 (by decide) (by decide) rfl rfl (show vp_in 5 8 from by unfold vp_in; decide) ff_24_5 dX0_seePausing_46 ?_
      refine lv_iload_n C.1.1 C.1.2.1 dX0_seePausing_47 rfl (lv_at hl 1 rfl) ?_
      obtain ⟨q3, hD⟩ := g_ck hD
      refine mr_iald C hw (by decide) tf_30 q3 dX0_seePausing_48 ?_
      refine lv_if_le (tgt := 69) C.1.1 C.1.2.1 dX0_seePausing_49 (by decide) (fun c4 => ?_) (fun c4 => ?_)
      · replace hD := g_pos c4 hD
        exact hb69 M L _ _ ls hD hw (lv_sub hl [0, 1, 2] rfl)
      · replace hD := g_neg c4 hD
        refine lv_aload_n C.1.1 C.1.2.1 dX0_seePausing_52 rfl (lv_at hl 0 rfl) ?_
        refine lv_iload_n C.1.1 C.1.2.1 dX0_seePausing_53 rfl (lv_at hl 1 rfl) ?_
        obtain ⟨M5, L6, h1, hD⟩ := g_b2 hD
        refine md_cvV (As := [.int a1]) (rest := []) C hw (tX0_beginSending l G ad fu a1 M L h1) kc_0 (by decide) tf_20 wd_1345 cwX0_beginSending ⟨Nat.le_of_ble_eq_true rfl, Nat.le_of_ble_eq_true rfl⟩ rfl hl.1 (Nat.le_of_ble_eq_true rfl) dX0_seePausing_54 rfl rfl ⟨Nat.zero_le _, Nat.zero_le _⟩ rfl (fun H locs hw => ?_)
        refine lv_aload_n C.1.1 C.1.2.1 dX0_seePausing_57 rfl (lv_at hl 0 rfl) ?_
        refine mr_getR C hw kc_0 3 (by decide) tf_20 ff_20_3 wd_176 dX0_seePausing_58 (by decide) rfl ?_
        refine lv_iconst (v := 3) C.1.1 C.1.2.1 dX0_seePausing_61 (by decide) ?_
        refine mr_aald C hw (by decide) tf_24 (by decide) (by decide) rfl rfl (show vp_in 3 8 from by unfold vp_in; decide) ff_24_3 dX0_seePausing_62 ?_
        refine lv_iload_n C.1.1 C.1.2.1 dX0_seePausing_63 rfl (lv_at hl 1 rfl) ?_
        refine lv_iconst (v := 1) C.1.1 C.1.2.1 dX0_seePausing_64 (by decide) ?_
        obtain ⟨q8, hD⟩ := g_ck hD
        obtain ⟨M9, eM9, hD⟩ := g_let hD
        refine mr_iast C hw (by decide) tf_28 q8 dX0_seePausing_65 (fun H locs hw => ?_)
        replace hw : mw_W G ad NF TF FF M9 L6 H locs := by rw [eM9]; exact hw
        refine lv_goto (tgt := 101) C.1.1 C.1.2.1 dX0_seePausing_66 (by decide) ?_
        exact hb101 M9 L6 _ _ ls hD hw (lv_sub hl [] rfl)
  unfold DX0_seePausing at hD
  refine lv_aload_n C.1.1 C.1.2.1 dX0_seePausing_0 rfl (lv_at hl 0 rfl) ?_
  refine mr_getR C hw kc_0 3 (by decide) tf_20 ff_20_3 wd_176 dX0_seePausing_1 (by decide) rfl ?_
  refine lv_iconst (v := 1) C.1.1 C.1.2.1 dX0_seePausing_4 (by decide) ?_
  refine mr_aald C hw (by decide) tf_24 (by decide) (by decide) rfl rfl (show vp_in 1 8 from by unfold vp_in; decide) ff_24_1 dX0_seePausing_5 ?_
  refine lv_iload_n C.1.1 C.1.2.1 dX0_seePausing_6 rfl (lv_at hl 1 rfl) ?_
  refine lv_dup2_11 C.1.1 C.1.2.1 dX0_seePausing_7 rfl rfl ?_
  obtain ⟨q20, hD⟩ := g_ck hD
  refine mr_iald C hw (by decide) tf_26 q20 dX0_seePausing_8 ?_
  refine lv_iconst (v := 1) C.1.1 C.1.2.1 dX0_seePausing_9 (by decide) ?_
  refine lv_isub C.1.1 C.1.2.1 dX0_seePausing_10 ?_
  obtain ⟨q21, hD⟩ := g_ck hD
  obtain ⟨M22, eM22, hD⟩ := g_let hD
  refine mr_iast C hw (by decide) tf_26 q21 dX0_seePausing_11 (fun H locs hw => ?_)
  replace hw : mw_W G ad NF TF FF M22 L H locs := by rw [eM22]; exact hw
  refine lv_iload_n C.1.1 C.1.2.1 dX0_seePausing_12 rfl (lv_at hl 2 rfl) ?_
  refine lv_if_ne (tgt := 37) C.1.1 C.1.2.1 dX0_seePausing_13 (by decide) (fun c23 => ?_) (fun c23 => ?_)
  · replace hD := g_neg c23 hD
    exact hb37 M22 L _ _ ls hD hw (lv_sub hl [0, 1, 2] rfl)
  · replace hD := g_pos c23 hD
    refine lv_aload_n C.1.1 C.1.2.1 dX0_seePausing_16 rfl (lv_at hl 0 rfl) ?_
    refine mr_getR C hw kc_0 3 (by decide) tf_20 ff_20_3 wd_176 dX0_seePausing_17 (by decide) rfl ?_
    refine lv_iconst (v := 1) C.1.1 C.1.2.1 dX0_seePausing_20 (by decide) ?_
    refine mr_aald C hw (by decide) tf_24 (by decide) (by decide) rfl rfl (show vp_in 1 8 from by unfold vp_in; decide) ff_24_1 dX0_seePausing_21 ?_
    refine lv_iload_n C.1.1 C.1.2.1 dX0_seePausing_22 rfl (lv_at hl 1 rfl) ?_
    obtain ⟨q25, hD⟩ := g_ck hD
    refine mr_iald C hw (by decide) tf_26 q25 dX0_seePausing_23 ?_
    refine lv_if_le (tgt := 37) C.1.1 C.1.2.1 dX0_seePausing_24 (by decide) (fun c26 => ?_) (fun c26 => ?_)
    · replace hD := g_pos c26 hD
      exact hb37 M22 L _ _ ls hD hw (lv_sub hl [0, 1, 2] rfl)
    · replace hD := g_neg c26 hD
      refine lv_aload_n C.1.1 C.1.2.1 dX0_seePausing_27 rfl (lv_at hl 0 rfl) ?_
      refine lv_iload_n C.1.1 C.1.2.1 dX0_seePausing_28 rfl (lv_at hl 1 rfl) ?_
      refine lv_iconst (v := 5) C.1.1 C.1.2.1 dX0_seePausing_29 (by decide) ?_
      refine lv_iload_n C.1.1 C.1.2.1 dX0_seePausing_30 rfl (lv_at hl 3 rfl) ?_
      obtain ⟨M27, L28, h1, hD⟩ := g_b2 hD
      refine md_cvV (As := [.int a1, .int 5, .int a3]) (rest := []) C hw (tX0_tellFault l G ad fu a1 5 a3 M22 L h1) kc_0 (by decide) tf_20 wd_1448 cwX0_tellFault ⟨Nat.le_of_ble_eq_true rfl, Nat.le_of_ble_eq_true rfl⟩ rfl hl.1 (Nat.le_of_ble_eq_true rfl) dX0_seePausing_31 rfl rfl ⟨Nat.zero_le _, Nat.zero_le _⟩ rfl (fun H locs hw => ?_)
      refine lv_goto (tgt := 101) C.1.1 C.1.2.1 dX0_seePausing_34 (by decide) ?_
      exact hb101 M27 L28 _ _ ls hD hw (lv_sub hl [] rfl)
