theorem dX8_keepName_0 : decode cX8_keepName 0 = .ok (.aload_n 0, 1) := by decide +kernel
theorem dX8_keepName_1 : decode cX8_keepName 1 = .ok (.getfield 34, 3) := by decide +kernel
theorem dX8_keepName_4 : decode cX8_keepName 4 = .ok (.ifCond .ne 13, 3) := by decide +kernel
theorem dX8_keepName_7 : decode cX8_keepName 7 = .ok (.aload_n 0, 1) := by decide +kernel
theorem dX8_keepName_8 : decode cX8_keepName 8 = .ok (.getfield 31, 3) := by decide +kernel
theorem dX8_keepName_11 : decode cX8_keepName 11 = .ok (.sipush 600, 3) := by decide +kernel
theorem dX8_keepName_14 : decode cX8_keepName 14 = .ok (.if_icmp .lt 4, 3) := by decide +kernel
theorem dX8_keepName_17 : decode cX8_keepName 17 = .ok (.return_, 1) := by decide +kernel
theorem dX8_keepName_18 : decode cX8_keepName 18 = .ok (.aload_n 0, 1) := by decide +kernel
theorem dX8_keepName_19 : decode cX8_keepName 19 = .ok (.getfield 24, 3) := by decide +kernel
theorem dX8_keepName_22 : decode cX8_keepName 22 = .ok (.iconst 0, 1) := by decide +kernel
theorem dX8_keepName_23 : decode cX8_keepName 23 = .ok (.aaload, 1) := by decide +kernel
theorem dX8_keepName_24 : decode cX8_keepName 24 = .ok (.aload_n 0, 1) := by decide +kernel
theorem dX8_keepName_25 : decode cX8_keepName 25 = .ok (.getfield 31, 3) := by decide +kernel
theorem dX8_keepName_28 : decode cX8_keepName 28 = .ok (.iload_n 1, 1) := by decide +kernel
theorem dX8_keepName_29 : decode cX8_keepName 29 = .ok (.iastore, 1) := by decide +kernel
theorem dX8_keepName_30 : decode cX8_keepName 30 = .ok (.aload_n 0, 1) := by decide +kernel
theorem dX8_keepName_31 : decode cX8_keepName 31 = .ok (.getfield 24, 3) := by decide +kernel
theorem dX8_keepName_34 : decode cX8_keepName 34 = .ok (.iconst 1, 1) := by decide +kernel
theorem dX8_keepName_35 : decode cX8_keepName 35 = .ok (.aaload, 1) := by decide +kernel
theorem dX8_keepName_36 : decode cX8_keepName 36 = .ok (.aload_n 0, 1) := by decide +kernel
theorem dX8_keepName_37 : decode cX8_keepName 37 = .ok (.getfield 31, 3) := by decide +kernel
theorem dX8_keepName_40 : decode cX8_keepName 40 = .ok (.aload_n 0, 1) := by decide +kernel
theorem dX8_keepName_41 : decode cX8_keepName 41 = .ok (.getfield 236, 3) := by decide +kernel
theorem dX8_keepName_44 : decode cX8_keepName 44 = .ok (.iastore, 1) := by decide +kernel
theorem dX8_keepName_45 : decode cX8_keepName 45 = .ok (.aload_n 0, 1) := by decide +kernel
theorem dX8_keepName_46 : decode cX8_keepName 46 = .ok (.getfield 24, 3) := by decide +kernel
theorem dX8_keepName_49 : decode cX8_keepName 49 = .ok (.iconst 2, 1) := by decide +kernel
theorem dX8_keepName_50 : decode cX8_keepName 50 = .ok (.aaload, 1) := by decide +kernel
theorem dX8_keepName_51 : decode cX8_keepName 51 = .ok (.aload_n 0, 1) := by decide +kernel
theorem dX8_keepName_52 : decode cX8_keepName 52 = .ok (.getfield 31, 3) := by decide +kernel
theorem dX8_keepName_55 : decode cX8_keepName 55 = .ok (.aload_n 0, 1) := by decide +kernel
theorem dX8_keepName_56 : decode cX8_keepName 56 = .ok (.getfield 267, 3) := by decide +kernel
theorem dX8_keepName_59 : decode cX8_keepName 59 = .ok (.iastore, 1) := by decide +kernel
theorem dX8_keepName_60 : decode cX8_keepName 60 = .ok (.aload_n 0, 1) := by decide +kernel
theorem dX8_keepName_61 : decode cX8_keepName 61 = .ok (.getfield 24, 3) := by decide +kernel
theorem dX8_keepName_64 : decode cX8_keepName 64 = .ok (.iconst 3, 1) := by decide +kernel
theorem dX8_keepName_65 : decode cX8_keepName 65 = .ok (.aaload, 1) := by decide +kernel
theorem dX8_keepName_66 : decode cX8_keepName 66 = .ok (.aload_n 0, 1) := by decide +kernel
theorem dX8_keepName_67 : decode cX8_keepName 67 = .ok (.getfield 31, 3) := by decide +kernel
theorem dX8_keepName_70 : decode cX8_keepName 70 = .ok (.iload_n 2, 1) := by decide +kernel
theorem dX8_keepName_71 : decode cX8_keepName 71 = .ok (.iastore, 1) := by decide +kernel
theorem dX8_keepName_72 : decode cX8_keepName 72 = .ok (.aload_n 0, 1) := by decide +kernel
theorem dX8_keepName_73 : decode cX8_keepName 73 = .ok (.getfield 24, 3) := by decide +kernel
theorem dX8_keepName_76 : decode cX8_keepName 76 = .ok (.iconst 4, 1) := by decide +kernel
theorem dX8_keepName_77 : decode cX8_keepName 77 = .ok (.aaload, 1) := by decide +kernel
theorem dX8_keepName_78 : decode cX8_keepName 78 = .ok (.aload_n 0, 1) := by decide +kernel
theorem dX8_keepName_79 : decode cX8_keepName 79 = .ok (.getfield 31, 3) := by decide +kernel
theorem dX8_keepName_82 : decode cX8_keepName 82 = .ok (.iload_n 3, 1) := by decide +kernel
theorem dX8_keepName_83 : decode cX8_keepName 83 = .ok (.iastore, 1) := by decide +kernel
theorem dX8_keepName_84 : decode cX8_keepName 84 = .ok (.aload_n 0, 1) := by decide +kernel
theorem dX8_keepName_85 : decode cX8_keepName 85 = .ok (.dup, 1) := by decide +kernel
theorem dX8_keepName_86 : decode cX8_keepName 86 = .ok (.getfield 31, 3) := by decide +kernel
theorem dX8_keepName_89 : decode cX8_keepName 89 = .ok (.iconst 1, 1) := by decide +kernel
theorem dX8_keepName_90 : decode cX8_keepName 90 = .ok (.iadd, 1) := by decide +kernel
theorem dX8_keepName_91 : decode cX8_keepName 91 = .ok (.putfield 31, 3) := by decide +kernel
theorem dX8_keepName_94 : decode cX8_keepName 94 = .ok (.return_, 1) := by decide +kernel
theorem cwX8_keepName : mw_cwV yX8_keepName cX8_keepName 4 (none) 3 := ⟨⟨wd_2, wd_937, by decide +kernel⟩, wd_936, sl_15⟩
noncomputable def fX8_keepName_b17 (fu : Nat) (a1 : Int32) (a2 : Int32) (a3 : Int32) (M : mwM) (L : mwL) : Option (mwM × mwL) :=
  some (M, L)
noncomputable def DX8_keepName (fu : Nat) (a1 : Int32) (a2 : Int32) (a3 : Int32) (M : mwM) (L : mwL) : Option (mwM × mwL) :=
  (if (M 1 12) = 0 then (if (M 1 3) < 600 then mck (M 1 3) 600 (mlet (mset M 726 ((M 1 3).toNatClampNeg) a1) (fun M5 => mck (M5 1 3) 600 (mlet (mset M5 727 ((M5 1 3).toNatClampNeg) (M5 1 10)) (fun M8 => mck (M8 1 3) 600 (mlet (mset M8 728 ((M8 1 3).toNatClampNeg) (M8 1 11)) (fun M11 => mck (M11 1 3) 600 (mlet (mset M11 729 ((M11 1 3).toNatClampNeg) a2) (fun M14 => mck (M14 1 3) 600 (mlet (mset M14 730 ((M14 1 3).toNatClampNeg) a3) (fun M17 => mlet (mset M17 1 3 ((M17 1 3) + 1)) (fun M18 => some (M18, L)))))))))))) else fX8_keepName_b17 fu a1 a2 a3 M L) else fX8_keepName_b17 fu a1 a2 a3 M L)
set_option maxHeartbeats 4000000 in
set_option maxRecDepth 100000 in
theorem tX8_keepName (l : Launch) (G : mwG) (ad : Nat → Nat) (fu : Nat) (a1 : Int32) (a2 : Int32) (a3 : Int32) (M : mwM) (L : mwL) {M0 : mwM} {L0 : mwL} (hD : DX8_keepName fu a1 a2 a3 M L = some (M0, L0)) : Met l yX8_keepName (Cond.code yX8_keepName cX8_keepName 4 (none) :: GT) ({ frames := 0, cells := 0, slots := 0, locals := 0 }) (mw_Pre G ad NF TF FF M L [.ref (ad 1), .int a1, .int a2, .int a3]) (mw_Qv G ad NF TF FF (mw_eqV M0 L0)) 0 0 (mw_fr G) := by
  refine mw_enter (by decide) (Nat.le_of_ble_eq_true rfl) ?_
  intro p e s m below meth c ls C hr hlocks hnm hw hl
  have hl : lv_has ls 4 [(0, .ref (ad 1)), (1, .int a1), (2, .int a2), (3, .int a3)] := hl
  have hb17 : ∀ (M : mwM) (L : mwL) (H : Heap) (locs : List Loc) (ls : Array Slot), fX8_keepName_b17 fu a1 a2 a3 M L = some (M0, L0) → mw_W G ad NF TF FF M L H locs → lv_has ls 4 [] → W p l e ({ frames := 0, cells := 0, slots := 0, locals := 0 }) s m [.ref (ad 1), .int a1, .int a2, .int a3].toArray below meth c H locs 0 0 (MQ below (mw_Qv G ad NF TF FF (mw_eqV M0 L0)) [.ref (ad 1), .int a1, .int a2, .int a3].toArray s 0 0 (mw_fr G)) (F0 m 17 ls []) := by
    intro M L H locs ls hD hw hl
    unfold fX8_keepName_b17 at hD
    exact mr_vret C hr hlocks hw (Option.some.inj hD) dX8_keepName_17
  unfold DX8_keepName at hD
  refine lv_aload_n C.1.1 C.1.2.1 dX8_keepName_0 rfl (lv_at hl 0 rfl) ?_
  refine mr_getI C hw kc_8 12 (by decide) tf_1 wd_607 dX8_keepName_1 (by decide) rfl ?_
  refine lv_if_ne (tgt := 17) C.1.1 C.1.2.1 dX8_keepName_4 (by decide) (fun c1 => ?_) (fun c1 => ?_)
  · replace hD := g_neg c1 hD
    exact hb17 M L _ _ ls hD hw (lv_sub hl [] rfl)
  · replace hD := g_pos c1 hD
    refine lv_aload_n C.1.1 C.1.2.1 dX8_keepName_7 rfl (lv_at hl 0 rfl) ?_
    refine mr_getI C hw kc_8 3 (by decide) tf_1 wd_597 dX8_keepName_8 (by decide) rfl ?_
    refine lv_sipush (v := 600) C.1.1 C.1.2.1 dX8_keepName_11 (by decide) ?_
    refine lv_icmp_lt (tgt := 18) C.1.1 C.1.2.1 dX8_keepName_14 (by decide) (fun c2 => ?_) (fun c2 => ?_)
    · replace hD := g_pos c2 hD
      refine lv_aload_n C.1.1 C.1.2.1 dX8_keepName_18 rfl (lv_at hl 0 rfl) ?_
      refine mr_getR C hw kc_8 2 (by decide) tf_1 ff_1_2 wd_596 dX8_keepName_19 (by decide) rfl ?_
      refine lv_iconst (v := 0) C.1.1 C.1.2.1 dX8_keepName_22 (by decide) ?_
      refine mr_aald C hw (by decide) tf_725 (by decide) (by decide) rfl rfl (show vp_in 0 5 from by unfold vp_in; decide) ff_725_0 dX8_keepName_23 ?_
      refine lv_aload_n C.1.1 C.1.2.1 dX8_keepName_24 rfl (lv_at hl 0 rfl) ?_
      refine mr_getI C hw kc_8 3 (by decide) tf_1 wd_597 dX8_keepName_25 (by decide) rfl ?_
      refine lv_iload_n C.1.1 C.1.2.1 dX8_keepName_28 rfl (lv_at hl 1 rfl) ?_
      obtain ⟨q4, hD⟩ := g_ck hD
      obtain ⟨M5, eM5, hD⟩ := g_let hD
      refine mr_iast C hw (by decide) tf_726 q4 dX8_keepName_29 (fun H locs hw => ?_)
      replace hw : mw_W G ad NF TF FF M5 L H locs := by rw [eM5]; exact hw
      refine lv_aload_n C.1.1 C.1.2.1 dX8_keepName_30 rfl (lv_at hl 0 rfl) ?_
      refine mr_getR C hw kc_8 2 (by decide) tf_1 ff_1_2 wd_596 dX8_keepName_31 (by decide) rfl ?_
      refine lv_iconst (v := 1) C.1.1 C.1.2.1 dX8_keepName_34 (by decide) ?_
      refine mr_aald C hw (by decide) tf_725 (by decide) (by decide) rfl rfl (show vp_in 1 5 from by unfold vp_in; decide) ff_725_1 dX8_keepName_35 ?_
      refine lv_aload_n C.1.1 C.1.2.1 dX8_keepName_36 rfl (lv_at hl 0 rfl) ?_
      refine mr_getI C hw kc_8 3 (by decide) tf_1 wd_597 dX8_keepName_37 (by decide) rfl ?_
      refine lv_aload_n C.1.1 C.1.2.1 dX8_keepName_40 rfl (lv_at hl 0 rfl) ?_
      refine mr_getI C hw kc_8 10 (by decide) tf_1 wd_605 dX8_keepName_41 (by decide) rfl ?_
      obtain ⟨q7, hD⟩ := g_ck hD
      obtain ⟨M8, eM8, hD⟩ := g_let hD
      refine mr_iast C hw (by decide) tf_727 q7 dX8_keepName_44 (fun H locs hw => ?_)
      replace hw : mw_W G ad NF TF FF M8 L H locs := by rw [eM8]; exact hw
      refine lv_aload_n C.1.1 C.1.2.1 dX8_keepName_45 rfl (lv_at hl 0 rfl) ?_
      refine mr_getR C hw kc_8 2 (by decide) tf_1 ff_1_2 wd_596 dX8_keepName_46 (by decide) rfl ?_
      refine lv_iconst (v := 2) C.1.1 C.1.2.1 dX8_keepName_49 (by decide) ?_
      refine mr_aald C hw (by decide) tf_725 (by decide) (by decide) rfl rfl (show vp_in 2 5 from by unfold vp_in; decide) ff_725_2 dX8_keepName_50 ?_
      refine lv_aload_n C.1.1 C.1.2.1 dX8_keepName_51 rfl (lv_at hl 0 rfl) ?_
      refine mr_getI C hw kc_8 3 (by decide) tf_1 wd_597 dX8_keepName_52 (by decide) rfl ?_
      refine lv_aload_n C.1.1 C.1.2.1 dX8_keepName_55 rfl (lv_at hl 0 rfl) ?_
      refine mr_getI C hw kc_8 11 (by decide) tf_1 wd_606 dX8_keepName_56 (by decide) rfl ?_
      obtain ⟨q10, hD⟩ := g_ck hD
      obtain ⟨M11, eM11, hD⟩ := g_let hD
      refine mr_iast C hw (by decide) tf_728 q10 dX8_keepName_59 (fun H locs hw => ?_)
      replace hw : mw_W G ad NF TF FF M11 L H locs := by rw [eM11]; exact hw
      refine lv_aload_n C.1.1 C.1.2.1 dX8_keepName_60 rfl (lv_at hl 0 rfl) ?_
      refine mr_getR C hw kc_8 2 (by decide) tf_1 ff_1_2 wd_596 dX8_keepName_61 (by decide) rfl ?_
      refine lv_iconst (v := 3) C.1.1 C.1.2.1 dX8_keepName_64 (by decide) ?_
      refine mr_aald C hw (by decide) tf_725 (by decide) (by decide) rfl rfl (show vp_in 3 5 from by unfold vp_in; decide) ff_725_3 dX8_keepName_65 ?_
      refine lv_aload_n C.1.1 C.1.2.1 dX8_keepName_66 rfl (lv_at hl 0 rfl) ?_
      refine mr_getI C hw kc_8 3 (by decide) tf_1 wd_597 dX8_keepName_67 (by decide) rfl ?_
      refine lv_iload_n C.1.1 C.1.2.1 dX8_keepName_70 rfl (lv_at hl 2 rfl) ?_
      obtain ⟨q13, hD⟩ := g_ck hD
      obtain ⟨M14, eM14, hD⟩ := g_let hD
      refine mr_iast C hw (by decide) tf_729 q13 dX8_keepName_71 (fun H locs hw => ?_)
      replace hw : mw_W G ad NF TF FF M14 L H locs := by rw [eM14]; exact hw
      refine lv_aload_n C.1.1 C.1.2.1 dX8_keepName_72 rfl (lv_at hl 0 rfl) ?_
      refine mr_getR C hw kc_8 2 (by decide) tf_1 ff_1_2 wd_596 dX8_keepName_73 (by decide) rfl ?_
      refine lv_iconst (v := 4) C.1.1 C.1.2.1 dX8_keepName_76 (by decide) ?_
      refine mr_aald C hw (by decide) tf_725 (by decide) (by decide) rfl rfl (show vp_in 4 5 from by unfold vp_in; decide) ff_725_4 dX8_keepName_77 ?_
      refine lv_aload_n C.1.1 C.1.2.1 dX8_keepName_78 rfl (lv_at hl 0 rfl) ?_
      refine mr_getI C hw kc_8 3 (by decide) tf_1 wd_597 dX8_keepName_79 (by decide) rfl ?_
      refine lv_iload_n C.1.1 C.1.2.1 dX8_keepName_82 rfl (lv_at hl 3 rfl) ?_
      obtain ⟨q16, hD⟩ := g_ck hD
      obtain ⟨M17, eM17, hD⟩ := g_let hD
      refine mr_iast C hw (by decide) tf_730 q16 dX8_keepName_83 (fun H locs hw => ?_)
      replace hw : mw_W G ad NF TF FF M17 L H locs := by rw [eM17]; exact hw
      refine lv_aload_n C.1.1 C.1.2.1 dX8_keepName_84 rfl (lv_at hl 0 rfl) ?_
      refine lv_dup C.1.1 C.1.2.1 dX8_keepName_85 rfl ?_
      refine mr_getI C hw kc_8 3 (by decide) tf_1 wd_597 dX8_keepName_86 (by decide) rfl ?_
      refine lv_iconst (v := 1) C.1.1 C.1.2.1 dX8_keepName_89 (by decide) ?_
      refine lv_iadd C.1.1 C.1.2.1 dX8_keepName_90 ?_
      obtain ⟨M18, eM18, hD⟩ := g_let hD
      refine mr_putI C hw kc_8 3 (by decide) tf_1 wd_597 dX8_keepName_91 (by decide) rfl rfl rfl rfl (fun H locs hw => ?_)
      replace hw : mw_W G ad NF TF FF M18 L H locs := by rw [eM18]; exact hw
      exact mr_vret C hr hlocks hw (Option.some.inj hD) dX8_keepName_94
    · replace hD := g_neg c2 hD
      exact hb17 M L _ _ ls hD hw (lv_sub hl [] rfl)

theorem dX8_otherOperand_0 : decode cX8_otherOperand 0 = .ok (.aload_n 0, 1) := by decide +kernel
theorem dX8_otherOperand_1 : decode cX8_otherOperand 1 = .ok (.invokevirtual 282, 3) := by decide +kernel
theorem dX8_otherOperand_4 : decode cX8_otherOperand 4 = .ok (.ifCond .ne 5, 3) := by decide +kernel
theorem dX8_otherOperand_7 : decode cX8_otherOperand 7 = .ok (.iconst 0, 1) := by decide +kernel
theorem dX8_otherOperand_8 : decode cX8_otherOperand 8 = .ok (.ireturn, 1) := by decide +kernel
theorem dX8_otherOperand_9 : decode cX8_otherOperand 9 = .ok (.aload_n 0, 1) := by decide +kernel
theorem dX8_otherOperand_10 : decode cX8_otherOperand 10 = .ok (.iload_n 1, 1) := by decide +kernel
theorem dX8_otherOperand_11 : decode cX8_otherOperand 11 = .ok (.invokestatic 202, 3) := by decide +kernel
theorem dX8_otherOperand_14 : decode cX8_otherOperand 14 = .ok (.invokevirtual 279, 3) := by decide +kernel
theorem dX8_otherOperand_17 : decode cX8_otherOperand 17 = .ok (.istore_n 2, 1) := by decide +kernel
theorem dX8_otherOperand_18 : decode cX8_otherOperand 18 = .ok (.iload_n 2, 1) := by decide +kernel
theorem dX8_otherOperand_19 : decode cX8_otherOperand 19 = .ok (.ifCond .lt 16, 3) := by decide +kernel
theorem dX8_otherOperand_22 : decode cX8_otherOperand 22 = .ok (.sipush 256, 3) := by decide +kernel
theorem dX8_otherOperand_25 : decode cX8_otherOperand 25 = .ok (.aload_n 0, 1) := by decide +kernel
theorem dX8_otherOperand_26 : decode cX8_otherOperand 26 = .ok (.getfield 24, 3) := by decide +kernel
theorem dX8_otherOperand_29 : decode cX8_otherOperand 29 = .ok (.iconst 4, 1) := by decide +kernel
theorem dX8_otherOperand_30 : decode cX8_otherOperand 30 = .ok (.aaload, 1) := by decide +kernel
theorem dX8_otherOperand_31 : decode cX8_otherOperand 31 = .ok (.iload_n 2, 1) := by decide +kernel
theorem dX8_otherOperand_32 : decode cX8_otherOperand 32 = .ok (.iaload, 1) := by decide +kernel
theorem dX8_otherOperand_33 : decode cX8_otherOperand 33 = .ok (.imul, 1) := by decide +kernel
theorem dX8_otherOperand_34 : decode cX8_otherOperand 34 = .ok (.ireturn, 1) := by decide +kernel
theorem dX8_otherOperand_35 : decode cX8_otherOperand 35 = .ok (.aload_n 0, 1) := by decide +kernel
theorem dX8_otherOperand_36 : decode cX8_otherOperand 36 = .ok (.invokevirtual 290, 3) := by decide +kernel
theorem dX8_otherOperand_39 : decode cX8_otherOperand 39 = .ok (.ifCond .ne 14, 3) := by decide +kernel
theorem dX8_otherOperand_42 : decode cX8_otherOperand 42 = .ok (.aload_n 0, 1) := by decide +kernel
theorem dX8_otherOperand_43 : decode cX8_otherOperand 43 = .ok (.iconst 4, 1) := by decide +kernel
theorem dX8_otherOperand_44 : decode cX8_otherOperand 44 = .ok (.aload_n 0, 1) := by decide +kernel
theorem dX8_otherOperand_45 : decode cX8_otherOperand 45 = .ok (.getfield 50, 3) := by decide +kernel
theorem dX8_otherOperand_48 : decode cX8_otherOperand 48 = .ok (.invokevirtual 71, 3) := by decide +kernel
theorem dX8_otherOperand_51 : decode cX8_otherOperand 51 = .ok (.iconst 0, 1) := by decide +kernel
theorem dX8_otherOperand_52 : decode cX8_otherOperand 52 = .ok (.ireturn, 1) := by decide +kernel
theorem dX8_otherOperand_53 : decode cX8_otherOperand 53 = .ok (.sipush 8192, 3) := by decide +kernel
theorem dX8_otherOperand_56 : decode cX8_otherOperand 56 = .ok (.sipush 256, 3) := by decide +kernel
theorem dX8_otherOperand_59 : decode cX8_otherOperand 59 = .ok (.aload_n 0, 1) := by decide +kernel
theorem dX8_otherOperand_60 : decode cX8_otherOperand 60 = .ok (.iconst 0, 1) := by decide +kernel
theorem dX8_otherOperand_61 : decode cX8_otherOperand 61 = .ok (.bipush 31, 2) := by decide +kernel
theorem dX8_otherOperand_63 : decode cX8_otherOperand 63 = .ok (.invokevirtual 287, 3) := by decide +kernel
theorem dX8_otherOperand_66 : decode cX8_otherOperand 66 = .ok (.imul, 1) := by decide +kernel
theorem dX8_otherOperand_67 : decode cX8_otherOperand 67 = .ok (.iadd, 1) := by decide +kernel
theorem dX8_otherOperand_68 : decode cX8_otherOperand 68 = .ok (.ireturn, 1) := by decide +kernel
theorem cwX8_otherOperand : mw_cwV yX8_otherOperand cX8_otherOperand 3 ((some .int)) 1 := ⟨⟨wd_2, wd_1039, by decide +kernel⟩, wd_1038, sl_34⟩
noncomputable def DX8_otherOperand (fu : Nat) (a1 : Int32) (M : mwM) (L : mwL) : Option (Int32 × mwM × mwL) :=
  mb3 (DX8_fetchWord fu M L) (fun r3 M1 L2 => (if r3 = 0 then some (0, M1, L2) else mb3 (DX8_dataOf fu a1 M1 L2) (fun r7 M5 L6 => mb3 (DX8_findName fu r7 M5 L6) (fun r10 M8 L9 => (if r10 < 0 then mb3 (DX8_isNumber fu M8 L9) (fun r14 M12 L13 => (if r14 = 0 then mb2 (DX8_fail fu 4 (M12 1 8) M12 L13) (fun M19 L20 => some (0, M19, L20)) else mb3 (DX8_boundedNumber fu 0 31 M12 L13) (fun r18 M16 L17 => some (8192 + (256 * r18), M16, L17)))) else mck r10 600 (some (256 * (M8 730 r10.toNatClampNeg), M8, L9)))))))
set_option maxHeartbeats 4000000 in
set_option maxRecDepth 100000 in
theorem tX8_otherOperand (l : Launch) (G : mwG) (ad : Nat → Nat) (fu : Nat) (a1 : Int32) (M : mwM) (L : mwL) {r0 : Int32} {M0 : mwM} {L0 : mwL} (hD : DX8_otherOperand fu a1 M L = some (r0, M0, L0)) : Met l yX8_otherOperand (Cond.code yX8_otherOperand cX8_otherOperand 3 ((some .int)) :: GT) ({ frames := 3, cells := 0, slots := 0, locals := 65 }) (mw_Pre G ad NF TF FF M L [.ref (ad 1), .int a1]) (mw_Qi G ad NF TF FF (mw_eqI r0 M0 L0)) 0 0 (mw_fr G) := by
  refine mw_enter (by decide) (Nat.le_of_ble_eq_true rfl) ?_
  intro p e s m below meth c ls C hr hlocks hnm hw hl
  have hl : lv_has ls 3 [(0, .ref (ad 1)), (1, .int a1)] := hl
  unfold DX8_otherOperand at hD
  refine lv_aload_n C.1.1 C.1.2.1 dX8_otherOperand_0 rfl (lv_at hl 0 rfl) ?_
  obtain ⟨r3, M1, L2, h1, hD⟩ := g_b3 hD
  refine md_cvI (As := []) (rest := []) C hw (tX8_fetchWord l G ad fu M L h1) kc_8 (by decide) tf_1 wd_946 cwX8_fetchWord ⟨Nat.le_of_ble_eq_true rfl, Nat.le_of_ble_eq_true rfl⟩ rfl hl.1 (Nat.le_of_ble_eq_true rfl) dX8_otherOperand_1 rfl rfl ⟨Nat.zero_le _, Nat.zero_le _⟩ rfl (fun H locs hw => ?_)
  refine lv_if_ne (tgt := 9) C.1.1 C.1.2.1 dX8_otherOperand_4 (by decide) (fun c4 => ?_) (fun c4 => ?_)
  · replace hD := g_neg c4 hD
    refine lv_aload_n C.1.1 C.1.2.1 dX8_otherOperand_9 rfl (lv_at hl 0 rfl) ?_
    refine lv_iload_n C.1.1 C.1.2.1 dX8_otherOperand_10 rfl (lv_at hl 1 rfl) ?_
    obtain ⟨r7, M5, L6, h1, hD⟩ := g_b3 hD
    refine md_csI (As := [.int a1]) (rest := [.ref (ad 1)]) C hw (tX8_dataOf l G ad fu a1 M1 L2 h1) wd_1032 cwX8_dataOf ⟨Nat.le_of_ble_eq_true rfl, Nat.le_of_ble_eq_true rfl⟩ rfl hl.1 (Nat.le_of_ble_eq_true rfl) dX8_otherOperand_11 rfl rfl ⟨Nat.zero_le _, Nat.zero_le _⟩ rfl (fun H locs hw => ?_)
    obtain ⟨r10, M8, L9, h1, hD⟩ := g_b3 hD
    refine md_cvI (As := [.int r7]) (rest := []) C hw (tX8_findName l G ad fu r7 M5 L6 h1) kc_8 (by decide) tf_1 wd_922 cwX8_findName ⟨Nat.le_of_ble_eq_true rfl, Nat.le_of_ble_eq_true rfl⟩ rfl hl.1 (Nat.le_of_ble_eq_true rfl) dX8_otherOperand_14 rfl rfl ⟨Nat.zero_le _, Nat.zero_le _⟩ rfl (fun H locs hw => ?_)
    refine lv_istore_n (lv' := [(2, .int r10), (0, .ref (ad 1)), (1, .int a1)]) C.1.1 C.1.2.1 dX8_otherOperand_17 rfl hl (by decide) rfl (fun ls hl => ?_)
    refine lv_iload_n C.1.1 C.1.2.1 dX8_otherOperand_18 rfl (lv_at hl 0 rfl) ?_
    refine lv_if_lt (tgt := 35) C.1.1 C.1.2.1 dX8_otherOperand_19 (by decide) (fun c11 => ?_) (fun c11 => ?_)
    · replace hD := g_pos c11 hD
      refine lv_aload_n C.1.1 C.1.2.1 dX8_otherOperand_35 rfl (lv_at hl 1 rfl) ?_
      obtain ⟨r14, M12, L13, h1, hD⟩ := g_b3 hD
      refine md_cvI (As := []) (rest := []) C hw (tX8_isNumber l G ad fu M8 L9 h1) kc_8 (by decide) tf_1 wd_958 cwX8_isNumber ⟨Nat.le_of_ble_eq_true rfl, Nat.le_of_ble_eq_true rfl⟩ rfl hl.1 (Nat.le_of_ble_eq_true rfl) dX8_otherOperand_36 rfl rfl ⟨Nat.zero_le _, Nat.zero_le _⟩ rfl (fun H locs hw => ?_)
      refine lv_if_ne (tgt := 53) C.1.1 C.1.2.1 dX8_otherOperand_39 (by decide) (fun c15 => ?_) (fun c15 => ?_)
      · replace hD := g_neg c15 hD
        refine lv_sipush (v := 8192) C.1.1 C.1.2.1 dX8_otherOperand_53 (by decide) ?_
        refine lv_sipush (v := 256) C.1.1 C.1.2.1 dX8_otherOperand_56 (by decide) ?_
        refine lv_aload_n C.1.1 C.1.2.1 dX8_otherOperand_59 rfl (lv_at hl 1 rfl) ?_
        refine lv_iconst (v := 0) C.1.1 C.1.2.1 dX8_otherOperand_60 (by decide) ?_
        refine lv_bipush (v := 31) C.1.1 C.1.2.1 dX8_otherOperand_61 (by decide) ?_
        obtain ⟨r18, M16, L17, h1, hD⟩ := g_b3 hD
        refine md_cvI (As := [.int 0, .int 31]) (rest := [.int 256, .int 8192]) C hw (tX8_boundedNumber l G ad fu 0 31 M12 L13 h1) kc_8 (by decide) tf_1 wd_954 cwX8_boundedNumber ⟨Nat.le_of_ble_eq_true rfl, Nat.le_of_ble_eq_true rfl⟩ rfl hl.1 (Nat.le_of_ble_eq_true rfl) dX8_otherOperand_63 rfl rfl ⟨Nat.zero_le _, Nat.zero_le _⟩ rfl (fun H locs hw => ?_)
        refine lv_imul C.1.1 C.1.2.1 dX8_otherOperand_66 ?_
        refine lv_iadd C.1.1 C.1.2.1 dX8_otherOperand_67 ?_
        exact mr_iret C hr hlocks hw rfl (Option.some.inj hD) dX8_otherOperand_68
      · replace hD := g_pos c15 hD
        refine lv_aload_n C.1.1 C.1.2.1 dX8_otherOperand_42 rfl (lv_at hl 1 rfl) ?_
        refine lv_iconst (v := 4) C.1.1 C.1.2.1 dX8_otherOperand_43 (by decide) ?_
        refine lv_aload_n C.1.1 C.1.2.1 dX8_otherOperand_44 rfl (lv_at hl 1 rfl) ?_
        refine mr_getI C hw kc_8 8 (by decide) tf_1 wd_603 dX8_otherOperand_45 (by decide) rfl ?_
        obtain ⟨M19, L20, h1, hD⟩ := g_b2 hD
        refine md_cvV (As := [.int 4, .int (M12 1 8)]) (rest := []) C hw (tX8_fail l G ad fu 4 (M12 1 8) M12 L13 h1) kc_8 (by decide) tf_1 wd_918 cwX8_fail ⟨Nat.le_of_ble_eq_true rfl, Nat.le_of_ble_eq_true rfl⟩ rfl hl.1 (Nat.le_of_ble_eq_true rfl) dX8_otherOperand_48 rfl rfl ⟨Nat.zero_le _, Nat.zero_le _⟩ rfl (fun H locs hw => ?_)
        refine lv_iconst (v := 0) C.1.1 C.1.2.1 dX8_otherOperand_51 (by decide) ?_
        exact mr_iret C hr hlocks hw rfl (Option.some.inj hD) dX8_otherOperand_52
    · replace hD := g_neg c11 hD
      refine lv_sipush (v := 256) C.1.1 C.1.2.1 dX8_otherOperand_22 (by decide) ?_
      refine lv_aload_n C.1.1 C.1.2.1 dX8_otherOperand_25 rfl (lv_at hl 1 rfl) ?_
      refine mr_getR C hw kc_8 2 (by decide) tf_1 ff_1_2 wd_596 dX8_otherOperand_26 (by decide) rfl ?_
      refine lv_iconst (v := 4) C.1.1 C.1.2.1 dX8_otherOperand_29 (by decide) ?_
      refine mr_aald C hw (by decide) tf_725 (by decide) (by decide) rfl rfl (show vp_in 4 5 from by unfold vp_in; decide) ff_725_4 dX8_otherOperand_30 ?_
      refine lv_iload_n C.1.1 C.1.2.1 dX8_otherOperand_31 rfl (lv_at hl 0 rfl) ?_
      obtain ⟨q22, hD⟩ := g_ck hD
      refine mr_iald C hw (by decide) tf_730 q22 dX8_otherOperand_32 ?_
      refine lv_imul C.1.1 C.1.2.1 dX8_otherOperand_33 ?_
      exact mr_iret C hr hlocks hw rfl (Option.some.inj hD) dX8_otherOperand_34
  · replace hD := g_pos c4 hD
    refine lv_iconst (v := 0) C.1.1 C.1.2.1 dX8_otherOperand_7 (by decide) ?_
    exact mr_iret C hr hlocks hw rfl (Option.some.inj hD) dX8_otherOperand_8

theorem dX8_isLetter_0 : decode cX8_isLetter 0 = .ok (.iload_n 0, 1) := by decide +kernel
theorem dX8_isLetter_1 : decode cX8_isLetter 1 = .ok (.bipush 97, 2) := by decide +kernel
theorem dX8_isLetter_3 : decode cX8_isLetter 3 = .ok (.if_icmp .lt 13, 3) := by decide +kernel
theorem dX8_isLetter_6 : decode cX8_isLetter 6 = .ok (.iload_n 0, 1) := by decide +kernel
theorem dX8_isLetter_7 : decode cX8_isLetter 7 = .ok (.bipush 122, 2) := by decide +kernel
theorem dX8_isLetter_9 : decode cX8_isLetter 9 = .ok (.if_icmp .gt 7, 3) := by decide +kernel
theorem dX8_isLetter_12 : decode cX8_isLetter 12 = .ok (.iconst 1, 1) := by decide +kernel
theorem dX8_isLetter_13 : decode cX8_isLetter 13 = .ok (.goto 4, 3) := by decide +kernel
theorem dX8_isLetter_16 : decode cX8_isLetter 16 = .ok (.iconst 0, 1) := by decide +kernel
theorem dX8_isLetter_17 : decode cX8_isLetter 17 = .ok (.ireturn, 1) := by decide +kernel
theorem cwX8_isLetter : mw_cwS yX8_isLetter cX8_isLetter 1 ((some .boolean)) 1 := ⟨⟨wd_2, wd_909, by decide +kernel⟩, wd_908⟩
noncomputable def fX8_isLetter_b17 (fu : Nat) (a1 : Int32) (s0 : Int32) (M : mwM) (L : mwL) : Option (Int32 × mwM × mwL) :=
  mzz s0 (some (s0, M, L))
noncomputable def fX8_isLetter_b16 (fu : Nat) (a1 : Int32) (M : mwM) (L : mwL) : Option (Int32 × mwM × mwL) :=
  fX8_isLetter_b17 fu a1 0 M L
noncomputable def DX8_isLetter (fu : Nat) (a1 : Int32) (M : mwM) (L : mwL) : Option (Int32 × mwM × mwL) :=
  (if a1 < 97 then fX8_isLetter_b16 fu a1 M L else (if 122 < a1 then fX8_isLetter_b16 fu a1 M L else fX8_isLetter_b17 fu a1 1 M L))
set_option maxHeartbeats 4000000 in
set_option maxRecDepth 100000 in
theorem tX8_isLetter (l : Launch) (G : mwG) (ad : Nat → Nat) (fu : Nat) (a1 : Int32) (M : mwM) (L : mwL) {r0 : Int32} {M0 : mwM} {L0 : mwL} (hD : DX8_isLetter fu a1 M L = some (r0, M0, L0)) : Met l yX8_isLetter (Cond.code yX8_isLetter cX8_isLetter 1 ((some .boolean)) :: GT) ({ frames := 0, cells := 0, slots := 0, locals := 0 }) (mw_Pre G ad NF TF FF M L [.int a1]) (mw_Qi G ad NF TF FF (mw_eqI r0 M0 L0)) 0 0 (mw_fr G) := by
  refine mw_enter (by decide) (Nat.le_of_ble_eq_true rfl) ?_
  intro p e s m below meth c ls C hr hlocks hnm hw hl
  have hl : lv_has ls 1 [(0, .int a1)] := hl
  have hb17 : ∀ (s0 : Int32) (M : mwM) (L : mwL) (H : Heap) (locs : List Loc) (ls : Array Slot), fX8_isLetter_b17 fu a1 s0 M L = some (r0, M0, L0) → mw_W G ad NF TF FF M L H locs → lv_has ls 1 [] → W p l e ({ frames := 0, cells := 0, slots := 0, locals := 0 }) s m [.int a1].toArray below meth c H locs 0 0 (MQ below (mw_Qi G ad NF TF FF (mw_eqI r0 M0 L0)) [.int a1].toArray s 0 0 (mw_fr G)) (F0 m 17 ls [.int s0]) := by
    intro s0 M L H locs ls hD hw hl
    unfold fX8_isLetter_b17 at hD
    obtain ⟨z1, hD⟩ := g_zz hD
    exact mr_iret C hr hlocks hw (nz_zz z1) (Option.some.inj hD) dX8_isLetter_17
  have hb16 : ∀ (M : mwM) (L : mwL) (H : Heap) (locs : List Loc) (ls : Array Slot), fX8_isLetter_b16 fu a1 M L = some (r0, M0, L0) → mw_W G ad NF TF FF M L H locs → lv_has ls 1 [] → W p l e ({ frames := 0, cells := 0, slots := 0, locals := 0 }) s m [.int a1].toArray below meth c H locs 0 0 (MQ below (mw_Qi G ad NF TF FF (mw_eqI r0 M0 L0)) [.int a1].toArray s 0 0 (mw_fr G)) (F0 m 16 ls []) := by
    intro M L H locs ls hD hw hl
    unfold fX8_isLetter_b16 at hD
    refine lv_iconst (v := 0) C.1.1 C.1.2.1 dX8_isLetter_16 (by decide) ?_
    exact hb17 0 M L _ _ ls hD hw (lv_sub hl [] rfl)
  unfold DX8_isLetter at hD
  refine lv_iload_n C.1.1 C.1.2.1 dX8_isLetter_0 rfl (lv_at hl 0 rfl) ?_
  refine lv_bipush (v := 97) C.1.1 C.1.2.1 dX8_isLetter_1 (by decide) ?_
  refine lv_icmp_lt (tgt := 16) C.1.1 C.1.2.1 dX8_isLetter_3 (by decide) (fun c2 => ?_) (fun c2 => ?_)
  · replace hD := g_pos c2 hD
    exact hb16 M L _ _ ls hD hw (lv_sub hl [] rfl)
  · replace hD := g_neg c2 hD
    refine lv_iload_n C.1.1 C.1.2.1 dX8_isLetter_6 rfl (lv_at hl 0 rfl) ?_
    refine lv_bipush (v := 122) C.1.1 C.1.2.1 dX8_isLetter_7 (by decide) ?_
    refine lv_icmp_gt (tgt := 16) C.1.1 C.1.2.1 dX8_isLetter_9 (by decide) (fun c3 => ?_) (fun c3 => ?_)
    · replace hD := g_pos c3 hD
      exact hb16 M L _ _ ls hD hw (lv_sub hl [] rfl)
    · replace hD := g_neg c3 hD
      refine lv_iconst (v := 1) C.1.1 C.1.2.1 dX8_isLetter_12 (by decide) ?_
      refine lv_goto (tgt := 17) C.1.1 C.1.2.1 dX8_isLetter_13 (by decide) ?_
      exact hb17 1 M L _ _ ls hD hw (lv_sub hl [] rfl)

theorem dX8_isName_0 : decode cX8_isName 0 = .ok (.aload_n 0, 1) := by decide +kernel
theorem dX8_isName_1 : decode cX8_isName 1 = .ok (.getfield 56, 3) := by decide +kernel
theorem dX8_isName_4 : decode cX8_isName 4 = .ok (.iconst 1, 1) := by decide +kernel
theorem dX8_isName_5 : decode cX8_isName 5 = .ok (.if_icmp .lt 27, 3) := by decide +kernel
theorem dX8_isName_8 : decode cX8_isName 8 = .ok (.aload_n 0, 1) := by decide +kernel
theorem dX8_isName_9 : decode cX8_isName 9 = .ok (.getfield 56, 3) := by decide +kernel
theorem dX8_isName_12 : decode cX8_isName 12 = .ok (.bipush 10, 2) := by decide +kernel
theorem dX8_isName_14 : decode cX8_isName 14 = .ok (.if_icmp .gt 18, 3) := by decide +kernel
theorem dX8_isName_17 : decode cX8_isName 17 = .ok (.aload_n 0, 1) := by decide +kernel
theorem dX8_isName_18 : decode cX8_isName 18 = .ok (.getfield 9, 3) := by decide +kernel
theorem dX8_isName_21 : decode cX8_isName 21 = .ok (.aload_n 0, 1) := by decide +kernel
theorem dX8_isName_22 : decode cX8_isName 22 = .ok (.getfield 50, 3) := by decide +kernel
theorem dX8_isName_25 : decode cX8_isName 25 = .ok (.caload, 1) := by decide +kernel
theorem dX8_isName_26 : decode cX8_isName 26 = .ok (.invokestatic 313, 3) := by decide +kernel
theorem dX8_isName_29 : decode cX8_isName 29 = .ok (.ifCond .ne 5, 3) := by decide +kernel
theorem dX8_isName_32 : decode cX8_isName 32 = .ok (.iconst 0, 1) := by decide +kernel
theorem dX8_isName_33 : decode cX8_isName 33 = .ok (.ireturn, 1) := by decide +kernel
theorem dX8_isName_34 : decode cX8_isName 34 = .ok (.iconst 1, 1) := by decide +kernel
theorem dX8_isName_35 : decode cX8_isName 35 = .ok (.istore_n 1, 1) := by decide +kernel
theorem dX8_isName_36 : decode cX8_isName 36 = .ok (.iload_n 1, 1) := by decide +kernel
theorem dX8_isName_37 : decode cX8_isName 37 = .ok (.aload_n 0, 1) := by decide +kernel
theorem dX8_isName_38 : decode cX8_isName 38 = .ok (.getfield 56, 3) := by decide +kernel
theorem dX8_isName_41 : decode cX8_isName 41 = .ok (.if_icmp .ge 45, 3) := by decide +kernel
theorem dX8_isName_44 : decode cX8_isName 44 = .ok (.aload_n 0, 1) := by decide +kernel
theorem dX8_isName_45 : decode cX8_isName 45 = .ok (.getfield 9, 3) := by decide +kernel
theorem dX8_isName_48 : decode cX8_isName 48 = .ok (.aload_n 0, 1) := by decide +kernel
theorem dX8_isName_49 : decode cX8_isName 49 = .ok (.getfield 50, 3) := by decide +kernel
theorem dX8_isName_52 : decode cX8_isName 52 = .ok (.iload_n 1, 1) := by decide +kernel
theorem dX8_isName_53 : decode cX8_isName 53 = .ok (.iadd, 1) := by decide +kernel
theorem dX8_isName_54 : decode cX8_isName 54 = .ok (.caload, 1) := by decide +kernel
theorem dX8_isName_55 : decode cX8_isName 55 = .ok (.invokestatic 313, 3) := by decide +kernel
theorem dX8_isName_58 : decode cX8_isName 58 = .ok (.ifCond .ne 22, 3) := by decide +kernel
theorem dX8_isName_61 : decode cX8_isName 61 = .ok (.aload_n 0, 1) := by decide +kernel
theorem dX8_isName_62 : decode cX8_isName 62 = .ok (.getfield 9, 3) := by decide +kernel
theorem dX8_isName_65 : decode cX8_isName 65 = .ok (.aload_n 0, 1) := by decide +kernel
theorem dX8_isName_66 : decode cX8_isName 66 = .ok (.getfield 50, 3) := by decide +kernel
theorem dX8_isName_69 : decode cX8_isName 69 = .ok (.iload_n 1, 1) := by decide +kernel
theorem dX8_isName_70 : decode cX8_isName 70 = .ok (.iadd, 1) := by decide +kernel
theorem dX8_isName_71 : decode cX8_isName 71 = .ok (.caload, 1) := by decide +kernel
theorem dX8_isName_72 : decode cX8_isName 72 = .ok (.invokestatic 317, 3) := by decide +kernel
theorem dX8_isName_75 : decode cX8_isName 75 = .ok (.ifCond .ne 5, 3) := by decide +kernel
theorem dX8_isName_78 : decode cX8_isName 78 = .ok (.iconst 0, 1) := by decide +kernel
theorem dX8_isName_79 : decode cX8_isName 79 = .ok (.ireturn, 1) := by decide +kernel
theorem dX8_isName_80 : decode cX8_isName 80 = .ok (.iinc 1 1, 3) := by decide +kernel
theorem dX8_isName_83 : decode cX8_isName 83 = .ok (.goto (-47), 3) := by decide +kernel
theorem dX8_isName_86 : decode cX8_isName 86 = .ok (.iconst 1, 1) := by decide +kernel
theorem dX8_isName_87 : decode cX8_isName 87 = .ok (.ireturn, 1) := by decide +kernel
theorem cwX8_isName : mw_cwV yX8_isName cX8_isName 2 ((some .boolean)) 0 := ⟨⟨wd_2, wd_906, by decide +kernel⟩, wd_905, sl_9⟩
noncomputable def fX8_isName_b32 (fu : Nat) (M : mwM) (L : mwL) : Option (Int32 × mwM × mwL) :=
  some (0, M, L)
noncomputable def fX8_isName_b80 (fu : Nat) (r36 : (Int32 × mwM × mwL) → Option (Int32 × mwM × mwL)) (v1 : Int32) (M : mwM) (L : mwL) : Option (Int32 × mwM × mwL) :=
  mlet (v1 + 1) (fun x12 => r36 (x12, M, L))
noncomputable def fX8_isName_i36 (fu : Nat) (r36 : (Int32 × mwM × mwL) → Option (Int32 × mwM × mwL)) (v1 : Int32) (M : mwM) (L : mwL) : Option (Int32 × mwM × mwL) :=
  (if (M 1 9) ≤ v1 then some (1, M, L) else mck ((M 1 8) + v1) 6000 (mb3 (DX8_isLetter fu (M 2 ((M 1 8) + v1).toNatClampNeg) M L) (fun r5 M3 L4 => (if r5 = 0 then mck ((M3 1 8) + v1) 6000 (mb3 (DX8_isDigit fu (M3 2 ((M3 1 8) + v1).toNatClampNeg) M3 L4) (fun r10 M8 L9 => (if r10 = 0 then some (0, M8, L9) else fX8_isName_b80 fu r36 v1 M8 L9))) else fX8_isName_b80 fu r36 v1 M3 L4))))
noncomputable def fX8_isName_h36 (fu : Nat) : Nat → (Int32 × mwM × mwL) → Option (Int32 × mwM × mwL) := mloop (fun r36 s => fX8_isName_i36 fu r36 s.1 s.2.1 s.2.2)
noncomputable def DX8_isName (fu : Nat) (M : mwM) (L : mwL) : Option (Int32 × mwM × mwL) :=
  (if (M 1 9) < 1 then fX8_isName_b32 fu M L else (if 10 < (M 1 9) then fX8_isName_b32 fu M L else mck (M 1 8) 6000 (mb3 (DX8_isLetter fu (M 2 (M 1 8).toNatClampNeg) M L) (fun r18 M16 L17 => (if r18 = 0 then fX8_isName_b32 fu M16 L17 else fX8_isName_h36 fu fu (1, M16, L17))))))
set_option maxHeartbeats 4000000 in
set_option maxRecDepth 100000 in
theorem tX8_isName (l : Launch) (G : mwG) (ad : Nat → Nat) (fu : Nat) (M : mwM) (L : mwL) {r0 : Int32} {M0 : mwM} {L0 : mwL} (hD : DX8_isName fu M L = some (r0, M0, L0)) : Met l yX8_isName (Cond.code yX8_isName cX8_isName 2 ((some .boolean)) :: GT) ({ frames := 1, cells := 0, slots := 0, locals := 20 }) (mw_Pre G ad NF TF FF M L [.ref (ad 1)]) (mw_Qi G ad NF TF FF (mw_eqI r0 M0 L0)) 0 0 (mw_fr G) := by
  refine mw_enter (by decide) (Nat.le_of_ble_eq_true rfl) ?_
  intro p e s m below meth c ls C hr hlocks hnm hw hl
  have hl : lv_has ls 2 [(0, .ref (ad 1))] := hl
  have hb32 : ∀ (M : mwM) (L : mwL) (H : Heap) (locs : List Loc) (ls : Array Slot), fX8_isName_b32 fu M L = some (r0, M0, L0) → mw_W G ad NF TF FF M L H locs → lv_has ls 2 [] → W p l e ({ frames := 1, cells := 0, slots := 0, locals := 20 }) s m [.ref (ad 1)].toArray below meth c H locs 0 0 (MQ below (mw_Qi G ad NF TF FF (mw_eqI r0 M0 L0)) [.ref (ad 1)].toArray s 0 0 (mw_fr G)) (F0 m 32 ls []) := by
    intro M L H locs ls hD hw hl
    unfold fX8_isName_b32 at hD
    refine lv_iconst (v := 0) C.1.1 C.1.2.1 dX8_isName_32 (by decide) ?_
    exact mr_iret C hr hlocks hw (by decide +kernel) (Option.some.inj hD) dX8_isName_33
  have hh36 : ∀ (f : Nat) (v1 : Int32) (M : mwM) (L : mwL) (H : Heap) (locs : List Loc) (ls : Array Slot), fX8_isName_h36 fu f (v1, M, L) = some (r0, M0, L0) → mw_W G ad NF TF FF M L H locs → lv_has ls 2 [(0, .ref (ad 1)), (1, .int v1)] → W p l e ({ frames := 1, cells := 0, slots := 0, locals := 20 }) s m [.ref (ad 1)].toArray below meth c H locs 0 0 (MQ below (mw_Qi G ad NF TF FF (mw_eqI r0 M0 L0)) [.ref (ad 1)].toArray s 0 0 (mw_fr G)) (F0 m 36 ls []) := by
    intro f
    induction f with
    | zero => intro v1 M L H locs ls hD; cases hD
    | succ f36 ih36 =>
      intro v1 M L H locs ls hD hw hl
      replace hD : fX8_isName_i36 fu (fX8_isName_h36 fu f36) v1 M L = some (r0, M0, L0) := hD
      have hb80 : ∀ (v1 : Int32) (M : mwM) (L : mwL) (H : Heap) (locs : List Loc) (ls : Array Slot), fX8_isName_b80 fu (fX8_isName_h36 fu f36) v1 M L = some (r0, M0, L0) → mw_W G ad NF TF FF M L H locs → lv_has ls 2 [(0, .ref (ad 1)), (1, .int v1)] → W p l e ({ frames := 1, cells := 0, slots := 0, locals := 20 }) s m [.ref (ad 1)].toArray below meth c H locs 0 0 (MQ below (mw_Qi G ad NF TF FF (mw_eqI r0 M0 L0)) [.ref (ad 1)].toArray s 0 0 (mw_fr G)) (F0 m 80 ls []) := by
        intro v1 M L H locs ls hD hw hl
        unfold fX8_isName_b80 at hD
        obtain ⟨x12, ex12, hD⟩ := g_let hD
        refine lv_iinc (v := x12) (lv' := [(1, .int x12), (0, .ref (ad 1))]) C.1.1 C.1.2.1 dX8_isName_80 hl (k := 1) rfl (by rw [ex12]; rfl) (by decide) rfl (fun ls hl => ?_)
        refine lv_goto (tgt := 36) C.1.1 C.1.2.1 dX8_isName_83 (by decide) ?_
        exact ih36 x12 M L _ _ ls hD hw (lv_sub hl [1, 0] rfl)
      unfold fX8_isName_i36 at hD
      refine lv_iload_n C.1.1 C.1.2.1 dX8_isName_36 rfl (lv_at hl 1 rfl) ?_
      refine lv_aload_n C.1.1 C.1.2.1 dX8_isName_37 rfl (lv_at hl 0 rfl) ?_
      refine mr_getI C hw kc_8 9 (by decide) tf_1 wd_604 dX8_isName_38 (by decide) rfl ?_
      refine lv_icmp_ge (tgt := 86) C.1.1 C.1.2.1 dX8_isName_41 (by decide) (fun c1 => ?_) (fun c1 => ?_)
      · replace hD := g_pos c1 hD
        refine lv_iconst (v := 1) C.1.1 C.1.2.1 dX8_isName_86 (by decide) ?_
        exact mr_iret C hr hlocks hw (by decide +kernel) (Option.some.inj hD) dX8_isName_87
      · replace hD := g_neg c1 hD
        refine lv_aload_n C.1.1 C.1.2.1 dX8_isName_44 rfl (lv_at hl 0 rfl) ?_
        refine mr_getR C hw kc_8 0 (by decide) tf_1 ff_1_0 wd_593 dX8_isName_45 (by decide) rfl ?_
        refine lv_aload_n C.1.1 C.1.2.1 dX8_isName_48 rfl (lv_at hl 0 rfl) ?_
        refine mr_getI C hw kc_8 8 (by decide) tf_1 wd_603 dX8_isName_49 (by decide) rfl ?_
        refine lv_iload_n C.1.1 C.1.2.1 dX8_isName_52 rfl (lv_at hl 1 rfl) ?_
        refine lv_iadd C.1.1 C.1.2.1 dX8_isName_53 ?_
        obtain ⟨q2, hD⟩ := g_ck hD
        refine mr_cald C hw (by decide) tf_2 q2 dX8_isName_54 ?_
        obtain ⟨r5, M3, L4, h1, hD⟩ := g_b3 hD
        refine md_csI (As := [.int (M 2 ((M 1 8) + v1).toNatClampNeg)]) (rest := []) C hw (tX8_isLetter l G ad fu (M 2 ((M 1 8) + v1).toNatClampNeg) M L h1) wd_907 cwX8_isLetter ⟨Nat.le_of_ble_eq_true rfl, Nat.le_of_ble_eq_true rfl⟩ rfl hl.1 (Nat.le_of_ble_eq_true rfl) dX8_isName_55 rfl rfl ⟨Nat.zero_le _, Nat.zero_le _⟩ rfl (fun H locs hw => ?_)
        refine lv_if_ne (tgt := 80) C.1.1 C.1.2.1 dX8_isName_58 (by decide) (fun c6 => ?_) (fun c6 => ?_)
        · replace hD := g_neg c6 hD
          exact hb80 v1 M3 L4 _ _ ls hD hw (lv_sub hl [0, 1] rfl)
        · replace hD := g_pos c6 hD
          refine lv_aload_n C.1.1 C.1.2.1 dX8_isName_61 rfl (lv_at hl 0 rfl) ?_
          refine mr_getR C hw kc_8 0 (by decide) tf_1 ff_1_0 wd_593 dX8_isName_62 (by decide) rfl ?_
          refine lv_aload_n C.1.1 C.1.2.1 dX8_isName_65 rfl (lv_at hl 0 rfl) ?_
          refine mr_getI C hw kc_8 8 (by decide) tf_1 wd_603 dX8_isName_66 (by decide) rfl ?_
          refine lv_iload_n C.1.1 C.1.2.1 dX8_isName_69 rfl (lv_at hl 1 rfl) ?_
          refine lv_iadd C.1.1 C.1.2.1 dX8_isName_70 ?_
          obtain ⟨q7, hD⟩ := g_ck hD
          refine mr_cald C hw (by decide) tf_2 q7 dX8_isName_71 ?_
          obtain ⟨r10, M8, L9, h1, hD⟩ := g_b3 hD
          refine md_csI (As := [.int (M3 2 ((M3 1 8) + v1).toNatClampNeg)]) (rest := []) C hw (tX8_isDigit l G ad fu (M3 2 ((M3 1 8) + v1).toNatClampNeg) M3 L4 h1) wd_910 cwX8_isDigit ⟨Nat.le_of_ble_eq_true rfl, Nat.le_of_ble_eq_true rfl⟩ rfl hl.1 (Nat.le_of_ble_eq_true rfl) dX8_isName_72 rfl rfl ⟨Nat.zero_le _, Nat.zero_le _⟩ rfl (fun H locs hw => ?_)
          refine lv_if_ne (tgt := 80) C.1.1 C.1.2.1 dX8_isName_75 (by decide) (fun c11 => ?_) (fun c11 => ?_)
          · replace hD := g_neg c11 hD
            exact hb80 v1 M8 L9 _ _ ls hD hw (lv_sub hl [0, 1] rfl)
          · replace hD := g_pos c11 hD
            refine lv_iconst (v := 0) C.1.1 C.1.2.1 dX8_isName_78 (by decide) ?_
            exact mr_iret C hr hlocks hw (by decide +kernel) (Option.some.inj hD) dX8_isName_79
  unfold DX8_isName at hD
  refine lv_aload_n C.1.1 C.1.2.1 dX8_isName_0 rfl (lv_at hl 0 rfl) ?_
  refine mr_getI C hw kc_8 9 (by decide) tf_1 wd_604 dX8_isName_1 (by decide) rfl ?_
  refine lv_iconst (v := 1) C.1.1 C.1.2.1 dX8_isName_4 (by decide) ?_
  refine lv_icmp_lt (tgt := 32) C.1.1 C.1.2.1 dX8_isName_5 (by decide) (fun c13 => ?_) (fun c13 => ?_)
  · replace hD := g_pos c13 hD
    exact hb32 M L _ _ ls hD hw (lv_sub hl [] rfl)
  · replace hD := g_neg c13 hD
    refine lv_aload_n C.1.1 C.1.2.1 dX8_isName_8 rfl (lv_at hl 0 rfl) ?_
    refine mr_getI C hw kc_8 9 (by decide) tf_1 wd_604 dX8_isName_9 (by decide) rfl ?_
    refine lv_bipush (v := 10) C.1.1 C.1.2.1 dX8_isName_12 (by decide) ?_
    refine lv_icmp_gt (tgt := 32) C.1.1 C.1.2.1 dX8_isName_14 (by decide) (fun c14 => ?_) (fun c14 => ?_)
    · replace hD := g_pos c14 hD
      exact hb32 M L _ _ ls hD hw (lv_sub hl [] rfl)
    · replace hD := g_neg c14 hD
      refine lv_aload_n C.1.1 C.1.2.1 dX8_isName_17 rfl (lv_at hl 0 rfl) ?_
      refine mr_getR C hw kc_8 0 (by decide) tf_1 ff_1_0 wd_593 dX8_isName_18 (by decide) rfl ?_
      refine lv_aload_n C.1.1 C.1.2.1 dX8_isName_21 rfl (lv_at hl 0 rfl) ?_
      refine mr_getI C hw kc_8 8 (by decide) tf_1 wd_603 dX8_isName_22 (by decide) rfl ?_
      obtain ⟨q15, hD⟩ := g_ck hD
      refine mr_cald C hw (by decide) tf_2 q15 dX8_isName_25 ?_
      obtain ⟨r18, M16, L17, h1, hD⟩ := g_b3 hD
      refine md_csI (As := [.int (M 2 (M 1 8).toNatClampNeg)]) (rest := []) C hw (tX8_isLetter l G ad fu (M 2 (M 1 8).toNatClampNeg) M L h1) wd_907 cwX8_isLetter ⟨Nat.le_of_ble_eq_true rfl, Nat.le_of_ble_eq_true rfl⟩ rfl hl.1 (Nat.le_of_ble_eq_true rfl) dX8_isName_26 rfl rfl ⟨Nat.zero_le _, Nat.zero_le _⟩ rfl (fun H locs hw => ?_)
      refine lv_if_ne (tgt := 34) C.1.1 C.1.2.1 dX8_isName_29 (by decide) (fun c19 => ?_) (fun c19 => ?_)
      · replace hD := g_neg c19 hD
        refine lv_iconst (v := 1) C.1.1 C.1.2.1 dX8_isName_34 (by decide) ?_
        refine lv_istore_n (lv' := [(1, .int 1), (0, .ref (ad 1))]) C.1.1 C.1.2.1 dX8_isName_35 rfl hl (by decide) rfl (fun ls hl => ?_)
        exact hh36 fu 1 M16 L17 _ _ ls hD hw (lv_sub hl [1, 0] rfl)
      · replace hD := g_pos c19 hD
        exact hb32 M16 L17 _ _ ls hD hw (lv_sub hl [] rfl)
