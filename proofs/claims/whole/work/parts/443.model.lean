theorem dX19_serveRead_0 : decode cX19_serveRead 0 = .ok (.aload_n 0, 1) := by decide +kernel
theorem dX19_serveRead_1 : decode cX19_serveRead 1 = .ok (.iload_n 1, 1) := by decide +kernel
theorem dX19_serveRead_2 : decode cX19_serveRead 2 = .ok (.invokevirtual 768, 3) := by decide +kernel
theorem dX19_serveRead_5 : decode cX19_serveRead 5 = .ok (.ifCond .ne 10, 3) := by decide +kernel
theorem dX19_serveRead_8 : decode cX19_serveRead 8 = .ok (.aload_n 0, 1) := by decide +kernel
theorem dX19_serveRead_9 : decode cX19_serveRead 9 = .ok (.bipush 49, 2) := by decide +kernel
theorem dX19_serveRead_11 : decode cX19_serveRead 11 = .ok (.invokevirtual 744, 3) := by decide +kernel
theorem dX19_serveRead_14 : decode cX19_serveRead 14 = .ok (.return_, 1) := by decide +kernel
theorem dX19_serveRead_15 : decode cX19_serveRead 15 = .ok (.aload_n 0, 1) := by decide +kernel
theorem dX19_serveRead_16 : decode cX19_serveRead 16 = .ok (.getfield 217, 3) := by decide +kernel
theorem dX19_serveRead_19 : decode cX19_serveRead 19 = .ok (.aload_n 0, 1) := by decide +kernel
theorem dX19_serveRead_20 : decode cX19_serveRead 20 = .ok (.getfield 252, 3) := by decide +kernel
theorem dX19_serveRead_23 : decode cX19_serveRead 23 = .ok (.iconst 1, 1) := by decide +kernel
theorem dX19_serveRead_24 : decode cX19_serveRead 24 = .ok (.iaload, 1) := by decide +kernel
theorem dX19_serveRead_25 : decode cX19_serveRead 25 = .ok (.iconst 1, 1) := by decide +kernel
theorem dX19_serveRead_26 : decode cX19_serveRead 26 = .ok (.isub, 1) := by decide +kernel
theorem dX19_serveRead_27 : decode cX19_serveRead 27 = .ok (.aaload, 1) := by decide +kernel
theorem dX19_serveRead_28 : decode cX19_serveRead 28 = .ok (.aload_n 0, 1) := by decide +kernel
theorem dX19_serveRead_29 : decode cX19_serveRead 29 = .ok (.getfield 252, 3) := by decide +kernel
theorem dX19_serveRead_32 : decode cX19_serveRead 32 = .ok (.iconst 2, 1) := by decide +kernel
theorem dX19_serveRead_33 : decode cX19_serveRead 33 = .ok (.iaload, 1) := by decide +kernel
theorem dX19_serveRead_34 : decode cX19_serveRead 34 = .ok (.invokevirtual 661, 3) := by decide +kernel
theorem dX19_serveRead_37 : decode cX19_serveRead 37 = .ok (.lstore_n 2, 1) := by decide +kernel
theorem dX19_serveRead_38 : decode cX19_serveRead 38 = .ok (.aload_n 0, 1) := by decide +kernel
theorem dX19_serveRead_39 : decode cX19_serveRead 39 = .ok (.getfield 255, 3) := by decide +kernel
theorem dX19_serveRead_42 : decode cX19_serveRead 42 = .ok (.iconst 0, 1) := by decide +kernel
theorem dX19_serveRead_43 : decode cX19_serveRead 43 = .ok (.bipush 98, 2) := by decide +kernel
theorem dX19_serveRead_45 : decode cX19_serveRead 45 = .ok (.iastore, 1) := by decide +kernel
theorem dX19_serveRead_46 : decode cX19_serveRead 46 = .ok (.aload_n 0, 1) := by decide +kernel
theorem dX19_serveRead_47 : decode cX19_serveRead 47 = .ok (.getfield 255, 3) := by decide +kernel
theorem dX19_serveRead_50 : decode cX19_serveRead 50 = .ok (.iconst 1, 1) := by decide +kernel
theorem dX19_serveRead_51 : decode cX19_serveRead 51 = .ok (.aload_n 0, 1) := by decide +kernel
theorem dX19_serveRead_52 : decode cX19_serveRead 52 = .ok (.getfield 252, 3) := by decide +kernel
theorem dX19_serveRead_55 : decode cX19_serveRead 55 = .ok (.iconst 1, 1) := by decide +kernel
theorem dX19_serveRead_56 : decode cX19_serveRead 56 = .ok (.iaload, 1) := by decide +kernel
theorem dX19_serveRead_57 : decode cX19_serveRead 57 = .ok (.iastore, 1) := by decide +kernel
theorem dX19_serveRead_58 : decode cX19_serveRead 58 = .ok (.aload_n 0, 1) := by decide +kernel
theorem dX19_serveRead_59 : decode cX19_serveRead 59 = .ok (.getfield 255, 3) := by decide +kernel
theorem dX19_serveRead_62 : decode cX19_serveRead 62 = .ok (.iconst 2, 1) := by decide +kernel
theorem dX19_serveRead_63 : decode cX19_serveRead 63 = .ok (.aload_n 0, 1) := by decide +kernel
theorem dX19_serveRead_64 : decode cX19_serveRead 64 = .ok (.getfield 252, 3) := by decide +kernel
theorem dX19_serveRead_67 : decode cX19_serveRead 67 = .ok (.iconst 2, 1) := by decide +kernel
theorem dX19_serveRead_68 : decode cX19_serveRead 68 = .ok (.iaload, 1) := by decide +kernel
theorem dX19_serveRead_69 : decode cX19_serveRead 69 = .ok (.iastore, 1) := by decide +kernel
theorem dX19_serveRead_70 : decode cX19_serveRead 70 = .ok (.iconst 0, 1) := by decide +kernel
theorem dX19_serveRead_71 : decode cX19_serveRead 71 = .ok (.istore 4, 2) := by decide +kernel
theorem dX19_serveRead_73 : decode cX19_serveRead 73 = .ok (.iload 4, 2) := by decide +kernel
theorem dX19_serveRead_75 : decode cX19_serveRead 75 = .ok (.bipush 8, 2) := by decide +kernel
theorem dX19_serveRead_77 : decode cX19_serveRead 77 = .ok (.if_icmp .ge 33, 3) := by decide +kernel
theorem dX19_serveRead_80 : decode cX19_serveRead 80 = .ok (.aload_n 0, 1) := by decide +kernel
theorem dX19_serveRead_81 : decode cX19_serveRead 81 = .ok (.getfield 255, 3) := by decide +kernel
theorem dX19_serveRead_84 : decode cX19_serveRead 84 = .ok (.iconst 3, 1) := by decide +kernel
theorem dX19_serveRead_85 : decode cX19_serveRead 85 = .ok (.iload 4, 2) := by decide +kernel
theorem dX19_serveRead_87 : decode cX19_serveRead 87 = .ok (.iadd, 1) := by decide +kernel
theorem dX19_serveRead_88 : decode cX19_serveRead 88 = .ok (.lload_n 2, 1) := by decide +kernel
theorem dX19_serveRead_89 : decode cX19_serveRead 89 = .ok (.bipush 8, 2) := by decide +kernel
theorem dX19_serveRead_91 : decode cX19_serveRead 91 = .ok (.bipush 7, 2) := by decide +kernel
theorem dX19_serveRead_93 : decode cX19_serveRead 93 = .ok (.iload 4, 2) := by decide +kernel
theorem dX19_serveRead_95 : decode cX19_serveRead 95 = .ok (.isub, 1) := by decide +kernel
theorem dX19_serveRead_96 : decode cX19_serveRead 96 = .ok (.imul, 1) := by decide +kernel
theorem dX19_serveRead_97 : decode cX19_serveRead 97 = .ok (.lshr, 1) := by decide +kernel
theorem dX19_serveRead_98 : decode cX19_serveRead 98 = .ok (.ldc2_w 695, 3) := by decide +kernel
theorem dX19_serveRead_101 : decode cX19_serveRead 101 = .ok (.land, 1) := by decide +kernel
theorem dX19_serveRead_102 : decode cX19_serveRead 102 = .ok (.l2i, 1) := by decide +kernel
theorem dX19_serveRead_103 : decode cX19_serveRead 103 = .ok (.iastore, 1) := by decide +kernel
theorem dX19_serveRead_104 : decode cX19_serveRead 104 = .ok (.iinc 4 1, 3) := by decide +kernel
theorem dX19_serveRead_107 : decode cX19_serveRead 107 = .ok (.goto (-34), 3) := by decide +kernel
theorem dX19_serveRead_110 : decode cX19_serveRead 110 = .ok (.aload_n 0, 1) := by decide +kernel
theorem dX19_serveRead_111 : decode cX19_serveRead 111 = .ok (.bipush 11, 2) := by decide +kernel
theorem dX19_serveRead_113 : decode cX19_serveRead 113 = .ok (.putfield 730, 3) := by decide +kernel
theorem dX19_serveRead_116 : decode cX19_serveRead 116 = .ok (.return_, 1) := by decide +kernel
theorem cwX19_serveRead : mw_cwV yX19_serveRead cX19_serveRead 5 (none) 1 := ⟨⟨wd_13, wd_4003, by decide +kernel⟩, wd_4002, sl_304⟩
set_option maxHeartbeats 4000000 in
set_option maxRecDepth 100000 in
theorem tX19_serveRead (l : Launch) (G : mwG) (ad : Nat → Nat) (fu : Nat) (a1 : Int32) (M : mwM) (L : mwL) {M0 : mwM} {L0 : mwL} (hD : DX19_serveRead fu a1 M L = some (M0, L0)) : Met l yX19_serveRead (Cond.code yX19_serveRead cX19_serveRead 5 (none) :: GT) ({ frames := 1, cells := 0, slots := 0, locals := 21 }) (mw_Pre G ad NF TF FF M L [.ref (ad 732), .int a1]) (mw_Qv G ad NF TF FF (mw_eqV M0 L0)) 0 0 (mw_fr G) := by
  refine mw_enter (by decide) (Nat.le_of_ble_eq_true rfl) ?_
  intro p e s m below meth c ls C hr hlocks hnm hw hl
  have hl : lv_has ls 5 [(0, .ref (ad 732)), (1, .int a1)] := hl
  have hh73 : ∀ (f : Nat) (v2 : Int64) (v4 : Int32) (M : mwM) (L : mwL) (H : Heap) (locs : List Loc) (ls : Array Slot), fX19_serveRead_h73 fu a1 f (v2, v4, M, L) = some (M0, L0) → mw_W G ad NF TF FF M L H locs → lv_has ls 5 [(0, .ref (ad 732)), (2, .long v2), (4, .int v4)] → W p l e ({ frames := 1, cells := 0, slots := 0, locals := 21 }) s m [.ref (ad 732), .int a1].toArray below meth c H locs 0 0 (MQ below (mw_Qv G ad NF TF FF (mw_eqV M0 L0)) [.ref (ad 732), .int a1].toArray s 0 0 (mw_fr G)) (F0 m 73 ls []) := by
    intro f
    induction f with
    | zero => intro v2 v4 M L H locs ls hD; cases hD
    | succ f73 ih73 =>
      intro v2 v4 M L H locs ls hD hw hl
      replace hD : fX19_serveRead_i73 fu a1 (fX19_serveRead_h73 fu a1 f73) v2 v4 M L = some (M0, L0) := hD
      unfold fX19_serveRead_i73 at hD
      refine lv_iload C.1.1 C.1.2.1 dX19_serveRead_73 (lv_at hl 2 rfl) ?_
      refine lv_bipush (v := 8) C.1.1 C.1.2.1 dX19_serveRead_75 (by decide) ?_
      refine lv_icmp_ge (tgt := 110) C.1.1 C.1.2.1 dX19_serveRead_77 (by decide) (fun c1 => ?_) (fun c1 => ?_)
      · replace hD := g_pos c1 hD
        refine lv_aload_n C.1.1 C.1.2.1 dX19_serveRead_110 rfl (lv_at hl 0 rfl) ?_
        refine lv_bipush (v := 11) C.1.1 C.1.2.1 dX19_serveRead_111 (by decide) ?_
        obtain ⟨M2, eM2, hD⟩ := g_let hD
        refine mr_putI C hw kc_19 102 (by decide) tf_732 wd_2883 dX19_serveRead_113 (by decide) rfl rfl rfl rfl (fun H locs hw => ?_)
        replace hw : mw_W G ad NF TF FF M2 L H locs := by rw [eM2]; exact hw
        exact mr_vret C hr hlocks hw (Option.some.inj hD) dX19_serveRead_116
      · replace hD := g_neg c1 hD
        refine lv_aload_n C.1.1 C.1.2.1 dX19_serveRead_80 rfl (lv_at hl 0 rfl) ?_
        refine mr_getR C hw kc_19 101 (by decide) tf_732 ff_732_101 wd_2882 dX19_serveRead_81 (by decide) rfl ?_
        refine lv_iconst (v := 3) C.1.1 C.1.2.1 dX19_serveRead_84 (by decide) ?_
        refine lv_iload C.1.1 C.1.2.1 dX19_serveRead_85 (lv_at hl 2 rfl) ?_
        refine lv_iadd C.1.1 C.1.2.1 dX19_serveRead_87 ?_
        refine lv_lload_n C.1.1 C.1.2.1 dX19_serveRead_88 rfl (lv_at hl 1 rfl) ?_
        refine lv_bipush (v := 8) C.1.1 C.1.2.1 dX19_serveRead_89 (by decide) ?_
        refine lv_bipush (v := 7) C.1.1 C.1.2.1 dX19_serveRead_91 (by decide) ?_
        refine lv_iload C.1.1 C.1.2.1 dX19_serveRead_93 (lv_at hl 2 rfl) ?_
        refine lv_isub C.1.1 C.1.2.1 dX19_serveRead_95 ?_
        refine lv_imul C.1.1 C.1.2.1 dX19_serveRead_96 ?_
        refine lv_lshr C.1.1 C.1.2.1 dX19_serveRead_97 rfl ?_
        refine lv_ldc2 (v := 255) C.1.1 C.1.2.1 C.1.2.2.2.1 (C.1.2.2.2.2 _ wd_3878) dX19_serveRead_98 ?_
        refine lv_land C.1.1 C.1.2.1 dX19_serveRead_101 ?_
        refine lv_l2i C.1.1 C.1.2.1 dX19_serveRead_102 rfl ?_
        obtain ⟨q3, hD⟩ := g_ck hD
        obtain ⟨M4, eM4, hD⟩ := g_let hD
        refine mr_iast C hw (by decide) tf_933 q3 dX19_serveRead_103 (fun H locs hw => ?_)
        replace hw : mw_W G ad NF TF FF M4 L H locs := by rw [eM4]; exact hw
        obtain ⟨x5, ex5, hD⟩ := g_let hD
        refine lv_iinc (v := x5) (lv' := [(4, .int x5), (0, .ref (ad 732)), (2, .long v2)]) C.1.1 C.1.2.1 dX19_serveRead_104 hl (k := 2) rfl (by rw [ex5]; rfl) (by decide) rfl (fun ls hl => ?_)
        refine lv_goto (tgt := 73) C.1.1 C.1.2.1 dX19_serveRead_107 (by decide) ?_
        exact ih73 v2 x5 M4 L _ _ ls hD hw (lv_sub hl [1, 2, 0] rfl)
  unfold DX19_serveRead at hD
  refine lv_aload_n C.1.1 C.1.2.1 dX19_serveRead_0 rfl (lv_at hl 0 rfl) ?_
  refine lv_iload_n C.1.1 C.1.2.1 dX19_serveRead_1 rfl (lv_at hl 1 rfl) ?_
  obtain ⟨r8, M6, L7, h1, hD⟩ := g_b3 hD
  refine md_cvI (As := [.int a1]) (rest := []) C hw (tX19_isThere l G ad fu a1 M L h1) kc_19 (by decide) tf_732 wd_4004 cwX19_isThere ⟨Nat.le_of_ble_eq_true rfl, Nat.le_of_ble_eq_true rfl⟩ rfl hl.1 (Nat.le_of_ble_eq_true rfl) dX19_serveRead_2 rfl rfl ⟨Nat.zero_le _, Nat.zero_le _⟩ rfl (fun H locs hw => ?_)
  refine lv_if_ne (tgt := 15) C.1.1 C.1.2.1 dX19_serveRead_5 (by decide) (fun c9 => ?_) (fun c9 => ?_)
  · replace hD := g_neg c9 hD
    refine lv_aload_n C.1.1 C.1.2.1 dX19_serveRead_15 rfl (lv_at hl 0 rfl) ?_
    refine mr_getR C hw kc_19 82 (by decide) tf_732 ff_732_82 wd_2863 dX19_serveRead_16 (by decide) rfl ?_
    refine lv_aload_n C.1.1 C.1.2.1 dX19_serveRead_19 rfl (lv_at hl 0 rfl) ?_
    refine mr_getR C hw kc_19 100 (by decide) tf_732 ff_732_100 wd_2881 dX19_serveRead_20 (by decide) rfl ?_
    refine lv_iconst (v := 1) C.1.1 C.1.2.1 dX19_serveRead_23 (by decide) ?_
    refine mr_iald C hw (by decide) tf_932 (show vp_in 1 128 from by unfold vp_in; decide) dX19_serveRead_24 ?_
    refine lv_iconst (v := 1) C.1.1 C.1.2.1 dX19_serveRead_25 (by decide) ?_
    refine lv_isub C.1.1 C.1.2.1 dX19_serveRead_26 ?_
    obtain ⟨q11, hD⟩ := g_ck hD
    refine mr_aald C hw (by decide) tf_922 (by decide) (by decide) rfl rfl q11 (fr_922 _ (g_lt q11)) dX19_serveRead_27 ?_
    refine lv_aload_n C.1.1 C.1.2.1 dX19_serveRead_28 rfl (lv_at hl 0 rfl) ?_
    refine mr_getR C hw kc_19 100 (by decide) tf_732 ff_732_100 wd_2881 dX19_serveRead_29 (by decide) rfl ?_
    refine lv_iconst (v := 2) C.1.1 C.1.2.1 dX19_serveRead_32 (by decide) ?_
    refine mr_iald C hw (by decide) tf_932 (show vp_in 2 128 from by unfold vp_in; decide) dX19_serveRead_33 ?_
    obtain ⟨r15, M13, L14, h1, hD⟩ := g_b3 hD
    refine md_cvL (As := [.int (M6 932 (2 : Int32).toNatClampNeg)]) (rest := []) C hw (tX13_value l G ad fu ((964 + 53 * ((M6 932 (1 : Int32).toNatClampNeg) - 1).toNatClampNeg)) (M6 932 (2 : Int32).toNatClampNeg) M6 L7 h1 (isMc_of (g_lt q11))) kc_13 (Mc_N0 (isMc_of (g_lt q11))) (Mc_T0 (isMc_of (g_lt q11))) wd_3550 cwX13_value ⟨Nat.le_of_ble_eq_true rfl, Nat.le_of_ble_eq_true rfl⟩ rfl hl.1 (Nat.le_of_ble_eq_true rfl) dX19_serveRead_34 rfl rfl ⟨Nat.zero_le _, Nat.zero_le _⟩ rfl (fun H locs hw => ?_)
    refine lv_lstore_n (lv' := [(2, .long r15), (0, .ref (ad 732)), (1, .int a1)]) C.1.1 C.1.2.1 dX19_serveRead_37 rfl hl (by decide) rfl (fun ls hl => ?_)
    refine lv_aload_n C.1.1 C.1.2.1 dX19_serveRead_38 rfl (lv_at hl 1 rfl) ?_
    refine mr_getR C hw kc_19 101 (by decide) tf_732 ff_732_101 wd_2882 dX19_serveRead_39 (by decide) rfl ?_
    refine lv_iconst (v := 0) C.1.1 C.1.2.1 dX19_serveRead_42 (by decide) ?_
    refine lv_bipush (v := 98) C.1.1 C.1.2.1 dX19_serveRead_43 (by decide) ?_
    obtain ⟨M17, eM17, hD⟩ := g_let hD
    refine mr_iast C hw (by decide) tf_933 (show vp_in 0 128 from by unfold vp_in; decide) dX19_serveRead_45 (fun H locs hw => ?_)
    replace hw : mw_W G ad NF TF FF M17 L14 H locs := by rw [eM17]; exact hw
    refine lv_aload_n C.1.1 C.1.2.1 dX19_serveRead_46 rfl (lv_at hl 1 rfl) ?_
    refine mr_getR C hw kc_19 101 (by decide) tf_732 ff_732_101 wd_2882 dX19_serveRead_47 (by decide) rfl ?_
    refine lv_iconst (v := 1) C.1.1 C.1.2.1 dX19_serveRead_50 (by decide) ?_
    refine lv_aload_n C.1.1 C.1.2.1 dX19_serveRead_51 rfl (lv_at hl 1 rfl) ?_
    refine mr_getR C hw kc_19 100 (by decide) tf_732 ff_732_100 wd_2881 dX19_serveRead_52 (by decide) rfl ?_
    refine lv_iconst (v := 1) C.1.1 C.1.2.1 dX19_serveRead_55 (by decide) ?_
    refine mr_iald C hw (by decide) tf_932 (show vp_in 1 128 from by unfold vp_in; decide) dX19_serveRead_56 ?_
    obtain ⟨M20, eM20, hD⟩ := g_let hD
    refine mr_iast C hw (by decide) tf_933 (show vp_in 1 128 from by unfold vp_in; decide) dX19_serveRead_57 (fun H locs hw => ?_)
    replace hw : mw_W G ad NF TF FF M20 L14 H locs := by rw [eM20]; exact hw
    refine lv_aload_n C.1.1 C.1.2.1 dX19_serveRead_58 rfl (lv_at hl 1 rfl) ?_
    refine mr_getR C hw kc_19 101 (by decide) tf_732 ff_732_101 wd_2882 dX19_serveRead_59 (by decide) rfl ?_
    refine lv_iconst (v := 2) C.1.1 C.1.2.1 dX19_serveRead_62 (by decide) ?_
    refine lv_aload_n C.1.1 C.1.2.1 dX19_serveRead_63 rfl (lv_at hl 1 rfl) ?_
    refine mr_getR C hw kc_19 100 (by decide) tf_732 ff_732_100 wd_2881 dX19_serveRead_64 (by decide) rfl ?_
    refine lv_iconst (v := 2) C.1.1 C.1.2.1 dX19_serveRead_67 (by decide) ?_
    refine mr_iald C hw (by decide) tf_932 (show vp_in 2 128 from by unfold vp_in; decide) dX19_serveRead_68 ?_
    obtain ⟨M23, eM23, hD⟩ := g_let hD
    refine mr_iast C hw (by decide) tf_933 (show vp_in 2 128 from by unfold vp_in; decide) dX19_serveRead_69 (fun H locs hw => ?_)
    replace hw : mw_W G ad NF TF FF M23 L14 H locs := by rw [eM23]; exact hw
    refine lv_iconst (v := 0) C.1.1 C.1.2.1 dX19_serveRead_70 (by decide) ?_
    refine lv_istore (lv' := [(4, .int 0), (2, .long r15), (0, .ref (ad 732)), (1, .int a1)]) C.1.1 C.1.2.1 dX19_serveRead_71 hl (by decide) rfl (fun ls hl => ?_)
    exact hh73 fu r15 0 M23 L14 _ _ ls hD hw (lv_sub hl [2, 1, 0] rfl)
  · replace hD := g_pos c9 hD
    refine lv_aload_n C.1.1 C.1.2.1 dX19_serveRead_8 rfl (lv_at hl 0 rfl) ?_
    refine lv_bipush (v := 49) C.1.1 C.1.2.1 dX19_serveRead_9 (by decide) ?_
    obtain ⟨M24, L25, h1, hD⟩ := g_b2 hD
    refine md_cvV (As := [.int 49]) (rest := []) C hw (tX19_no l G ad fu 49 M6 L7 h1) kc_19 (by decide) tf_732 wd_3992 cwX19_no ⟨Nat.le_of_ble_eq_true rfl, Nat.le_of_ble_eq_true rfl⟩ rfl hl.1 (Nat.le_of_ble_eq_true rfl) dX19_serveRead_11 rfl rfl ⟨Nat.zero_le _, Nat.zero_le _⟩ rfl (fun H locs hw => ?_)
    exact mr_vret C hr hlocks hw (Option.some.inj hD) dX19_serveRead_14

theorem dX19_serveWrite_0 : decode cX19_serveWrite 0 = .ok (.aload_n 0, 1) := by decide +kernel
theorem dX19_serveWrite_1 : decode cX19_serveWrite 1 = .ok (.getfield 261, 3) := by decide +kernel
theorem dX19_serveWrite_4 : decode cX19_serveWrite 4 = .ok (.iload_n 1, 1) := by decide +kernel
theorem dX19_serveWrite_5 : decode cX19_serveWrite 5 = .ok (.baload, 1) := by decide +kernel
theorem dX19_serveWrite_6 : decode cX19_serveWrite 6 = .ok (.ifCond .eq 11, 3) := by decide +kernel
theorem dX19_serveWrite_9 : decode cX19_serveWrite 9 = .ok (.aload_n 0, 1) := by decide +kernel
theorem dX19_serveWrite_10 : decode cX19_serveWrite 10 = .ok (.iload_n 1, 1) := by decide +kernel
theorem dX19_serveWrite_11 : decode cX19_serveWrite 11 = .ok (.invokevirtual 768, 3) := by decide +kernel
theorem dX19_serveWrite_14 : decode cX19_serveWrite 14 = .ok (.ifCond .ne 24, 3) := by decide +kernel
theorem dX19_serveWrite_17 : decode cX19_serveWrite 17 = .ok (.aload_n 0, 1) := by decide +kernel
theorem dX19_serveWrite_18 : decode cX19_serveWrite 18 = .ok (.aload_n 0, 1) := by decide +kernel
theorem dX19_serveWrite_19 : decode cX19_serveWrite 19 = .ok (.getfield 261, 3) := by decide +kernel
theorem dX19_serveWrite_22 : decode cX19_serveWrite 22 = .ok (.iload_n 1, 1) := by decide +kernel
theorem dX19_serveWrite_23 : decode cX19_serveWrite 23 = .ok (.baload, 1) := by decide +kernel
theorem dX19_serveWrite_24 : decode cX19_serveWrite 24 = .ok (.ifCond .eq 8, 3) := by decide +kernel
theorem dX19_serveWrite_27 : decode cX19_serveWrite 27 = .ok (.bipush 49, 2) := by decide +kernel
theorem dX19_serveWrite_29 : decode cX19_serveWrite 29 = .ok (.goto 5, 3) := by decide +kernel
theorem dX19_serveWrite_32 : decode cX19_serveWrite 32 = .ok (.bipush 51, 2) := by decide +kernel
theorem dX19_serveWrite_34 : decode cX19_serveWrite 34 = .ok (.invokevirtual 744, 3) := by decide +kernel
theorem dX19_serveWrite_37 : decode cX19_serveWrite 37 = .ok (.return_, 1) := by decide +kernel
theorem dX19_serveWrite_38 : decode cX19_serveWrite 38 = .ok (.lconst 0, 1) := by decide +kernel
theorem dX19_serveWrite_39 : decode cX19_serveWrite 39 = .ok (.lstore_n 2, 1) := by decide +kernel
theorem dX19_serveWrite_40 : decode cX19_serveWrite 40 = .ok (.iconst 0, 1) := by decide +kernel
theorem dX19_serveWrite_41 : decode cX19_serveWrite 41 = .ok (.istore 4, 2) := by decide +kernel
theorem dX19_serveWrite_43 : decode cX19_serveWrite 43 = .ok (.iload 4, 2) := by decide +kernel
theorem dX19_serveWrite_45 : decode cX19_serveWrite 45 = .ok (.bipush 8, 2) := by decide +kernel
theorem dX19_serveWrite_47 : decode cX19_serveWrite 47 = .ok (.if_icmp .ge 26, 3) := by decide +kernel
theorem dX19_serveWrite_50 : decode cX19_serveWrite 50 = .ok (.lload_n 2, 1) := by decide +kernel
theorem dX19_serveWrite_51 : decode cX19_serveWrite 51 = .ok (.ldc2_w 325, 3) := by decide +kernel
theorem dX19_serveWrite_54 : decode cX19_serveWrite 54 = .ok (.lmul, 1) := by decide +kernel
theorem dX19_serveWrite_55 : decode cX19_serveWrite 55 = .ok (.aload_n 0, 1) := by decide +kernel
theorem dX19_serveWrite_56 : decode cX19_serveWrite 56 = .ok (.getfield 252, 3) := by decide +kernel
theorem dX19_serveWrite_59 : decode cX19_serveWrite 59 = .ok (.iconst 3, 1) := by decide +kernel
theorem dX19_serveWrite_60 : decode cX19_serveWrite 60 = .ok (.iload 4, 2) := by decide +kernel
theorem dX19_serveWrite_62 : decode cX19_serveWrite 62 = .ok (.iadd, 1) := by decide +kernel
theorem dX19_serveWrite_63 : decode cX19_serveWrite 63 = .ok (.iaload, 1) := by decide +kernel
theorem dX19_serveWrite_64 : decode cX19_serveWrite 64 = .ok (.i2l, 1) := by decide +kernel
theorem dX19_serveWrite_65 : decode cX19_serveWrite 65 = .ok (.ladd, 1) := by decide +kernel
theorem dX19_serveWrite_66 : decode cX19_serveWrite 66 = .ok (.lstore_n 2, 1) := by decide +kernel
theorem dX19_serveWrite_67 : decode cX19_serveWrite 67 = .ok (.iinc 4 1, 3) := by decide +kernel
theorem dX19_serveWrite_70 : decode cX19_serveWrite 70 = .ok (.goto (-27), 3) := by decide +kernel
theorem dX19_serveWrite_73 : decode cX19_serveWrite 73 = .ok (.aload_n 0, 1) := by decide +kernel
theorem dX19_serveWrite_74 : decode cX19_serveWrite 74 = .ok (.getfield 217, 3) := by decide +kernel
theorem dX19_serveWrite_77 : decode cX19_serveWrite 77 = .ok (.aload_n 0, 1) := by decide +kernel
theorem dX19_serveWrite_78 : decode cX19_serveWrite 78 = .ok (.getfield 252, 3) := by decide +kernel
theorem dX19_serveWrite_81 : decode cX19_serveWrite 81 = .ok (.iconst 1, 1) := by decide +kernel
theorem dX19_serveWrite_82 : decode cX19_serveWrite 82 = .ok (.iaload, 1) := by decide +kernel
theorem dX19_serveWrite_83 : decode cX19_serveWrite 83 = .ok (.iconst 1, 1) := by decide +kernel
theorem dX19_serveWrite_84 : decode cX19_serveWrite 84 = .ok (.isub, 1) := by decide +kernel
theorem dX19_serveWrite_85 : decode cX19_serveWrite 85 = .ok (.aaload, 1) := by decide +kernel
theorem dX19_serveWrite_86 : decode cX19_serveWrite 86 = .ok (.aload_n 0, 1) := by decide +kernel
theorem dX19_serveWrite_87 : decode cX19_serveWrite 87 = .ok (.getfield 252, 3) := by decide +kernel
theorem dX19_serveWrite_90 : decode cX19_serveWrite 90 = .ok (.iconst 2, 1) := by decide +kernel
theorem dX19_serveWrite_91 : decode cX19_serveWrite 91 = .ok (.iaload, 1) := by decide +kernel
theorem dX19_serveWrite_92 : decode cX19_serveWrite 92 = .ok (.lload_n 2, 1) := by decide +kernel
theorem dX19_serveWrite_93 : decode cX19_serveWrite 93 = .ok (.invokevirtual 709, 3) := by decide +kernel
theorem dX19_serveWrite_96 : decode cX19_serveWrite 96 = .ok (.aload_n 0, 1) := by decide +kernel
theorem dX19_serveWrite_97 : decode cX19_serveWrite 97 = .ok (.getfield 255, 3) := by decide +kernel
theorem dX19_serveWrite_100 : decode cX19_serveWrite 100 = .ok (.iconst 0, 1) := by decide +kernel
theorem dX19_serveWrite_101 : decode cX19_serveWrite 101 = .ok (.bipush 110, 2) := by decide +kernel
theorem dX19_serveWrite_103 : decode cX19_serveWrite 103 = .ok (.iastore, 1) := by decide +kernel
theorem dX19_serveWrite_104 : decode cX19_serveWrite 104 = .ok (.aload_n 0, 1) := by decide +kernel
theorem dX19_serveWrite_105 : decode cX19_serveWrite 105 = .ok (.getfield 255, 3) := by decide +kernel
theorem dX19_serveWrite_108 : decode cX19_serveWrite 108 = .ok (.iconst 1, 1) := by decide +kernel
theorem dX19_serveWrite_109 : decode cX19_serveWrite 109 = .ok (.aload_n 0, 1) := by decide +kernel
theorem dX19_serveWrite_110 : decode cX19_serveWrite 110 = .ok (.getfield 252, 3) := by decide +kernel
theorem dX19_serveWrite_113 : decode cX19_serveWrite 113 = .ok (.iconst 1, 1) := by decide +kernel
theorem dX19_serveWrite_114 : decode cX19_serveWrite 114 = .ok (.iaload, 1) := by decide +kernel
theorem dX19_serveWrite_115 : decode cX19_serveWrite 115 = .ok (.iastore, 1) := by decide +kernel
theorem dX19_serveWrite_116 : decode cX19_serveWrite 116 = .ok (.aload_n 0, 1) := by decide +kernel
theorem dX19_serveWrite_117 : decode cX19_serveWrite 117 = .ok (.getfield 255, 3) := by decide +kernel
theorem dX19_serveWrite_120 : decode cX19_serveWrite 120 = .ok (.iconst 2, 1) := by decide +kernel
theorem dX19_serveWrite_121 : decode cX19_serveWrite 121 = .ok (.aload_n 0, 1) := by decide +kernel
theorem dX19_serveWrite_122 : decode cX19_serveWrite 122 = .ok (.getfield 252, 3) := by decide +kernel
theorem dX19_serveWrite_125 : decode cX19_serveWrite 125 = .ok (.iconst 2, 1) := by decide +kernel
theorem dX19_serveWrite_126 : decode cX19_serveWrite 126 = .ok (.iaload, 1) := by decide +kernel
theorem dX19_serveWrite_127 : decode cX19_serveWrite 127 = .ok (.iastore, 1) := by decide +kernel
theorem dX19_serveWrite_128 : decode cX19_serveWrite 128 = .ok (.aload_n 0, 1) := by decide +kernel
theorem dX19_serveWrite_129 : decode cX19_serveWrite 129 = .ok (.iconst 3, 1) := by decide +kernel
theorem dX19_serveWrite_130 : decode cX19_serveWrite 130 = .ok (.putfield 730, 3) := by decide +kernel
theorem dX19_serveWrite_133 : decode cX19_serveWrite 133 = .ok (.return_, 1) := by decide +kernel
theorem cwX19_serveWrite : mw_cwV yX19_serveWrite cX19_serveWrite 5 (none) 1 := ⟨⟨wd_13, wd_4011, by decide +kernel⟩, wd_4010, sl_306⟩
set_option maxHeartbeats 4000000 in
set_option maxRecDepth 100000 in
theorem tX19_serveWrite (l : Launch) (G : mwG) (ad : Nat → Nat) (fu : Nat) (a1 : Int32) (M : mwM) (L : mwL) {M0 : mwM} {L0 : mwL} (hD : DX19_serveWrite fu a1 M L = some (M0, L0)) : Met l yX19_serveWrite (Cond.code yX19_serveWrite cX19_serveWrite 5 (none) :: GT) ({ frames := 1, cells := 0, slots := 0, locals := 23 }) (mw_Pre G ad NF TF FF M L [.ref (ad 732), .int a1]) (mw_Qv G ad NF TF FF (mw_eqV M0 L0)) 0 0 (mw_fr G) := by
  refine mw_enter (by decide) (Nat.le_of_ble_eq_true rfl) ?_
  intro p e s m below meth c ls C hr hlocks hnm hw hl
  have hl : lv_has ls 5 [(0, .ref (ad 732)), (1, .int a1)] := hl
  have hb34 : ∀ (s1 : Int32) (M : mwM) (L : mwL) (H : Heap) (locs : List Loc) (ls : Array Slot), fX19_serveWrite_b34 fu a1 s1 M L = some (M0, L0) → mw_W G ad NF TF FF M L H locs → lv_has ls 5 [] → W p l e ({ frames := 1, cells := 0, slots := 0, locals := 23 }) s m [.ref (ad 732), .int a1].toArray below meth c H locs 0 0 (MQ below (mw_Qv G ad NF TF FF (mw_eqV M0 L0)) [.ref (ad 732), .int a1].toArray s 0 0 (mw_fr G)) (F0 m 34 ls [.int s1, .ref (ad 732)]) := by
    intro s1 M L H locs ls hD hw hl
    unfold fX19_serveWrite_b34 at hD
    obtain ⟨M3, L4, h1, hD⟩ := g_b2 hD
    refine md_cvV (As := [.int s1]) (rest := []) C hw (tX19_no l G ad fu s1 M L h1) kc_19 (by decide) tf_732 wd_3992 cwX19_no ⟨Nat.le_of_ble_eq_true rfl, Nat.le_of_ble_eq_true rfl⟩ rfl hl.1 (Nat.le_of_ble_eq_true rfl) dX19_serveWrite_34 rfl rfl ⟨Nat.zero_le _, Nat.zero_le _⟩ rfl (fun H locs hw => ?_)
    exact mr_vret C hr hlocks hw (Option.some.inj hD) dX19_serveWrite_37
  have hb17 : ∀ (M : mwM) (L : mwL) (H : Heap) (locs : List Loc) (ls : Array Slot), fX19_serveWrite_b17 fu a1 M L = some (M0, L0) → mw_W G ad NF TF FF M L H locs → lv_has ls 5 [(0, .ref (ad 732)), (1, .int a1)] → W p l e ({ frames := 1, cells := 0, slots := 0, locals := 23 }) s m [.ref (ad 732), .int a1].toArray below meth c H locs 0 0 (MQ below (mw_Qv G ad NF TF FF (mw_eqV M0 L0)) [.ref (ad 732), .int a1].toArray s 0 0 (mw_fr G)) (F0 m 17 ls []) := by
    intro M L H locs ls hD hw hl
    unfold fX19_serveWrite_b17 at hD
    refine lv_aload_n C.1.1 C.1.2.1 dX19_serveWrite_17 rfl (lv_at hl 0 rfl) ?_
    refine lv_aload_n C.1.1 C.1.2.1 dX19_serveWrite_18 rfl (lv_at hl 0 rfl) ?_
    refine mr_getR C hw kc_19 104 (by decide) tf_732 ff_732_104 wd_2885 dX19_serveWrite_19 (by decide) rfl ?_
    refine lv_iload_n C.1.1 C.1.2.1 dX19_serveWrite_22 rfl (lv_at hl 1 rfl) ?_
    obtain ⟨q1, hD⟩ := g_ck hD
    refine mr_zald C hw (by decide) tf_935 q1 dX19_serveWrite_23 ?_
    refine lv_if_eq (tgt := 32) C.1.1 C.1.2.1 dX19_serveWrite_24 (by decide) (fun c2 => ?_) (fun c2 => ?_)
    · replace hD := g_pos c2 hD
      refine lv_bipush (v := 51) C.1.1 C.1.2.1 dX19_serveWrite_32 (by decide) ?_
      exact hb34 51 M L _ _ ls hD hw (lv_sub hl [] rfl)
    · replace hD := g_neg c2 hD
      refine lv_bipush (v := 49) C.1.1 C.1.2.1 dX19_serveWrite_27 (by decide) ?_
      refine lv_goto (tgt := 34) C.1.1 C.1.2.1 dX19_serveWrite_29 (by decide) ?_
      exact hb34 49 M L _ _ ls hD hw (lv_sub hl [] rfl)
  have hh43 : ∀ (f : Nat) (v2 : Int64) (v4 : Int32) (M : mwM) (L : mwL) (H : Heap) (locs : List Loc) (ls : Array Slot), fX19_serveWrite_h43 fu a1 f (v2, v4, M, L) = some (M0, L0) → mw_W G ad NF TF FF M L H locs → lv_has ls 5 [(0, .ref (ad 732)), (2, .long v2), (4, .int v4)] → W p l e ({ frames := 1, cells := 0, slots := 0, locals := 23 }) s m [.ref (ad 732), .int a1].toArray below meth c H locs 0 0 (MQ below (mw_Qv G ad NF TF FF (mw_eqV M0 L0)) [.ref (ad 732), .int a1].toArray s 0 0 (mw_fr G)) (F0 m 43 ls []) := by
    intro f
    induction f with
    | zero => intro v2 v4 M L H locs ls hD; cases hD
    | succ f43 ih43 =>
      intro v2 v4 M L H locs ls hD hw hl
      replace hD : fX19_serveWrite_i43 fu a1 (fX19_serveWrite_h43 fu a1 f43) v2 v4 M L = some (M0, L0) := hD
      unfold fX19_serveWrite_i43 at hD
      refine lv_iload C.1.1 C.1.2.1 dX19_serveWrite_43 (lv_at hl 2 rfl) ?_
      refine lv_bipush (v := 8) C.1.1 C.1.2.1 dX19_serveWrite_45 (by decide) ?_
      refine lv_icmp_ge (tgt := 73) C.1.1 C.1.2.1 dX19_serveWrite_47 (by decide) (fun c5 => ?_) (fun c5 => ?_)
      · replace hD := g_pos c5 hD
        refine lv_aload_n C.1.1 C.1.2.1 dX19_serveWrite_73 rfl (lv_at hl 0 rfl) ?_
        refine mr_getR C hw kc_19 82 (by decide) tf_732 ff_732_82 wd_2863 dX19_serveWrite_74 (by decide) rfl ?_
        refine lv_aload_n C.1.1 C.1.2.1 dX19_serveWrite_77 rfl (lv_at hl 0 rfl) ?_
        refine mr_getR C hw kc_19 100 (by decide) tf_732 ff_732_100 wd_2881 dX19_serveWrite_78 (by decide) rfl ?_
        refine lv_iconst (v := 1) C.1.1 C.1.2.1 dX19_serveWrite_81 (by decide) ?_
        refine mr_iald C hw (by decide) tf_932 (show vp_in 1 128 from by unfold vp_in; decide) dX19_serveWrite_82 ?_
        refine lv_iconst (v := 1) C.1.1 C.1.2.1 dX19_serveWrite_83 (by decide) ?_
        refine lv_isub C.1.1 C.1.2.1 dX19_serveWrite_84 ?_
        obtain ⟨q7, hD⟩ := g_ck hD
        refine mr_aald C hw (by decide) tf_922 (by decide) (by decide) rfl rfl q7 (fr_922 _ (g_lt q7)) dX19_serveWrite_85 ?_
        refine lv_aload_n C.1.1 C.1.2.1 dX19_serveWrite_86 rfl (lv_at hl 0 rfl) ?_
        refine mr_getR C hw kc_19 100 (by decide) tf_732 ff_732_100 wd_2881 dX19_serveWrite_87 (by decide) rfl ?_
        refine lv_iconst (v := 2) C.1.1 C.1.2.1 dX19_serveWrite_90 (by decide) ?_
        refine mr_iald C hw (by decide) tf_932 (show vp_in 2 128 from by unfold vp_in; decide) dX19_serveWrite_91 ?_
        refine lv_lload_n C.1.1 C.1.2.1 dX19_serveWrite_92 rfl (lv_at hl 1 rfl) ?_
        obtain ⟨M9, L10, h1, hD⟩ := g_b2 hD
        refine md_cvV (As := [.int (M 932 (2 : Int32).toNatClampNeg), .long v2]) (rest := []) C hw (tX13_put l G ad fu ((964 + 53 * ((M 932 (1 : Int32).toNatClampNeg) - 1).toNatClampNeg)) (M 932 (2 : Int32).toNatClampNeg) v2 M L h1 (isMc_of (g_lt q7))) kc_13 (Mc_N0 (isMc_of (g_lt q7))) (Mc_T0 (isMc_of (g_lt q7))) wd_3924 cwX13_put ⟨Nat.le_of_ble_eq_true rfl, Nat.le_of_ble_eq_true rfl⟩ rfl hl.1 (Nat.le_of_ble_eq_true rfl) dX19_serveWrite_93 rfl rfl ⟨Nat.zero_le _, Nat.zero_le _⟩ rfl (fun H locs hw => ?_)
        refine lv_aload_n C.1.1 C.1.2.1 dX19_serveWrite_96 rfl (lv_at hl 0 rfl) ?_
        refine mr_getR C hw kc_19 101 (by decide) tf_732 ff_732_101 wd_2882 dX19_serveWrite_97 (by decide) rfl ?_
        refine lv_iconst (v := 0) C.1.1 C.1.2.1 dX19_serveWrite_100 (by decide) ?_
        refine lv_bipush (v := 110) C.1.1 C.1.2.1 dX19_serveWrite_101 (by decide) ?_
        obtain ⟨M12, eM12, hD⟩ := g_let hD
        refine mr_iast C hw (by decide) tf_933 (show vp_in 0 128 from by unfold vp_in; decide) dX19_serveWrite_103 (fun H locs hw => ?_)
        replace hw : mw_W G ad NF TF FF M12 L10 H locs := by rw [eM12]; exact hw
        refine lv_aload_n C.1.1 C.1.2.1 dX19_serveWrite_104 rfl (lv_at hl 0 rfl) ?_
        refine mr_getR C hw kc_19 101 (by decide) tf_732 ff_732_101 wd_2882 dX19_serveWrite_105 (by decide) rfl ?_
        refine lv_iconst (v := 1) C.1.1 C.1.2.1 dX19_serveWrite_108 (by decide) ?_
        refine lv_aload_n C.1.1 C.1.2.1 dX19_serveWrite_109 rfl (lv_at hl 0 rfl) ?_
        refine mr_getR C hw kc_19 100 (by decide) tf_732 ff_732_100 wd_2881 dX19_serveWrite_110 (by decide) rfl ?_
        refine lv_iconst (v := 1) C.1.1 C.1.2.1 dX19_serveWrite_113 (by decide) ?_
        refine mr_iald C hw (by decide) tf_932 (show vp_in 1 128 from by unfold vp_in; decide) dX19_serveWrite_114 ?_
        obtain ⟨M15, eM15, hD⟩ := g_let hD
        refine mr_iast C hw (by decide) tf_933 (show vp_in 1 128 from by unfold vp_in; decide) dX19_serveWrite_115 (fun H locs hw => ?_)
        replace hw : mw_W G ad NF TF FF M15 L10 H locs := by rw [eM15]; exact hw
        refine lv_aload_n C.1.1 C.1.2.1 dX19_serveWrite_116 rfl (lv_at hl 0 rfl) ?_
        refine mr_getR C hw kc_19 101 (by decide) tf_732 ff_732_101 wd_2882 dX19_serveWrite_117 (by decide) rfl ?_
        refine lv_iconst (v := 2) C.1.1 C.1.2.1 dX19_serveWrite_120 (by decide) ?_
        refine lv_aload_n C.1.1 C.1.2.1 dX19_serveWrite_121 rfl (lv_at hl 0 rfl) ?_
        refine mr_getR C hw kc_19 100 (by decide) tf_732 ff_732_100 wd_2881 dX19_serveWrite_122 (by decide) rfl ?_
        refine lv_iconst (v := 2) C.1.1 C.1.2.1 dX19_serveWrite_125 (by decide) ?_
        refine mr_iald C hw (by decide) tf_932 (show vp_in 2 128 from by unfold vp_in; decide) dX19_serveWrite_126 ?_
        obtain ⟨M18, eM18, hD⟩ := g_let hD
        refine mr_iast C hw (by decide) tf_933 (show vp_in 2 128 from by unfold vp_in; decide) dX19_serveWrite_127 (fun H locs hw => ?_)
        replace hw : mw_W G ad NF TF FF M18 L10 H locs := by rw [eM18]; exact hw
        refine lv_aload_n C.1.1 C.1.2.1 dX19_serveWrite_128 rfl (lv_at hl 0 rfl) ?_
        refine lv_iconst (v := 3) C.1.1 C.1.2.1 dX19_serveWrite_129 (by decide) ?_
        obtain ⟨M19, eM19, hD⟩ := g_let hD
        refine mr_putI C hw kc_19 102 (by decide) tf_732 wd_2883 dX19_serveWrite_130 (by decide) rfl rfl rfl rfl (fun H locs hw => ?_)
        replace hw : mw_W G ad NF TF FF M19 L10 H locs := by rw [eM19]; exact hw
        exact mr_vret C hr hlocks hw (Option.some.inj hD) dX19_serveWrite_133
      · replace hD := g_neg c5 hD
        refine lv_lload_n C.1.1 C.1.2.1 dX19_serveWrite_50 rfl (lv_at hl 1 rfl) ?_
        refine lv_ldc2 (v := 256) C.1.1 C.1.2.1 C.1.2.2.2.1 (C.1.2.2.2.2 _ wd_3159) dX19_serveWrite_51 ?_
        refine lv_lmul C.1.1 C.1.2.1 dX19_serveWrite_54 ?_
        refine lv_aload_n C.1.1 C.1.2.1 dX19_serveWrite_55 rfl (lv_at hl 0 rfl) ?_
        refine mr_getR C hw kc_19 100 (by decide) tf_732 ff_732_100 wd_2881 dX19_serveWrite_56 (by decide) rfl ?_
        refine lv_iconst (v := 3) C.1.1 C.1.2.1 dX19_serveWrite_59 (by decide) ?_
        refine lv_iload C.1.1 C.1.2.1 dX19_serveWrite_60 (lv_at hl 2 rfl) ?_
        refine lv_iadd C.1.1 C.1.2.1 dX19_serveWrite_62 ?_
        obtain ⟨q20, hD⟩ := g_ck hD
        refine mr_iald C hw (by decide) tf_932 q20 dX19_serveWrite_63 ?_
        refine lv_i2l C.1.1 C.1.2.1 dX19_serveWrite_64 rfl ?_
        refine lv_ladd C.1.1 C.1.2.1 dX19_serveWrite_65 ?_
        obtain ⟨x21, ex21, hD⟩ := g_let hD
        refine W.eq (g2 := F0 m 66 ls (.long x21 :: [])) (by rw [ex21]) ?_
        refine lv_lstore_n (lv' := [(2, .long x21), (0, .ref (ad 732)), (4, .int v4)]) C.1.1 C.1.2.1 dX19_serveWrite_66 rfl hl (by decide) rfl (fun ls hl => ?_)
        obtain ⟨x22, ex22, hD⟩ := g_let hD
        refine lv_iinc (v := x22) (lv' := [(4, .int x22), (2, .long x21), (0, .ref (ad 732))]) C.1.1 C.1.2.1 dX19_serveWrite_67 hl (k := 2) rfl (by rw [ex22]; rfl) (by decide) rfl (fun ls hl => ?_)
        refine lv_goto (tgt := 43) C.1.1 C.1.2.1 dX19_serveWrite_70 (by decide) ?_
        exact ih43 x21 x22 M L _ _ ls hD hw (lv_sub hl [2, 1, 0] rfl)
  unfold DX19_serveWrite at hD
  refine lv_aload_n C.1.1 C.1.2.1 dX19_serveWrite_0 rfl (lv_at hl 0 rfl) ?_
  refine mr_getR C hw kc_19 104 (by decide) tf_732 ff_732_104 wd_2885 dX19_serveWrite_1 (by decide) rfl ?_
  refine lv_iload_n C.1.1 C.1.2.1 dX19_serveWrite_4 rfl (lv_at hl 1 rfl) ?_
  obtain ⟨q23, hD⟩ := g_ck hD
  refine mr_zald C hw (by decide) tf_935 q23 dX19_serveWrite_5 ?_
  refine lv_if_eq (tgt := 17) C.1.1 C.1.2.1 dX19_serveWrite_6 (by decide) (fun c24 => ?_) (fun c24 => ?_)
  · replace hD := g_pos c24 hD
    exact hb17 M L _ _ ls hD hw (lv_sub hl [0, 1] rfl)
  · replace hD := g_neg c24 hD
    refine lv_aload_n C.1.1 C.1.2.1 dX19_serveWrite_9 rfl (lv_at hl 0 rfl) ?_
    refine lv_iload_n C.1.1 C.1.2.1 dX19_serveWrite_10 rfl (lv_at hl 1 rfl) ?_
    obtain ⟨r27, M25, L26, h1, hD⟩ := g_b3 hD
    refine md_cvI (As := [.int a1]) (rest := []) C hw (tX19_isThere l G ad fu a1 M L h1) kc_19 (by decide) tf_732 wd_4004 cwX19_isThere ⟨Nat.le_of_ble_eq_true rfl, Nat.le_of_ble_eq_true rfl⟩ rfl hl.1 (Nat.le_of_ble_eq_true rfl) dX19_serveWrite_11 rfl rfl ⟨Nat.zero_le _, Nat.zero_le _⟩ rfl (fun H locs hw => ?_)
    refine lv_if_ne (tgt := 38) C.1.1 C.1.2.1 dX19_serveWrite_14 (by decide) (fun c28 => ?_) (fun c28 => ?_)
    · replace hD := g_neg c28 hD
      refine lv_lconst (v := 0) C.1.1 C.1.2.1 dX19_serveWrite_38 (by decide) ?_
      refine lv_lstore_n (lv' := [(2, .long 0), (0, .ref (ad 732)), (1, .int a1)]) C.1.1 C.1.2.1 dX19_serveWrite_39 rfl hl (by decide) rfl (fun ls hl => ?_)
      refine lv_iconst (v := 0) C.1.1 C.1.2.1 dX19_serveWrite_40 (by decide) ?_
      refine lv_istore (lv' := [(4, .int 0), (2, .long 0), (0, .ref (ad 732)), (1, .int a1)]) C.1.1 C.1.2.1 dX19_serveWrite_41 hl (by decide) rfl (fun ls hl => ?_)
      exact hh43 fu 0 0 M25 L26 _ _ ls hD hw (lv_sub hl [2, 1, 0] rfl)
    · replace hD := g_pos c28 hD
      exact hb17 M25 L26 _ _ ls hD hw (lv_sub hl [0, 1] rfl)

theorem dX19_serveTroubles_0 : decode cX19_serveTroubles 0 = .ok (.aload_n 0, 1) := by decide +kernel
theorem dX19_serveTroubles_1 : decode cX19_serveTroubles 1 = .ok (.getfield 205, 3) := by decide +kernel
theorem dX19_serveTroubles_4 : decode cX19_serveTroubles 4 = .ok (.iconst (-1), 1) := by decide +kernel
theorem dX19_serveTroubles_5 : decode cX19_serveTroubles 5 = .ok (.iconst 0, 1) := by decide +kernel
theorem dX19_serveTroubles_6 : decode cX19_serveTroubles 6 = .ok (.invokevirtual 771, 3) := by decide +kernel
theorem dX19_serveTroubles_9 : decode cX19_serveTroubles 9 = .ok (.istore_n 1, 1) := by decide +kernel
theorem dX19_serveTroubles_10 : decode cX19_serveTroubles 10 = .ok (.aload_n 0, 1) := by decide +kernel
theorem dX19_serveTroubles_11 : decode cX19_serveTroubles 11 = .ok (.getfield 255, 3) := by decide +kernel
theorem dX19_serveTroubles_14 : decode cX19_serveTroubles 14 = .ok (.iconst 0, 1) := by decide +kernel
theorem dX19_serveTroubles_15 : decode cX19_serveTroubles 15 = .ok (.bipush 89, 2) := by decide +kernel
theorem dX19_serveTroubles_17 : decode cX19_serveTroubles 17 = .ok (.iastore, 1) := by decide +kernel
theorem dX19_serveTroubles_18 : decode cX19_serveTroubles 18 = .ok (.aload_n 0, 1) := by decide +kernel
theorem dX19_serveTroubles_19 : decode cX19_serveTroubles 19 = .ok (.getfield 255, 3) := by decide +kernel
theorem dX19_serveTroubles_22 : decode cX19_serveTroubles 22 = .ok (.iconst 1, 1) := by decide +kernel
theorem dX19_serveTroubles_23 : decode cX19_serveTroubles 23 = .ok (.iload_n 1, 1) := by decide +kernel
theorem dX19_serveTroubles_24 : decode cX19_serveTroubles 24 = .ok (.iastore, 1) := by decide +kernel
theorem dX19_serveTroubles_25 : decode cX19_serveTroubles 25 = .ok (.iconst 0, 1) := by decide +kernel
theorem dX19_serveTroubles_26 : decode cX19_serveTroubles 26 = .ok (.istore_n 2, 1) := by decide +kernel
theorem dX19_serveTroubles_27 : decode cX19_serveTroubles 27 = .ok (.iload_n 2, 1) := by decide +kernel
theorem dX19_serveTroubles_28 : decode cX19_serveTroubles 28 = .ok (.iload_n 1, 1) := by decide +kernel
theorem dX19_serveTroubles_29 : decode cX19_serveTroubles 29 = .ok (.if_icmp .ge 54, 3) := by decide +kernel
theorem dX19_serveTroubles_32 : decode cX19_serveTroubles 32 = .ok (.aload_n 0, 1) := by decide +kernel
theorem dX19_serveTroubles_33 : decode cX19_serveTroubles 33 = .ok (.getfield 255, 3) := by decide +kernel
theorem dX19_serveTroubles_36 : decode cX19_serveTroubles 36 = .ok (.iconst 2, 1) := by decide +kernel
theorem dX19_serveTroubles_37 : decode cX19_serveTroubles 37 = .ok (.iconst 2, 1) := by decide +kernel
theorem dX19_serveTroubles_38 : decode cX19_serveTroubles 38 = .ok (.iload_n 2, 1) := by decide +kernel
theorem dX19_serveTroubles_39 : decode cX19_serveTroubles 39 = .ok (.imul, 1) := by decide +kernel
theorem dX19_serveTroubles_40 : decode cX19_serveTroubles 40 = .ok (.iadd, 1) := by decide +kernel
theorem dX19_serveTroubles_41 : decode cX19_serveTroubles 41 = .ok (.aload_n 0, 1) := by decide +kernel
theorem dX19_serveTroubles_42 : decode cX19_serveTroubles 42 = .ok (.getfield 205, 3) := by decide +kernel
theorem dX19_serveTroubles_45 : decode cX19_serveTroubles 45 = .ok (.iload_n 2, 1) := by decide +kernel
theorem dX19_serveTroubles_46 : decode cX19_serveTroubles 46 = .ok (.iconst 0, 1) := by decide +kernel
theorem dX19_serveTroubles_47 : decode cX19_serveTroubles 47 = .ok (.invokevirtual 771, 3) := by decide +kernel
theorem dX19_serveTroubles_50 : decode cX19_serveTroubles 50 = .ok (.iastore, 1) := by decide +kernel
theorem dX19_serveTroubles_51 : decode cX19_serveTroubles 51 = .ok (.aload_n 0, 1) := by decide +kernel
theorem dX19_serveTroubles_52 : decode cX19_serveTroubles 52 = .ok (.getfield 255, 3) := by decide +kernel
theorem dX19_serveTroubles_55 : decode cX19_serveTroubles 55 = .ok (.iconst 3, 1) := by decide +kernel
theorem dX19_serveTroubles_56 : decode cX19_serveTroubles 56 = .ok (.iconst 2, 1) := by decide +kernel
theorem dX19_serveTroubles_57 : decode cX19_serveTroubles 57 = .ok (.iload_n 2, 1) := by decide +kernel
theorem dX19_serveTroubles_58 : decode cX19_serveTroubles 58 = .ok (.imul, 1) := by decide +kernel
theorem dX19_serveTroubles_59 : decode cX19_serveTroubles 59 = .ok (.iadd, 1) := by decide +kernel
theorem dX19_serveTroubles_60 : decode cX19_serveTroubles 60 = .ok (.aload_n 0, 1) := by decide +kernel
theorem dX19_serveTroubles_61 : decode cX19_serveTroubles 61 = .ok (.getfield 205, 3) := by decide +kernel
theorem dX19_serveTroubles_64 : decode cX19_serveTroubles 64 = .ok (.aload_n 0, 1) := by decide +kernel
theorem dX19_serveTroubles_65 : decode cX19_serveTroubles 65 = .ok (.getfield 205, 3) := by decide +kernel
theorem dX19_serveTroubles_68 : decode cX19_serveTroubles 68 = .ok (.iload_n 2, 1) := by decide +kernel
theorem dX19_serveTroubles_69 : decode cX19_serveTroubles 69 = .ok (.iconst 0, 1) := by decide +kernel
theorem dX19_serveTroubles_70 : decode cX19_serveTroubles 70 = .ok (.invokevirtual 771, 3) := by decide +kernel
theorem dX19_serveTroubles_73 : decode cX19_serveTroubles 73 = .ok (.invokevirtual 774, 3) := by decide +kernel
theorem dX19_serveTroubles_76 : decode cX19_serveTroubles 76 = .ok (.iastore, 1) := by decide +kernel
theorem dX19_serveTroubles_77 : decode cX19_serveTroubles 77 = .ok (.iinc 2 1, 3) := by decide +kernel
theorem dX19_serveTroubles_80 : decode cX19_serveTroubles 80 = .ok (.goto (-53), 3) := by decide +kernel
theorem dX19_serveTroubles_83 : decode cX19_serveTroubles 83 = .ok (.aload_n 0, 1) := by decide +kernel
theorem dX19_serveTroubles_84 : decode cX19_serveTroubles 84 = .ok (.iconst 2, 1) := by decide +kernel
theorem dX19_serveTroubles_85 : decode cX19_serveTroubles 85 = .ok (.iconst 2, 1) := by decide +kernel
theorem dX19_serveTroubles_86 : decode cX19_serveTroubles 86 = .ok (.iload_n 1, 1) := by decide +kernel
theorem dX19_serveTroubles_87 : decode cX19_serveTroubles 87 = .ok (.imul, 1) := by decide +kernel
theorem dX19_serveTroubles_88 : decode cX19_serveTroubles 88 = .ok (.iadd, 1) := by decide +kernel
theorem dX19_serveTroubles_89 : decode cX19_serveTroubles 89 = .ok (.putfield 730, 3) := by decide +kernel
theorem dX19_serveTroubles_92 : decode cX19_serveTroubles 92 = .ok (.return_, 1) := by decide +kernel
theorem cwX19_serveTroubles : mw_cwV yX19_serveTroubles cX19_serveTroubles 3 (none) 0 := ⟨⟨wd_13, wd_4015, by decide +kernel⟩, wd_4014, sl_307⟩
set_option maxHeartbeats 4000000 in
set_option maxRecDepth 100000 in
theorem tX19_serveTroubles (l : Launch) (G : mwG) (ad : Nat → Nat) (fu : Nat) (M : mwM) (L : mwL) {M0 : mwM} {L0 : mwL} (hD : DX19_serveTroubles fu M L = some (M0, L0)) : Met l yX19_serveTroubles (Cond.code yX19_serveTroubles cX19_serveTroubles 3 (none) :: GT) ({ frames := 3, cells := 0, slots := 0, locals := 66 }) (mw_Pre G ad NF TF FF M L [.ref (ad 732)]) (mw_Qv G ad NF TF FF (mw_eqV M0 L0)) 0 0 (mw_fr G) := by
  refine mw_enter (by decide) (Nat.le_of_ble_eq_true rfl) ?_
  intro p e s m below meth c ls C hr hlocks hnm hw hl
  have hl : lv_has ls 3 [(0, .ref (ad 732))] := hl
  have hh27 : ∀ (f : Nat) (v1 : Int32) (v2 : Int32) (M : mwM) (L : mwL) (H : Heap) (locs : List Loc) (ls : Array Slot), fX19_serveTroubles_h27 fu f (v1, v2, M, L) = some (M0, L0) → mw_W G ad NF TF FF M L H locs → lv_has ls 3 [(0, .ref (ad 732)), (1, .int v1), (2, .int v2)] → W p l e ({ frames := 3, cells := 0, slots := 0, locals := 66 }) s m [.ref (ad 732)].toArray below meth c H locs 0 0 (MQ below (mw_Qv G ad NF TF FF (mw_eqV M0 L0)) [.ref (ad 732)].toArray s 0 0 (mw_fr G)) (F0 m 27 ls []) := by
    intro f
    induction f with
    | zero => intro v1 v2 M L H locs ls hD; cases hD
    | succ f27 ih27 =>
      intro v1 v2 M L H locs ls hD hw hl
      replace hD : fX19_serveTroubles_i27 fu (fX19_serveTroubles_h27 fu f27) v1 v2 M L = some (M0, L0) := hD
      unfold fX19_serveTroubles_i27 at hD
      refine lv_iload_n C.1.1 C.1.2.1 dX19_serveTroubles_27 rfl (lv_at hl 2 rfl) ?_
      refine lv_iload_n C.1.1 C.1.2.1 dX19_serveTroubles_28 rfl (lv_at hl 1 rfl) ?_
      refine lv_icmp_ge (tgt := 83) C.1.1 C.1.2.1 dX19_serveTroubles_29 (by decide) (fun c1 => ?_) (fun c1 => ?_)
      · replace hD := g_pos c1 hD
        refine lv_aload_n C.1.1 C.1.2.1 dX19_serveTroubles_83 rfl (lv_at hl 0 rfl) ?_
        refine lv_iconst (v := 2) C.1.1 C.1.2.1 dX19_serveTroubles_84 (by decide) ?_
        refine lv_iconst (v := 2) C.1.1 C.1.2.1 dX19_serveTroubles_85 (by decide) ?_
        refine lv_iload_n C.1.1 C.1.2.1 dX19_serveTroubles_86 rfl (lv_at hl 1 rfl) ?_
        refine lv_imul C.1.1 C.1.2.1 dX19_serveTroubles_87 ?_
        refine lv_iadd C.1.1 C.1.2.1 dX19_serveTroubles_88 ?_
        obtain ⟨M2, eM2, hD⟩ := g_let hD
        refine mr_putI C hw kc_19 102 (by decide) tf_732 wd_2883 dX19_serveTroubles_89 (by decide) rfl rfl rfl rfl (fun H locs hw => ?_)
        replace hw : mw_W G ad NF TF FF M2 L H locs := by rw [eM2]; exact hw
        exact mr_vret C hr hlocks hw (Option.some.inj hD) dX19_serveTroubles_92
      · replace hD := g_neg c1 hD
        refine lv_aload_n C.1.1 C.1.2.1 dX19_serveTroubles_32 rfl (lv_at hl 0 rfl) ?_
        refine mr_getR C hw kc_19 101 (by decide) tf_732 ff_732_101 wd_2882 dX19_serveTroubles_33 (by decide) rfl ?_
        refine lv_iconst (v := 2) C.1.1 C.1.2.1 dX19_serveTroubles_36 (by decide) ?_
        refine lv_iconst (v := 2) C.1.1 C.1.2.1 dX19_serveTroubles_37 (by decide) ?_
        refine lv_iload_n C.1.1 C.1.2.1 dX19_serveTroubles_38 rfl (lv_at hl 2 rfl) ?_
        refine lv_imul C.1.1 C.1.2.1 dX19_serveTroubles_39 ?_
        refine lv_iadd C.1.1 C.1.2.1 dX19_serveTroubles_40 ?_
        refine lv_aload_n C.1.1 C.1.2.1 dX19_serveTroubles_41 rfl (lv_at hl 0 rfl) ?_
        refine mr_getR C hw kc_19 80 (by decide) tf_732 ff_732_80 wd_2861 dX19_serveTroubles_42 (by decide) rfl ?_
        refine lv_iload_n C.1.1 C.1.2.1 dX19_serveTroubles_45 rfl (lv_at hl 2 rfl) ?_
        refine lv_iconst (v := 0) C.1.1 C.1.2.1 dX19_serveTroubles_46 (by decide) ?_
        obtain ⟨r5, M3, L4, h1, hD⟩ := g_b3 hD
        refine md_cvI (As := [.int v2, .int 0]) (rest := [.int (2 + (2 * v2)), .ref (ad 933)]) C hw (tX18_stored l G ad fu v2 0 M L h1) kc_18 (by decide) tf_902 wd_4016 cwX18_stored ⟨Nat.le_of_ble_eq_true rfl, Nat.le_of_ble_eq_true rfl⟩ rfl hl.1 (Nat.le_of_ble_eq_true rfl) dX19_serveTroubles_47 rfl rfl ⟨Nat.zero_le _, Nat.zero_le _⟩ rfl (fun H locs hw => ?_)
        obtain ⟨q6, hD⟩ := g_ck hD
        obtain ⟨M7, eM7, hD⟩ := g_let hD
        refine mr_iast C hw (by decide) tf_933 q6 dX19_serveTroubles_50 (fun H locs hw => ?_)
        replace hw : mw_W G ad NF TF FF M7 L4 H locs := by rw [eM7]; exact hw
        refine lv_aload_n C.1.1 C.1.2.1 dX19_serveTroubles_51 rfl (lv_at hl 0 rfl) ?_
        refine mr_getR C hw kc_19 101 (by decide) tf_732 ff_732_101 wd_2882 dX19_serveTroubles_52 (by decide) rfl ?_
        refine lv_iconst (v := 3) C.1.1 C.1.2.1 dX19_serveTroubles_55 (by decide) ?_
        refine lv_iconst (v := 2) C.1.1 C.1.2.1 dX19_serveTroubles_56 (by decide) ?_
        refine lv_iload_n C.1.1 C.1.2.1 dX19_serveTroubles_57 rfl (lv_at hl 2 rfl) ?_
        refine lv_imul C.1.1 C.1.2.1 dX19_serveTroubles_58 ?_
        refine lv_iadd C.1.1 C.1.2.1 dX19_serveTroubles_59 ?_
        refine lv_aload_n C.1.1 C.1.2.1 dX19_serveTroubles_60 rfl (lv_at hl 0 rfl) ?_
        refine mr_getR C hw kc_19 80 (by decide) tf_732 ff_732_80 wd_2861 dX19_serveTroubles_61 (by decide) rfl ?_
        refine lv_aload_n C.1.1 C.1.2.1 dX19_serveTroubles_64 rfl (lv_at hl 0 rfl) ?_
        refine mr_getR C hw kc_19 80 (by decide) tf_732 ff_732_80 wd_2861 dX19_serveTroubles_65 (by decide) rfl ?_
        refine lv_iload_n C.1.1 C.1.2.1 dX19_serveTroubles_68 rfl (lv_at hl 2 rfl) ?_
        refine lv_iconst (v := 0) C.1.1 C.1.2.1 dX19_serveTroubles_69 (by decide) ?_
        obtain ⟨r10, M8, L9, h1, hD⟩ := g_b3 hD
        refine md_cvI (As := [.int v2, .int 0]) (rest := [.ref (ad 902), .int (3 + (2 * v2)), .ref (ad 933)]) C hw (tX18_stored l G ad fu v2 0 M7 L4 h1) kc_18 (by decide) tf_902 wd_4016 cwX18_stored ⟨Nat.le_of_ble_eq_true rfl, Nat.le_of_ble_eq_true rfl⟩ rfl hl.1 (Nat.le_of_ble_eq_true rfl) dX19_serveTroubles_70 rfl rfl ⟨Nat.zero_le _, Nat.zero_le _⟩ rfl (fun H locs hw => ?_)
        obtain ⟨r13, M11, L12, h1, hD⟩ := g_b3 hD
        refine md_cvI (As := [.int r10]) (rest := [.int (3 + (2 * v2)), .ref (ad 933)]) C hw (tX18_status l G ad fu r10 M8 L9 h1) kc_18 (by decide) tf_902 wd_4020 cwX18_status ⟨Nat.le_of_ble_eq_true rfl, Nat.le_of_ble_eq_true rfl⟩ rfl hl.1 (Nat.le_of_ble_eq_true rfl) dX19_serveTroubles_73 rfl rfl ⟨Nat.zero_le _, Nat.zero_le _⟩ rfl (fun H locs hw => ?_)
        obtain ⟨q14, hD⟩ := g_ck hD
        obtain ⟨M15, eM15, hD⟩ := g_let hD
        refine mr_iast C hw (by decide) tf_933 q14 dX19_serveTroubles_76 (fun H locs hw => ?_)
        replace hw : mw_W G ad NF TF FF M15 L12 H locs := by rw [eM15]; exact hw
        obtain ⟨x16, ex16, hD⟩ := g_let hD
        refine lv_iinc (v := x16) (lv' := [(2, .int x16), (0, .ref (ad 732)), (1, .int v1)]) C.1.1 C.1.2.1 dX19_serveTroubles_77 hl (k := 2) rfl (by rw [ex16]; rfl) (by decide) rfl (fun ls hl => ?_)
        refine lv_goto (tgt := 27) C.1.1 C.1.2.1 dX19_serveTroubles_80 (by decide) ?_
        exact ih27 v1 x16 M15 L12 _ _ ls hD hw (lv_sub hl [1, 2, 0] rfl)
  unfold DX19_serveTroubles at hD
  refine lv_aload_n C.1.1 C.1.2.1 dX19_serveTroubles_0 rfl (lv_at hl 0 rfl) ?_
  refine mr_getR C hw kc_19 80 (by decide) tf_732 ff_732_80 wd_2861 dX19_serveTroubles_1 (by decide) rfl ?_
  refine lv_iconst (v := (-1)) C.1.1 C.1.2.1 dX19_serveTroubles_4 (by decide) ?_
  refine lv_iconst (v := 0) C.1.1 C.1.2.1 dX19_serveTroubles_5 (by decide) ?_
  obtain ⟨r19, M17, L18, h1, hD⟩ := g_b3 hD
  refine md_cvI (As := [.int ((-1)), .int 0]) (rest := []) C hw (tX18_stored l G ad fu ((-1)) 0 M L h1) kc_18 (by decide) tf_902 wd_4016 cwX18_stored ⟨Nat.le_of_ble_eq_true rfl, Nat.le_of_ble_eq_true rfl⟩ rfl hl.1 (Nat.le_of_ble_eq_true rfl) dX19_serveTroubles_6 rfl rfl ⟨Nat.zero_le _, Nat.zero_le _⟩ rfl (fun H locs hw => ?_)
  refine lv_istore_n (lv' := [(1, .int r19), (0, .ref (ad 732))]) C.1.1 C.1.2.1 dX19_serveTroubles_9 rfl hl (by decide) rfl (fun ls hl => ?_)
  refine lv_aload_n C.1.1 C.1.2.1 dX19_serveTroubles_10 rfl (lv_at hl 1 rfl) ?_
  refine mr_getR C hw kc_19 101 (by decide) tf_732 ff_732_101 wd_2882 dX19_serveTroubles_11 (by decide) rfl ?_
  refine lv_iconst (v := 0) C.1.1 C.1.2.1 dX19_serveTroubles_14 (by decide) ?_
  refine lv_bipush (v := 89) C.1.1 C.1.2.1 dX19_serveTroubles_15 (by decide) ?_
  obtain ⟨M21, eM21, hD⟩ := g_let hD
  refine mr_iast C hw (by decide) tf_933 (show vp_in 0 128 from by unfold vp_in; decide) dX19_serveTroubles_17 (fun H locs hw => ?_)
  replace hw : mw_W G ad NF TF FF M21 L18 H locs := by rw [eM21]; exact hw
  refine lv_aload_n C.1.1 C.1.2.1 dX19_serveTroubles_18 rfl (lv_at hl 1 rfl) ?_
  refine mr_getR C hw kc_19 101 (by decide) tf_732 ff_732_101 wd_2882 dX19_serveTroubles_19 (by decide) rfl ?_
  refine lv_iconst (v := 1) C.1.1 C.1.2.1 dX19_serveTroubles_22 (by decide) ?_
  refine lv_iload_n C.1.1 C.1.2.1 dX19_serveTroubles_23 rfl (lv_at hl 0 rfl) ?_
  obtain ⟨M23, eM23, hD⟩ := g_let hD
  refine mr_iast C hw (by decide) tf_933 (show vp_in 1 128 from by unfold vp_in; decide) dX19_serveTroubles_24 (fun H locs hw => ?_)
  replace hw : mw_W G ad NF TF FF M23 L18 H locs := by rw [eM23]; exact hw
  refine lv_iconst (v := 0) C.1.1 C.1.2.1 dX19_serveTroubles_25 (by decide) ?_
  refine lv_istore_n (lv' := [(2, .int 0), (1, .int r19), (0, .ref (ad 732))]) C.1.1 C.1.2.1 dX19_serveTroubles_26 rfl hl (by decide) rfl (fun ls hl => ?_)
  exact hh27 fu r19 0 M23 L18 _ _ ls hD hw (lv_sub hl [2, 1, 0] rfl)

theorem dX19_serveClear_0 : decode cX19_serveClear 0 = .ok (.aload_n 0, 1) := by decide +kernel
theorem dX19_serveClear_1 : decode cX19_serveClear 1 = .ok (.getfield 205, 3) := by decide +kernel
theorem dX19_serveClear_4 : decode cX19_serveClear 4 = .ok (.iconst 0, 1) := by decide +kernel
theorem dX19_serveClear_5 : decode cX19_serveClear 5 = .ok (.invokevirtual 777, 3) := by decide +kernel
theorem dX19_serveClear_8 : decode cX19_serveClear 8 = .ok (.istore_n 1, 1) := by decide +kernel
theorem dX19_serveClear_9 : decode cX19_serveClear 9 = .ok (.aload_n 0, 1) := by decide +kernel
theorem dX19_serveClear_10 : decode cX19_serveClear 10 = .ok (.getfield 255, 3) := by decide +kernel
theorem dX19_serveClear_13 : decode cX19_serveClear 13 = .ok (.iconst 0, 1) := by decide +kernel
theorem dX19_serveClear_14 : decode cX19_serveClear 14 = .ok (.bipush 84, 2) := by decide +kernel
theorem dX19_serveClear_16 : decode cX19_serveClear 16 = .ok (.iastore, 1) := by decide +kernel
theorem dX19_serveClear_17 : decode cX19_serveClear 17 = .ok (.aload_n 0, 1) := by decide +kernel
theorem dX19_serveClear_18 : decode cX19_serveClear 18 = .ok (.iconst 1, 1) := by decide +kernel
theorem dX19_serveClear_19 : decode cX19_serveClear 19 = .ok (.putfield 730, 3) := by decide +kernel
theorem dX19_serveClear_22 : decode cX19_serveClear 22 = .ok (.return_, 1) := by decide +kernel
theorem cwX19_serveClear : mw_cwV yX19_serveClear cX19_serveClear 2 (none) 0 := ⟨⟨wd_13, wd_4027, by decide +kernel⟩, wd_4026, sl_308⟩
set_option maxHeartbeats 4000000 in
set_option maxRecDepth 100000 in
theorem tX19_serveClear (l : Launch) (G : mwG) (ad : Nat → Nat) (fu : Nat) (M : mwM) (L : mwL) {M0 : mwM} {L0 : mwL} (hD : DX19_serveClear fu M L = some (M0, L0)) : Met l yX19_serveClear (Cond.code yX19_serveClear cX19_serveClear 2 (none) :: GT) ({ frames := 3, cells := 0, slots := 0, locals := 68 }) (mw_Pre G ad NF TF FF M L [.ref (ad 732)]) (mw_Qv G ad NF TF FF (mw_eqV M0 L0)) 0 0 (mw_fr G) := by
  refine mw_enter (by decide) (Nat.le_of_ble_eq_true rfl) ?_
  intro p e s m below meth c ls C hr hlocks hnm hw hl
  have hl : lv_has ls 2 [(0, .ref (ad 732))] := hl
  unfold DX19_serveClear at hD
  refine lv_aload_n C.1.1 C.1.2.1 dX19_serveClear_0 rfl (lv_at hl 0 rfl) ?_
  refine mr_getR C hw kc_19 80 (by decide) tf_732 ff_732_80 wd_2861 dX19_serveClear_1 (by decide) rfl ?_
  refine lv_iconst (v := 0) C.1.1 C.1.2.1 dX19_serveClear_4 (by decide) ?_
  obtain ⟨r3, M1, L2, h1, hD⟩ := g_b3 hD
  refine md_cvI (As := [.int 0]) (rest := []) C hw (tX18_clear l G ad fu 0 M L h1) kc_18 (by decide) tf_902 wd_4028 cwX18_clear ⟨Nat.le_of_ble_eq_true rfl, Nat.le_of_ble_eq_true rfl⟩ rfl hl.1 (Nat.le_of_ble_eq_true rfl) dX19_serveClear_5 rfl rfl ⟨Nat.zero_le _, Nat.zero_le _⟩ rfl (fun H locs hw => ?_)
  refine lv_istore_n (lv' := [(1, .int r3), (0, .ref (ad 732))]) C.1.1 C.1.2.1 dX19_serveClear_8 rfl hl (by decide) rfl (fun ls hl => ?_)
  refine lv_aload_n C.1.1 C.1.2.1 dX19_serveClear_9 rfl (lv_at hl 1 rfl) ?_
  refine mr_getR C hw kc_19 101 (by decide) tf_732 ff_732_101 wd_2882 dX19_serveClear_10 (by decide) rfl ?_
  refine lv_iconst (v := 0) C.1.1 C.1.2.1 dX19_serveClear_13 (by decide) ?_
  refine lv_bipush (v := 84) C.1.1 C.1.2.1 dX19_serveClear_14 (by decide) ?_
  obtain ⟨M5, eM5, hD⟩ := g_let hD
  refine mr_iast C hw (by decide) tf_933 (show vp_in 0 128 from by unfold vp_in; decide) dX19_serveClear_16 (fun H locs hw => ?_)
  replace hw : mw_W G ad NF TF FF M5 L2 H locs := by rw [eM5]; exact hw
  refine lv_aload_n C.1.1 C.1.2.1 dX19_serveClear_17 rfl (lv_at hl 1 rfl) ?_
  refine lv_iconst (v := 1) C.1.1 C.1.2.1 dX19_serveClear_18 (by decide) ?_
  obtain ⟨M6, eM6, hD⟩ := g_let hD
  refine mr_putI C hw kc_19 102 (by decide) tf_732 wd_2883 dX19_serveClear_19 (by decide) rfl rfl rfl rfl (fun H locs hw => ?_)
  replace hw : mw_W G ad NF TF FF M6 L2 H locs := by rw [eM6]; exact hw
  exact mr_vret C hr hlocks hw (Option.some.inj hD) dX19_serveClear_22

theorem dX19_serveSeed_0 : decode cX19_serveSeed 0 = .ok (.aload_n 0, 1) := by decide +kernel
theorem dX19_serveSeed_1 : decode cX19_serveSeed 1 = .ok (.getfield 258, 3) := by decide +kernel
theorem dX19_serveSeed_4 : decode cX19_serveSeed 4 = .ok (.iload_n 1, 1) := by decide +kernel
theorem dX19_serveSeed_5 : decode cX19_serveSeed 5 = .ok (.iaload, 1) := by decide +kernel
theorem dX19_serveSeed_6 : decode cX19_serveSeed 6 = .ok (.iconst 1, 1) := by decide +kernel
theorem dX19_serveSeed_7 : decode cX19_serveSeed 7 = .ok (.if_icmp .eq 13, 3) := by decide +kernel
theorem dX19_serveSeed_10 : decode cX19_serveSeed 10 = .ok (.aload_n 0, 1) := by decide +kernel
theorem dX19_serveSeed_11 : decode cX19_serveSeed 11 = .ok (.getfield 270, 3) := by decide +kernel
theorem dX19_serveSeed_14 : decode cX19_serveSeed 14 = .ok (.iload_n 1, 1) := by decide +kernel
theorem dX19_serveSeed_15 : decode cX19_serveSeed 15 = .ok (.iaload, 1) := by decide +kernel
theorem dX19_serveSeed_16 : decode cX19_serveSeed 16 = .ok (.iconst 3, 1) := by decide +kernel
theorem dX19_serveSeed_17 : decode cX19_serveSeed 17 = .ok (.if_icmp .ne 25, 3) := by decide +kernel
theorem dX19_serveSeed_20 : decode cX19_serveSeed 20 = .ok (.aload_n 0, 1) := by decide +kernel
theorem dX19_serveSeed_21 : decode cX19_serveSeed 21 = .ok (.aload_n 0, 1) := by decide +kernel
theorem dX19_serveSeed_22 : decode cX19_serveSeed 22 = .ok (.getfield 258, 3) := by decide +kernel
theorem dX19_serveSeed_25 : decode cX19_serveSeed 25 = .ok (.iload_n 1, 1) := by decide +kernel
theorem dX19_serveSeed_26 : decode cX19_serveSeed 26 = .ok (.iaload, 1) := by decide +kernel
theorem dX19_serveSeed_27 : decode cX19_serveSeed 27 = .ok (.iconst 1, 1) := by decide +kernel
theorem dX19_serveSeed_28 : decode cX19_serveSeed 28 = .ok (.if_icmp .ne 8, 3) := by decide +kernel
theorem dX19_serveSeed_31 : decode cX19_serveSeed 31 = .ok (.bipush 34, 2) := by decide +kernel
theorem dX19_serveSeed_33 : decode cX19_serveSeed 33 = .ok (.goto 5, 3) := by decide +kernel
theorem dX19_serveSeed_36 : decode cX19_serveSeed 36 = .ok (.bipush 54, 2) := by decide +kernel
theorem dX19_serveSeed_38 : decode cX19_serveSeed 38 = .ok (.invokevirtual 744, 3) := by decide +kernel
theorem dX19_serveSeed_41 : decode cX19_serveSeed 41 = .ok (.return_, 1) := by decide +kernel
theorem dX19_serveSeed_42 : decode cX19_serveSeed 42 = .ok (.aload_n 0, 1) := by decide +kernel
theorem dX19_serveSeed_43 : decode cX19_serveSeed 43 = .ok (.dup, 1) := by decide +kernel
theorem dX19_serveSeed_44 : decode cX19_serveSeed 44 = .ok (.getfield 621, 3) := by decide +kernel
theorem dX19_serveSeed_47 : decode cX19_serveSeed 47 = .ok (.iconst 1, 1) := by decide +kernel
theorem dX19_serveSeed_48 : decode cX19_serveSeed 48 = .ok (.iadd, 1) := by decide +kernel
theorem dX19_serveSeed_49 : decode cX19_serveSeed 49 = .ok (.putfield 621, 3) := by decide +kernel
theorem dX19_serveSeed_52 : decode cX19_serveSeed 52 = .ok (.aload_n 0, 1) := by decide +kernel
theorem dX19_serveSeed_53 : decode cX19_serveSeed 53 = .ok (.getfield 264, 3) := by decide +kernel
theorem dX19_serveSeed_56 : decode cX19_serveSeed 56 = .ok (.iload_n 1, 1) := by decide +kernel
theorem dX19_serveSeed_57 : decode cX19_serveSeed 57 = .ok (.iconst 1, 1) := by decide +kernel
theorem dX19_serveSeed_58 : decode cX19_serveSeed 58 = .ok (.bastore, 1) := by decide +kernel
theorem dX19_serveSeed_59 : decode cX19_serveSeed 59 = .ok (.aload_n 0, 1) := by decide +kernel
theorem dX19_serveSeed_60 : decode cX19_serveSeed 60 = .ok (.getfield 267, 3) := by decide +kernel
theorem dX19_serveSeed_63 : decode cX19_serveSeed 63 = .ok (.iload_n 1, 1) := by decide +kernel
theorem dX19_serveSeed_64 : decode cX19_serveSeed 64 = .ok (.ldc2_w 780, 3) := by decide +kernel
theorem dX19_serveSeed_67 : decode cX19_serveSeed 67 = .ok (.aload_n 0, 1) := by decide +kernel
theorem dX19_serveSeed_68 : decode cX19_serveSeed 68 = .ok (.getfield 621, 3) := by decide +kernel
theorem dX19_serveSeed_71 : decode cX19_serveSeed 71 = .ok (.i2l, 1) := by decide +kernel
theorem dX19_serveSeed_72 : decode cX19_serveSeed 72 = .ok (.lmul, 1) := by decide +kernel
theorem dX19_serveSeed_73 : decode cX19_serveSeed 73 = .ok (.ldc2_w 782, 3) := by decide +kernel
theorem dX19_serveSeed_76 : decode cX19_serveSeed 76 = .ok (.land, 1) := by decide +kernel
theorem dX19_serveSeed_77 : decode cX19_serveSeed 77 = .ok (.l2i, 1) := by decide +kernel
theorem dX19_serveSeed_78 : decode cX19_serveSeed 78 = .ok (.iastore, 1) := by decide +kernel
theorem dX19_serveSeed_79 : decode cX19_serveSeed 79 = .ok (.aload_n 0, 1) := by decide +kernel
theorem dX19_serveSeed_80 : decode cX19_serveSeed 80 = .ok (.getfield 255, 3) := by decide +kernel
theorem dX19_serveSeed_83 : decode cX19_serveSeed 83 = .ok (.iconst 0, 1) := by decide +kernel
theorem dX19_serveSeed_84 : decode cX19_serveSeed 84 = .ok (.bipush 103, 2) := by decide +kernel
theorem dX19_serveSeed_86 : decode cX19_serveSeed 86 = .ok (.iastore, 1) := by decide +kernel
theorem dX19_serveSeed_87 : decode cX19_serveSeed 87 = .ok (.aload_n 0, 1) := by decide +kernel
theorem dX19_serveSeed_88 : decode cX19_serveSeed 88 = .ok (.getfield 255, 3) := by decide +kernel
theorem dX19_serveSeed_91 : decode cX19_serveSeed 91 = .ok (.iconst 1, 1) := by decide +kernel
theorem dX19_serveSeed_92 : decode cX19_serveSeed 92 = .ok (.iconst 1, 1) := by decide +kernel
theorem dX19_serveSeed_93 : decode cX19_serveSeed 93 = .ok (.iastore, 1) := by decide +kernel
theorem dX19_serveSeed_94 : decode cX19_serveSeed 94 = .ok (.iconst 0, 1) := by decide +kernel
theorem dX19_serveSeed_95 : decode cX19_serveSeed 95 = .ok (.istore_n 2, 1) := by decide +kernel
theorem dX19_serveSeed_96 : decode cX19_serveSeed 96 = .ok (.iload_n 2, 1) := by decide +kernel
theorem dX19_serveSeed_97 : decode cX19_serveSeed 97 = .ok (.iconst 4, 1) := by decide +kernel
theorem dX19_serveSeed_98 : decode cX19_serveSeed 98 = .ok (.if_icmp .ge 34, 3) := by decide +kernel
theorem dX19_serveSeed_101 : decode cX19_serveSeed 101 = .ok (.aload_n 0, 1) := by decide +kernel
theorem dX19_serveSeed_102 : decode cX19_serveSeed 102 = .ok (.getfield 255, 3) := by decide +kernel
theorem dX19_serveSeed_105 : decode cX19_serveSeed 105 = .ok (.iconst 2, 1) := by decide +kernel
theorem dX19_serveSeed_106 : decode cX19_serveSeed 106 = .ok (.iload_n 2, 1) := by decide +kernel
theorem dX19_serveSeed_107 : decode cX19_serveSeed 107 = .ok (.iadd, 1) := by decide +kernel
theorem dX19_serveSeed_108 : decode cX19_serveSeed 108 = .ok (.aload_n 0, 1) := by decide +kernel
theorem dX19_serveSeed_109 : decode cX19_serveSeed 109 = .ok (.getfield 267, 3) := by decide +kernel
theorem dX19_serveSeed_112 : decode cX19_serveSeed 112 = .ok (.iload_n 1, 1) := by decide +kernel
theorem dX19_serveSeed_113 : decode cX19_serveSeed 113 = .ok (.iaload, 1) := by decide +kernel
theorem dX19_serveSeed_114 : decode cX19_serveSeed 114 = .ok (.bipush 8, 2) := by decide +kernel
theorem dX19_serveSeed_116 : decode cX19_serveSeed 116 = .ok (.iconst 3, 1) := by decide +kernel
theorem dX19_serveSeed_117 : decode cX19_serveSeed 117 = .ok (.iload_n 2, 1) := by decide +kernel
theorem dX19_serveSeed_118 : decode cX19_serveSeed 118 = .ok (.isub, 1) := by decide +kernel
theorem dX19_serveSeed_119 : decode cX19_serveSeed 119 = .ok (.imul, 1) := by decide +kernel
theorem dX19_serveSeed_120 : decode cX19_serveSeed 120 = .ok (.ishr, 1) := by decide +kernel
theorem dX19_serveSeed_121 : decode cX19_serveSeed 121 = .ok (.sipush 255, 3) := by decide +kernel
theorem dX19_serveSeed_124 : decode cX19_serveSeed 124 = .ok (.iand, 1) := by decide +kernel
theorem dX19_serveSeed_125 : decode cX19_serveSeed 125 = .ok (.iastore, 1) := by decide +kernel
theorem dX19_serveSeed_126 : decode cX19_serveSeed 126 = .ok (.iinc 2 1, 3) := by decide +kernel
theorem dX19_serveSeed_129 : decode cX19_serveSeed 129 = .ok (.goto (-33), 3) := by decide +kernel
theorem dX19_serveSeed_132 : decode cX19_serveSeed 132 = .ok (.aload_n 0, 1) := by decide +kernel
theorem dX19_serveSeed_133 : decode cX19_serveSeed 133 = .ok (.bipush 6, 2) := by decide +kernel
theorem dX19_serveSeed_135 : decode cX19_serveSeed 135 = .ok (.putfield 730, 3) := by decide +kernel
theorem dX19_serveSeed_138 : decode cX19_serveSeed 138 = .ok (.return_, 1) := by decide +kernel
theorem cwX19_serveSeed : mw_cwV yX19_serveSeed cX19_serveSeed 3 (none) 1 := ⟨⟨wd_13, wd_4035, by decide +kernel⟩, wd_4034, sl_309⟩
set_option maxHeartbeats 4000000 in
set_option maxRecDepth 100000 in
theorem tX19_serveSeed (l : Launch) (G : mwG) (ad : Nat → Nat) (fu : Nat) (a1 : Int32) (M : mwM) (L : mwL) {M0 : mwM} {L0 : mwL} (hD : DX19_serveSeed fu a1 M L = some (M0, L0)) : Met l yX19_serveSeed (Cond.code yX19_serveSeed cX19_serveSeed 3 (none) :: GT) ({ frames := 1, cells := 0, slots := 0, locals := 21 }) (mw_Pre G ad NF TF FF M L [.ref (ad 732), .int a1]) (mw_Qv G ad NF TF FF (mw_eqV M0 L0)) 0 0 (mw_fr G) := by
  refine mw_enter (by decide) (Nat.le_of_ble_eq_true rfl) ?_
  intro p e s m below meth c ls C hr hlocks hnm hw hl
  have hl : lv_has ls 3 [(0, .ref (ad 732)), (1, .int a1)] := hl
  have hb38 : ∀ (s1 : Int32) (M : mwM) (L : mwL) (H : Heap) (locs : List Loc) (ls : Array Slot), fX19_serveSeed_b38 fu a1 s1 M L = some (M0, L0) → mw_W G ad NF TF FF M L H locs → lv_has ls 3 [] → W p l e ({ frames := 1, cells := 0, slots := 0, locals := 21 }) s m [.ref (ad 732), .int a1].toArray below meth c H locs 0 0 (MQ below (mw_Qv G ad NF TF FF (mw_eqV M0 L0)) [.ref (ad 732), .int a1].toArray s 0 0 (mw_fr G)) (F0 m 38 ls [.int s1, .ref (ad 732)]) := by
    intro s1 M L H locs ls hD hw hl
    unfold fX19_serveSeed_b38 at hD
    obtain ⟨M3, L4, h1, hD⟩ := g_b2 hD
    refine md_cvV (As := [.int s1]) (rest := []) C hw (tX19_no l G ad fu s1 M L h1) kc_19 (by decide) tf_732 wd_3992 cwX19_no ⟨Nat.le_of_ble_eq_true rfl, Nat.le_of_ble_eq_true rfl⟩ rfl hl.1 (Nat.le_of_ble_eq_true rfl) dX19_serveSeed_38 rfl rfl ⟨Nat.zero_le _, Nat.zero_le _⟩ rfl (fun H locs hw => ?_)
    exact mr_vret C hr hlocks hw (Option.some.inj hD) dX19_serveSeed_41
  have hb20 : ∀ (M : mwM) (L : mwL) (H : Heap) (locs : List Loc) (ls : Array Slot), fX19_serveSeed_b20 fu a1 M L = some (M0, L0) → mw_W G ad NF TF FF M L H locs → lv_has ls 3 [(0, .ref (ad 732)), (1, .int a1)] → W p l e ({ frames := 1, cells := 0, slots := 0, locals := 21 }) s m [.ref (ad 732), .int a1].toArray below meth c H locs 0 0 (MQ below (mw_Qv G ad NF TF FF (mw_eqV M0 L0)) [.ref (ad 732), .int a1].toArray s 0 0 (mw_fr G)) (F0 m 20 ls []) := by
    intro M L H locs ls hD hw hl
    unfold fX19_serveSeed_b20 at hD
    refine lv_aload_n C.1.1 C.1.2.1 dX19_serveSeed_20 rfl (lv_at hl 0 rfl) ?_
    refine lv_aload_n C.1.1 C.1.2.1 dX19_serveSeed_21 rfl (lv_at hl 0 rfl) ?_
    refine mr_getR C hw kc_19 103 (by decide) tf_732 ff_732_103 wd_2884 dX19_serveSeed_22 (by decide) rfl ?_
    refine lv_iload_n C.1.1 C.1.2.1 dX19_serveSeed_25 rfl (lv_at hl 1 rfl) ?_
    obtain ⟨q1, hD⟩ := g_ck hD
    refine mr_iald C hw (by decide) tf_934 q1 dX19_serveSeed_26 ?_
    refine lv_iconst (v := 1) C.1.1 C.1.2.1 dX19_serveSeed_27 (by decide) ?_
    refine lv_icmp_ne (tgt := 36) C.1.1 C.1.2.1 dX19_serveSeed_28 (by decide) (fun c2 => ?_) (fun c2 => ?_)
    · replace hD := g_neg c2 hD
      refine lv_bipush (v := 54) C.1.1 C.1.2.1 dX19_serveSeed_36 (by decide) ?_
      exact hb38 54 M L _ _ ls hD hw (lv_sub hl [] rfl)
    · replace hD := g_pos c2 hD
      refine lv_bipush (v := 34) C.1.1 C.1.2.1 dX19_serveSeed_31 (by decide) ?_
      refine lv_goto (tgt := 38) C.1.1 C.1.2.1 dX19_serveSeed_33 (by decide) ?_
      exact hb38 34 M L _ _ ls hD hw (lv_sub hl [] rfl)
  have hh96 : ∀ (f : Nat) (v2 : Int32) (M : mwM) (L : mwL) (H : Heap) (locs : List Loc) (ls : Array Slot), fX19_serveSeed_h96 fu a1 f (v2, M, L) = some (M0, L0) → mw_W G ad NF TF FF M L H locs → lv_has ls 3 [(0, .ref (ad 732)), (1, .int a1), (2, .int v2)] → W p l e ({ frames := 1, cells := 0, slots := 0, locals := 21 }) s m [.ref (ad 732), .int a1].toArray below meth c H locs 0 0 (MQ below (mw_Qv G ad NF TF FF (mw_eqV M0 L0)) [.ref (ad 732), .int a1].toArray s 0 0 (mw_fr G)) (F0 m 96 ls []) := by
    intro f
    induction f with
    | zero => intro v2 M L H locs ls hD; cases hD
    | succ f96 ih96 =>
      intro v2 M L H locs ls hD hw hl
      replace hD : fX19_serveSeed_i96 fu a1 (fX19_serveSeed_h96 fu a1 f96) v2 M L = some (M0, L0) := hD
      unfold fX19_serveSeed_i96 at hD
      refine lv_iload_n C.1.1 C.1.2.1 dX19_serveSeed_96 rfl (lv_at hl 2 rfl) ?_
      refine lv_iconst (v := 4) C.1.1 C.1.2.1 dX19_serveSeed_97 (by decide) ?_
      refine lv_icmp_ge (tgt := 132) C.1.1 C.1.2.1 dX19_serveSeed_98 (by decide) (fun c5 => ?_) (fun c5 => ?_)
      · replace hD := g_pos c5 hD
        refine lv_aload_n C.1.1 C.1.2.1 dX19_serveSeed_132 rfl (lv_at hl 0 rfl) ?_
        refine lv_bipush (v := 6) C.1.1 C.1.2.1 dX19_serveSeed_133 (by decide) ?_
        obtain ⟨M6, eM6, hD⟩ := g_let hD
        refine mr_putI C hw kc_19 102 (by decide) tf_732 wd_2883 dX19_serveSeed_135 (by decide) rfl rfl rfl rfl (fun H locs hw => ?_)
        replace hw : mw_W G ad NF TF FF M6 L H locs := by rw [eM6]; exact hw
        exact mr_vret C hr hlocks hw (Option.some.inj hD) dX19_serveSeed_138
      · replace hD := g_neg c5 hD
        refine lv_aload_n C.1.1 C.1.2.1 dX19_serveSeed_101 rfl (lv_at hl 0 rfl) ?_
        refine mr_getR C hw kc_19 101 (by decide) tf_732 ff_732_101 wd_2882 dX19_serveSeed_102 (by decide) rfl ?_
        refine lv_iconst (v := 2) C.1.1 C.1.2.1 dX19_serveSeed_105 (by decide) ?_
        refine lv_iload_n C.1.1 C.1.2.1 dX19_serveSeed_106 rfl (lv_at hl 2 rfl) ?_
        refine lv_iadd C.1.1 C.1.2.1 dX19_serveSeed_107 ?_
        refine lv_aload_n C.1.1 C.1.2.1 dX19_serveSeed_108 rfl (lv_at hl 0 rfl) ?_
        refine mr_getR C hw kc_19 106 (by decide) tf_732 ff_732_106 wd_2887 dX19_serveSeed_109 (by decide) rfl ?_
        refine lv_iload_n C.1.1 C.1.2.1 dX19_serveSeed_112 rfl (lv_at hl 1 rfl) ?_
        obtain ⟨q7, hD⟩ := g_ck hD
        refine mr_iald C hw (by decide) tf_937 q7 dX19_serveSeed_113 ?_
        refine lv_bipush (v := 8) C.1.1 C.1.2.1 dX19_serveSeed_114 (by decide) ?_
        refine lv_iconst (v := 3) C.1.1 C.1.2.1 dX19_serveSeed_116 (by decide) ?_
        refine lv_iload_n C.1.1 C.1.2.1 dX19_serveSeed_117 rfl (lv_at hl 2 rfl) ?_
        refine lv_isub C.1.1 C.1.2.1 dX19_serveSeed_118 ?_
        refine lv_imul C.1.1 C.1.2.1 dX19_serveSeed_119 ?_
        refine lv_ishr C.1.1 C.1.2.1 dX19_serveSeed_120 ?_
        refine lv_sipush (v := 255) C.1.1 C.1.2.1 dX19_serveSeed_121 (by decide) ?_
        refine lv_iand C.1.1 C.1.2.1 dX19_serveSeed_124 ?_
        obtain ⟨q8, hD⟩ := g_ck hD
        obtain ⟨M9, eM9, hD⟩ := g_let hD
        refine mr_iast C hw (by decide) tf_933 q8 dX19_serveSeed_125 (fun H locs hw => ?_)
        replace hw : mw_W G ad NF TF FF M9 L H locs := by rw [eM9]; exact hw
        obtain ⟨x10, ex10, hD⟩ := g_let hD
        refine lv_iinc (v := x10) (lv' := [(2, .int x10), (0, .ref (ad 732)), (1, .int a1)]) C.1.1 C.1.2.1 dX19_serveSeed_126 hl (k := 2) rfl (by rw [ex10]; rfl) (by decide) rfl (fun ls hl => ?_)
        refine lv_goto (tgt := 96) C.1.1 C.1.2.1 dX19_serveSeed_129 (by decide) ?_
        exact ih96 x10 M9 L _ _ ls hD hw (lv_sub hl [1, 2, 0] rfl)
  unfold DX19_serveSeed at hD
  refine lv_aload_n C.1.1 C.1.2.1 dX19_serveSeed_0 rfl (lv_at hl 0 rfl) ?_
  refine mr_getR C hw kc_19 103 (by decide) tf_732 ff_732_103 wd_2884 dX19_serveSeed_1 (by decide) rfl ?_
  refine lv_iload_n C.1.1 C.1.2.1 dX19_serveSeed_4 rfl (lv_at hl 1 rfl) ?_
  obtain ⟨q11, hD⟩ := g_ck hD
  refine mr_iald C hw (by decide) tf_934 q11 dX19_serveSeed_5 ?_
  refine lv_iconst (v := 1) C.1.1 C.1.2.1 dX19_serveSeed_6 (by decide) ?_
  refine lv_icmp_eq (tgt := 20) C.1.1 C.1.2.1 dX19_serveSeed_7 (by decide) (fun c12 => ?_) (fun c12 => ?_)
  · replace hD := g_pos c12 hD
    exact hb20 M L _ _ ls hD hw (lv_sub hl [0, 1] rfl)
  · replace hD := g_neg c12 hD
    refine lv_aload_n C.1.1 C.1.2.1 dX19_serveSeed_10 rfl (lv_at hl 0 rfl) ?_
    refine mr_getR C hw kc_19 107 (by decide) tf_732 ff_732_107 wd_2888 dX19_serveSeed_11 (by decide) rfl ?_
    refine lv_iload_n C.1.1 C.1.2.1 dX19_serveSeed_14 rfl (lv_at hl 1 rfl) ?_
    obtain ⟨q13, hD⟩ := g_ck hD
    refine mr_iald C hw (by decide) tf_938 q13 dX19_serveSeed_15 ?_
    refine lv_iconst (v := 3) C.1.1 C.1.2.1 dX19_serveSeed_16 (by decide) ?_
    refine lv_icmp_ne (tgt := 42) C.1.1 C.1.2.1 dX19_serveSeed_17 (by decide) (fun c14 => ?_) (fun c14 => ?_)
    · replace hD := g_neg c14 hD
      refine lv_aload_n C.1.1 C.1.2.1 dX19_serveSeed_42 rfl (lv_at hl 0 rfl) ?_
      refine lv_dup C.1.1 C.1.2.1 dX19_serveSeed_43 rfl ?_
      refine mr_getI C hw kc_19 108 (by decide) tf_732 wd_2889 dX19_serveSeed_44 (by decide) rfl ?_
      refine lv_iconst (v := 1) C.1.1 C.1.2.1 dX19_serveSeed_47 (by decide) ?_
      refine lv_iadd C.1.1 C.1.2.1 dX19_serveSeed_48 ?_
      obtain ⟨M15, eM15, hD⟩ := g_let hD
      refine mr_putI C hw kc_19 108 (by decide) tf_732 wd_2889 dX19_serveSeed_49 (by decide) rfl rfl rfl rfl (fun H locs hw => ?_)
      replace hw : mw_W G ad NF TF FF M15 L H locs := by rw [eM15]; exact hw
      refine lv_aload_n C.1.1 C.1.2.1 dX19_serveSeed_52 rfl (lv_at hl 0 rfl) ?_
      refine mr_getR C hw kc_19 105 (by decide) tf_732 ff_732_105 wd_2886 dX19_serveSeed_53 (by decide) rfl ?_
      refine lv_iload_n C.1.1 C.1.2.1 dX19_serveSeed_56 rfl (lv_at hl 1 rfl) ?_
      refine lv_iconst (v := 1) C.1.1 C.1.2.1 dX19_serveSeed_57 (by decide) ?_
      obtain ⟨q16, hD⟩ := g_ck hD
      obtain ⟨M17, eM17, hD⟩ := g_let hD
      refine mr_zast C hw (by decide) tf_936 q16 dX19_serveSeed_58 (fun H locs hw => ?_)
      replace hw : mw_W G ad NF TF FF M17 L H locs := by rw [eM17]; exact hw
      refine lv_aload_n C.1.1 C.1.2.1 dX19_serveSeed_59 rfl (lv_at hl 0 rfl) ?_
      refine mr_getR C hw kc_19 106 (by decide) tf_732 ff_732_106 wd_2887 dX19_serveSeed_60 (by decide) rfl ?_
      refine lv_iload_n C.1.1 C.1.2.1 dX19_serveSeed_63 rfl (lv_at hl 1 rfl) ?_
      refine lv_ldc2 (v := 2654435761) C.1.1 C.1.2.1 C.1.2.2.2.1 (C.1.2.2.2.2 _ wd_4036) dX19_serveSeed_64 ?_
      refine lv_aload_n C.1.1 C.1.2.1 dX19_serveSeed_67 rfl (lv_at hl 0 rfl) ?_
      refine mr_getI C hw kc_19 108 (by decide) tf_732 wd_2889 dX19_serveSeed_68 (by decide) rfl ?_
      refine lv_i2l C.1.1 C.1.2.1 dX19_serveSeed_71 rfl ?_
      refine lv_lmul C.1.1 C.1.2.1 dX19_serveSeed_72 ?_
      refine lv_ldc2 (v := 4294967295) C.1.1 C.1.2.1 C.1.2.2.2.1 (C.1.2.2.2.2 _ wd_4037) dX19_serveSeed_73 ?_
      refine lv_land C.1.1 C.1.2.1 dX19_serveSeed_76 ?_
      refine lv_l2i C.1.1 C.1.2.1 dX19_serveSeed_77 rfl ?_
      obtain ⟨q18, hD⟩ := g_ck hD
      obtain ⟨M19, eM19, hD⟩ := g_let hD
      refine mr_iast C hw (by decide) tf_937 q18 dX19_serveSeed_78 (fun H locs hw => ?_)
      replace hw : mw_W G ad NF TF FF M19 L H locs := by rw [eM19]; exact hw
      refine lv_aload_n C.1.1 C.1.2.1 dX19_serveSeed_79 rfl (lv_at hl 0 rfl) ?_
      refine mr_getR C hw kc_19 101 (by decide) tf_732 ff_732_101 wd_2882 dX19_serveSeed_80 (by decide) rfl ?_
      refine lv_iconst (v := 0) C.1.1 C.1.2.1 dX19_serveSeed_83 (by decide) ?_
      refine lv_bipush (v := 103) C.1.1 C.1.2.1 dX19_serveSeed_84 (by decide) ?_
      obtain ⟨M21, eM21, hD⟩ := g_let hD
      refine mr_iast C hw (by decide) tf_933 (show vp_in 0 128 from by unfold vp_in; decide) dX19_serveSeed_86 (fun H locs hw => ?_)
      replace hw : mw_W G ad NF TF FF M21 L H locs := by rw [eM21]; exact hw
      refine lv_aload_n C.1.1 C.1.2.1 dX19_serveSeed_87 rfl (lv_at hl 0 rfl) ?_
      refine mr_getR C hw kc_19 101 (by decide) tf_732 ff_732_101 wd_2882 dX19_serveSeed_88 (by decide) rfl ?_
      refine lv_iconst (v := 1) C.1.1 C.1.2.1 dX19_serveSeed_91 (by decide) ?_
      refine lv_iconst (v := 1) C.1.1 C.1.2.1 dX19_serveSeed_92 (by decide) ?_
      obtain ⟨M23, eM23, hD⟩ := g_let hD
      refine mr_iast C hw (by decide) tf_933 (show vp_in 1 128 from by unfold vp_in; decide) dX19_serveSeed_93 (fun H locs hw => ?_)
      replace hw : mw_W G ad NF TF FF M23 L H locs := by rw [eM23]; exact hw
      refine lv_iconst (v := 0) C.1.1 C.1.2.1 dX19_serveSeed_94 (by decide) ?_
      refine lv_istore_n (lv' := [(2, .int 0), (0, .ref (ad 732)), (1, .int a1)]) C.1.1 C.1.2.1 dX19_serveSeed_95 rfl hl (by decide) rfl (fun ls hl => ?_)
      exact hh96 fu 0 M23 L _ _ ls hD hw (lv_sub hl [1, 2, 0] rfl)
    · replace hD := g_pos c14 hD
      exact hb20 M L _ _ ls hD hw (lv_sub hl [0, 1] rfl)

theorem dX19_serveKey_0 : decode cX19_serveKey 0 = .ok (.aload_n 0, 1) := by decide +kernel
theorem dX19_serveKey_1 : decode cX19_serveKey 1 = .ok (.getfield 270, 3) := by decide +kernel
theorem dX19_serveKey_4 : decode cX19_serveKey 4 = .ok (.iload_n 1, 1) := by decide +kernel
theorem dX19_serveKey_5 : decode cX19_serveKey 5 = .ok (.iaload, 1) := by decide +kernel
theorem dX19_serveKey_6 : decode cX19_serveKey 6 = .ok (.iconst 3, 1) := by decide +kernel
theorem dX19_serveKey_7 : decode cX19_serveKey 7 = .ok (.if_icmp .eq 12, 3) := by decide +kernel
theorem dX19_serveKey_10 : decode cX19_serveKey 10 = .ok (.aload_n 0, 1) := by decide +kernel
theorem dX19_serveKey_11 : decode cX19_serveKey 11 = .ok (.getfield 264, 3) := by decide +kernel
theorem dX19_serveKey_14 : decode cX19_serveKey 14 = .ok (.iload_n 1, 1) := by decide +kernel
theorem dX19_serveKey_15 : decode cX19_serveKey 15 = .ok (.baload, 1) := by decide +kernel
theorem dX19_serveKey_16 : decode cX19_serveKey 16 = .ok (.ifCond .ne 25, 3) := by decide +kernel
theorem dX19_serveKey_19 : decode cX19_serveKey 19 = .ok (.aload_n 0, 1) := by decide +kernel
theorem dX19_serveKey_20 : decode cX19_serveKey 20 = .ok (.aload_n 0, 1) := by decide +kernel
theorem dX19_serveKey_21 : decode cX19_serveKey 21 = .ok (.getfield 270, 3) := by decide +kernel
theorem dX19_serveKey_24 : decode cX19_serveKey 24 = .ok (.iload_n 1, 1) := by decide +kernel
theorem dX19_serveKey_25 : decode cX19_serveKey 25 = .ok (.iaload, 1) := by decide +kernel
theorem dX19_serveKey_26 : decode cX19_serveKey 26 = .ok (.iconst 3, 1) := by decide +kernel
theorem dX19_serveKey_27 : decode cX19_serveKey 27 = .ok (.if_icmp .ne 8, 3) := by decide +kernel
theorem dX19_serveKey_30 : decode cX19_serveKey 30 = .ok (.bipush 54, 2) := by decide +kernel
theorem dX19_serveKey_32 : decode cX19_serveKey 32 = .ok (.goto 5, 3) := by decide +kernel
theorem dX19_serveKey_35 : decode cX19_serveKey 35 = .ok (.bipush 36, 2) := by decide +kernel
theorem dX19_serveKey_37 : decode cX19_serveKey 37 = .ok (.invokevirtual 744, 3) := by decide +kernel
theorem dX19_serveKey_40 : decode cX19_serveKey 40 = .ok (.return_, 1) := by decide +kernel
theorem dX19_serveKey_41 : decode cX19_serveKey 41 = .ok (.aload_n 0, 1) := by decide +kernel
theorem dX19_serveKey_42 : decode cX19_serveKey 42 = .ok (.getfield 264, 3) := by decide +kernel
theorem dX19_serveKey_45 : decode cX19_serveKey 45 = .ok (.iload_n 1, 1) := by decide +kernel
theorem dX19_serveKey_46 : decode cX19_serveKey 46 = .ok (.iconst 0, 1) := by decide +kernel
theorem dX19_serveKey_47 : decode cX19_serveKey 47 = .ok (.bastore, 1) := by decide +kernel
theorem dX19_serveKey_48 : decode cX19_serveKey 48 = .ok (.iconst 0, 1) := by decide +kernel
theorem dX19_serveKey_49 : decode cX19_serveKey 49 = .ok (.istore_n 2, 1) := by decide +kernel
theorem dX19_serveKey_50 : decode cX19_serveKey 50 = .ok (.iload_n 2, 1) := by decide +kernel
theorem dX19_serveKey_51 : decode cX19_serveKey 51 = .ok (.iconst 4, 1) := by decide +kernel
theorem dX19_serveKey_52 : decode cX19_serveKey 52 = .ok (.if_icmp .ge 30, 3) := by decide +kernel
theorem dX19_serveKey_55 : decode cX19_serveKey 55 = .ok (.aload_n 0, 1) := by decide +kernel
theorem dX19_serveKey_56 : decode cX19_serveKey 56 = .ok (.getfield 191, 3) := by decide +kernel
theorem dX19_serveKey_59 : decode cX19_serveKey 59 = .ok (.aload_n 0, 1) := by decide +kernel
theorem dX19_serveKey_60 : decode cX19_serveKey 60 = .ok (.getfield 267, 3) := by decide +kernel
theorem dX19_serveKey_63 : decode cX19_serveKey 63 = .ok (.iload_n 1, 1) := by decide +kernel
theorem dX19_serveKey_64 : decode cX19_serveKey 64 = .ok (.iaload, 1) := by decide +kernel
theorem dX19_serveKey_65 : decode cX19_serveKey 65 = .ok (.bipush 8, 2) := by decide +kernel
theorem dX19_serveKey_67 : decode cX19_serveKey 67 = .ok (.iconst 3, 1) := by decide +kernel
theorem dX19_serveKey_68 : decode cX19_serveKey 68 = .ok (.iload_n 2, 1) := by decide +kernel
theorem dX19_serveKey_69 : decode cX19_serveKey 69 = .ok (.isub, 1) := by decide +kernel
theorem dX19_serveKey_70 : decode cX19_serveKey 70 = .ok (.imul, 1) := by decide +kernel
theorem dX19_serveKey_71 : decode cX19_serveKey 71 = .ok (.ishr, 1) := by decide +kernel
theorem dX19_serveKey_72 : decode cX19_serveKey 72 = .ok (.i2b, 1) := by decide +kernel
theorem dX19_serveKey_73 : decode cX19_serveKey 73 = .ok (.invokevirtual 656, 3) := by decide +kernel
theorem dX19_serveKey_76 : decode cX19_serveKey 76 = .ok (.iinc 2 1, 3) := by decide +kernel
theorem dX19_serveKey_79 : decode cX19_serveKey 79 = .ok (.goto (-29), 3) := by decide +kernel
theorem dX19_serveKey_82 : decode cX19_serveKey 82 = .ok (.aload_n 0, 1) := by decide +kernel
theorem dX19_serveKey_83 : decode cX19_serveKey 83 = .ok (.getfield 191, 3) := by decide +kernel
theorem dX19_serveKey_86 : decode cX19_serveKey 86 = .ok (.bipush 16, 2) := by decide +kernel
theorem dX19_serveKey_88 : decode cX19_serveKey 88 = .ok (.bipush 32, 2) := by decide +kernel
theorem dX19_serveKey_90 : decode cX19_serveKey 90 = .ok (.invokevirtual 659, 3) := by decide +kernel
theorem dX19_serveKey_93 : decode cX19_serveKey 93 = .ok (.istore_n 2, 1) := by decide +kernel
theorem dX19_serveKey_94 : decode cX19_serveKey 94 = .ok (.aload_n 0, 1) := by decide +kernel
theorem dX19_serveKey_95 : decode cX19_serveKey 95 = .ok (.getfield 261, 3) := by decide +kernel
theorem dX19_serveKey_98 : decode cX19_serveKey 98 = .ok (.iload_n 1, 1) := by decide +kernel
theorem dX19_serveKey_99 : decode cX19_serveKey 99 = .ok (.iconst 1, 1) := by decide +kernel
theorem dX19_serveKey_100 : decode cX19_serveKey 100 = .ok (.bastore, 1) := by decide +kernel
theorem dX19_serveKey_101 : decode cX19_serveKey 101 = .ok (.iconst 0, 1) := by decide +kernel
theorem dX19_serveKey_102 : decode cX19_serveKey 102 = .ok (.istore_n 3, 1) := by decide +kernel
theorem dX19_serveKey_103 : decode cX19_serveKey 103 = .ok (.iload_n 3, 1) := by decide +kernel
theorem dX19_serveKey_104 : decode cX19_serveKey 104 = .ok (.iconst 4, 1) := by decide +kernel
theorem dX19_serveKey_105 : decode cX19_serveKey 105 = .ok (.if_icmp .ge 52, 3) := by decide +kernel
theorem dX19_serveKey_108 : decode cX19_serveKey 108 = .ok (.aload_n 0, 1) := by decide +kernel
theorem dX19_serveKey_109 : decode cX19_serveKey 109 = .ok (.getfield 261, 3) := by decide +kernel
theorem dX19_serveKey_112 : decode cX19_serveKey 112 = .ok (.iload_n 1, 1) := by decide +kernel
theorem dX19_serveKey_113 : decode cX19_serveKey 113 = .ok (.aload_n 0, 1) := by decide +kernel
theorem dX19_serveKey_114 : decode cX19_serveKey 114 = .ok (.getfield 261, 3) := by decide +kernel
theorem dX19_serveKey_117 : decode cX19_serveKey 117 = .ok (.iload_n 1, 1) := by decide +kernel
theorem dX19_serveKey_118 : decode cX19_serveKey 118 = .ok (.baload, 1) := by decide +kernel
theorem dX19_serveKey_119 : decode cX19_serveKey 119 = .ok (.ifCond .eq 30, 3) := by decide +kernel
theorem dX19_serveKey_122 : decode cX19_serveKey 122 = .ok (.aload_n 0, 1) := by decide +kernel
theorem dX19_serveKey_123 : decode cX19_serveKey 123 = .ok (.getfield 191, 3) := by decide +kernel
theorem dX19_serveKey_126 : decode cX19_serveKey 126 = .ok (.iload_n 3, 1) := by decide +kernel
theorem dX19_serveKey_127 : decode cX19_serveKey 127 = .ok (.invokevirtual 675, 3) := by decide +kernel
theorem dX19_serveKey_130 : decode cX19_serveKey 130 = .ok (.sipush 255, 3) := by decide +kernel
theorem dX19_serveKey_133 : decode cX19_serveKey 133 = .ok (.iand, 1) := by decide +kernel
theorem dX19_serveKey_134 : decode cX19_serveKey 134 = .ok (.aload_n 0, 1) := by decide +kernel
theorem dX19_serveKey_135 : decode cX19_serveKey 135 = .ok (.getfield 252, 3) := by decide +kernel
theorem dX19_serveKey_138 : decode cX19_serveKey 138 = .ok (.iconst 2, 1) := by decide +kernel
theorem dX19_serveKey_139 : decode cX19_serveKey 139 = .ok (.iload_n 3, 1) := by decide +kernel
theorem dX19_serveKey_140 : decode cX19_serveKey 140 = .ok (.iadd, 1) := by decide +kernel
theorem dX19_serveKey_141 : decode cX19_serveKey 141 = .ok (.iaload, 1) := by decide +kernel
theorem dX19_serveKey_142 : decode cX19_serveKey 142 = .ok (.if_icmp .ne 7, 3) := by decide +kernel
theorem dX19_serveKey_145 : decode cX19_serveKey 145 = .ok (.iconst 1, 1) := by decide +kernel
theorem dX19_serveKey_146 : decode cX19_serveKey 146 = .ok (.goto 4, 3) := by decide +kernel
theorem dX19_serveKey_149 : decode cX19_serveKey 149 = .ok (.iconst 0, 1) := by decide +kernel
theorem dX19_serveKey_150 : decode cX19_serveKey 150 = .ok (.bastore, 1) := by decide +kernel
theorem dX19_serveKey_151 : decode cX19_serveKey 151 = .ok (.iinc 3 1, 3) := by decide +kernel
theorem dX19_serveKey_154 : decode cX19_serveKey 154 = .ok (.goto (-51), 3) := by decide +kernel
theorem dX19_serveKey_157 : decode cX19_serveKey 157 = .ok (.aload_n 0, 1) := by decide +kernel
theorem dX19_serveKey_158 : decode cX19_serveKey 158 = .ok (.getfield 261, 3) := by decide +kernel
theorem dX19_serveKey_161 : decode cX19_serveKey 161 = .ok (.iload_n 1, 1) := by decide +kernel
theorem dX19_serveKey_162 : decode cX19_serveKey 162 = .ok (.baload, 1) := by decide +kernel
theorem dX19_serveKey_163 : decode cX19_serveKey 163 = .ok (.ifCond .eq 24, 3) := by decide +kernel
theorem dX19_serveKey_166 : decode cX19_serveKey 166 = .ok (.aload_n 0, 1) := by decide +kernel
theorem dX19_serveKey_167 : decode cX19_serveKey 167 = .ok (.getfield 255, 3) := by decide +kernel
theorem dX19_serveKey_170 : decode cX19_serveKey 170 = .ok (.iconst 0, 1) := by decide +kernel
theorem dX19_serveKey_171 : decode cX19_serveKey 171 = .ok (.bipush 103, 2) := by decide +kernel
theorem dX19_serveKey_173 : decode cX19_serveKey 173 = .ok (.iastore, 1) := by decide +kernel
theorem dX19_serveKey_174 : decode cX19_serveKey 174 = .ok (.aload_n 0, 1) := by decide +kernel
theorem dX19_serveKey_175 : decode cX19_serveKey 175 = .ok (.getfield 255, 3) := by decide +kernel
theorem dX19_serveKey_178 : decode cX19_serveKey 178 = .ok (.iconst 1, 1) := by decide +kernel
theorem dX19_serveKey_179 : decode cX19_serveKey 179 = .ok (.iconst 2, 1) := by decide +kernel
theorem dX19_serveKey_180 : decode cX19_serveKey 180 = .ok (.iastore, 1) := by decide +kernel
theorem dX19_serveKey_181 : decode cX19_serveKey 181 = .ok (.aload_n 0, 1) := by decide +kernel
theorem dX19_serveKey_182 : decode cX19_serveKey 182 = .ok (.iconst 2, 1) := by decide +kernel
theorem dX19_serveKey_183 : decode cX19_serveKey 183 = .ok (.putfield 730, 3) := by decide +kernel
theorem dX19_serveKey_186 : decode cX19_serveKey 186 = .ok (.return_, 1) := by decide +kernel
theorem dX19_serveKey_187 : decode cX19_serveKey 187 = .ok (.aload_n 0, 1) := by decide +kernel
theorem dX19_serveKey_188 : decode cX19_serveKey 188 = .ok (.getfield 270, 3) := by decide +kernel
theorem dX19_serveKey_191 : decode cX19_serveKey 191 = .ok (.iload_n 1, 1) := by decide +kernel
theorem dX19_serveKey_192 : decode cX19_serveKey 192 = .ok (.dup2, 1) := by decide +kernel
theorem dX19_serveKey_193 : decode cX19_serveKey 193 = .ok (.iaload, 1) := by decide +kernel
theorem dX19_serveKey_194 : decode cX19_serveKey 194 = .ok (.iconst 1, 1) := by decide +kernel
theorem dX19_serveKey_195 : decode cX19_serveKey 195 = .ok (.iadd, 1) := by decide +kernel
theorem dX19_serveKey_196 : decode cX19_serveKey 196 = .ok (.iastore, 1) := by decide +kernel
theorem dX19_serveKey_197 : decode cX19_serveKey 197 = .ok (.aload_n 0, 1) := by decide +kernel
theorem dX19_serveKey_198 : decode cX19_serveKey 198 = .ok (.aload_n 0, 1) := by decide +kernel
theorem dX19_serveKey_199 : decode cX19_serveKey 199 = .ok (.getfield 270, 3) := by decide +kernel
theorem dX19_serveKey_202 : decode cX19_serveKey 202 = .ok (.iload_n 1, 1) := by decide +kernel
theorem dX19_serveKey_203 : decode cX19_serveKey 203 = .ok (.iaload, 1) := by decide +kernel
theorem dX19_serveKey_204 : decode cX19_serveKey 204 = .ok (.iconst 3, 1) := by decide +kernel
theorem dX19_serveKey_205 : decode cX19_serveKey 205 = .ok (.if_icmp .ne 8, 3) := by decide +kernel
theorem dX19_serveKey_208 : decode cX19_serveKey 208 = .ok (.bipush 54, 2) := by decide +kernel
theorem dX19_serveKey_210 : decode cX19_serveKey 210 = .ok (.goto 5, 3) := by decide +kernel
theorem dX19_serveKey_213 : decode cX19_serveKey 213 = .ok (.bipush 53, 2) := by decide +kernel
theorem dX19_serveKey_215 : decode cX19_serveKey 215 = .ok (.invokevirtual 744, 3) := by decide +kernel
theorem dX19_serveKey_218 : decode cX19_serveKey 218 = .ok (.return_, 1) := by decide +kernel
theorem cwX19_serveKey : mw_cwV yX19_serveKey cX19_serveKey 4 (none) 1 := ⟨⟨wd_13, wd_4041, by decide +kernel⟩, wd_4040, sl_310⟩
set_option maxHeartbeats 4000000 in
set_option maxRecDepth 100000 in
theorem tX19_serveKey (l : Launch) (G : mwG) (ad : Nat → Nat) (fu : Nat) (a1 : Int32) (M : mwM) (L : mwL) {M0 : mwM} {L0 : mwL} (hD : DX19_serveKey fu a1 M L = some (M0, L0)) : Met l yX19_serveKey (Cond.code yX19_serveKey cX19_serveKey 4 (none) :: GT) ({ frames := 5, cells := 0, slots := 0, locals := 126 }) (mw_Pre G ad NF TF FF M L [.ref (ad 732), .int a1]) (mw_Qv G ad NF TF FF (mw_eqV M0 L0)) 0 0 (mw_fr G) := by
  refine mw_enter (by decide) (Nat.le_of_ble_eq_true rfl) ?_
  intro p e s m below meth c ls C hr hlocks hnm hw hl
  have hl : lv_has ls 4 [(0, .ref (ad 732)), (1, .int a1)] := hl
  have hb37 : ∀ (s1 : Int32) (M : mwM) (L : mwL) (H : Heap) (locs : List Loc) (ls : Array Slot), fX19_serveKey_b37 fu a1 s1 M L = some (M0, L0) → mw_W G ad NF TF FF M L H locs → lv_has ls 4 [] → W p l e ({ frames := 5, cells := 0, slots := 0, locals := 126 }) s m [.ref (ad 732), .int a1].toArray below meth c H locs 0 0 (MQ below (mw_Qv G ad NF TF FF (mw_eqV M0 L0)) [.ref (ad 732), .int a1].toArray s 0 0 (mw_fr G)) (F0 m 37 ls [.int s1, .ref (ad 732)]) := by
    intro s1 M L H locs ls hD hw hl
    unfold fX19_serveKey_b37 at hD
    obtain ⟨M3, L4, h1, hD⟩ := g_b2 hD
    refine md_cvV (As := [.int s1]) (rest := []) C hw (tX19_no l G ad fu s1 M L h1) kc_19 (by decide) tf_732 wd_3992 cwX19_no ⟨Nat.le_of_ble_eq_true rfl, Nat.le_of_ble_eq_true rfl⟩ rfl hl.1 (Nat.le_of_ble_eq_true rfl) dX19_serveKey_37 rfl rfl ⟨Nat.zero_le _, Nat.zero_le _⟩ rfl (fun H locs hw => ?_)
    exact mr_vret C hr hlocks hw (Option.some.inj hD) dX19_serveKey_40
  have hb19 : ∀ (M : mwM) (L : mwL) (H : Heap) (locs : List Loc) (ls : Array Slot), fX19_serveKey_b19 fu a1 M L = some (M0, L0) → mw_W G ad NF TF FF M L H locs → lv_has ls 4 [(0, .ref (ad 732)), (1, .int a1)] → W p l e ({ frames := 5, cells := 0, slots := 0, locals := 126 }) s m [.ref (ad 732), .int a1].toArray below meth c H locs 0 0 (MQ below (mw_Qv G ad NF TF FF (mw_eqV M0 L0)) [.ref (ad 732), .int a1].toArray s 0 0 (mw_fr G)) (F0 m 19 ls []) := by
    intro M L H locs ls hD hw hl
    unfold fX19_serveKey_b19 at hD
    refine lv_aload_n C.1.1 C.1.2.1 dX19_serveKey_19 rfl (lv_at hl 0 rfl) ?_
    refine lv_aload_n C.1.1 C.1.2.1 dX19_serveKey_20 rfl (lv_at hl 0 rfl) ?_
    refine mr_getR C hw kc_19 107 (by decide) tf_732 ff_732_107 wd_2888 dX19_serveKey_21 (by decide) rfl ?_
    refine lv_iload_n C.1.1 C.1.2.1 dX19_serveKey_24 rfl (lv_at hl 1 rfl) ?_
    obtain ⟨q1, hD⟩ := g_ck hD
    refine mr_iald C hw (by decide) tf_938 q1 dX19_serveKey_25 ?_
    refine lv_iconst (v := 3) C.1.1 C.1.2.1 dX19_serveKey_26 (by decide) ?_
    refine lv_icmp_ne (tgt := 35) C.1.1 C.1.2.1 dX19_serveKey_27 (by decide) (fun c2 => ?_) (fun c2 => ?_)
    · replace hD := g_neg c2 hD
      refine lv_bipush (v := 36) C.1.1 C.1.2.1 dX19_serveKey_35 (by decide) ?_
      exact hb37 36 M L _ _ ls hD hw (lv_sub hl [] rfl)
    · replace hD := g_pos c2 hD
      refine lv_bipush (v := 54) C.1.1 C.1.2.1 dX19_serveKey_30 (by decide) ?_
      refine lv_goto (tgt := 37) C.1.1 C.1.2.1 dX19_serveKey_32 (by decide) ?_
      exact hb37 54 M L _ _ ls hD hw (lv_sub hl [] rfl)
  have hb215 : ∀ (s1 : Int32) (M : mwM) (L : mwL) (H : Heap) (locs : List Loc) (ls : Array Slot), fX19_serveKey_b215 fu a1 s1 M L = some (M0, L0) → mw_W G ad NF TF FF M L H locs → lv_has ls 4 [] → W p l e ({ frames := 5, cells := 0, slots := 0, locals := 126 }) s m [.ref (ad 732), .int a1].toArray below meth c H locs 0 0 (MQ below (mw_Qv G ad NF TF FF (mw_eqV M0 L0)) [.ref (ad 732), .int a1].toArray s 0 0 (mw_fr G)) (F0 m 215 ls [.int s1, .ref (ad 732)]) := by
    intro s1 M L H locs ls hD hw hl
    unfold fX19_serveKey_b215 at hD
    obtain ⟨M38, L39, h1, hD⟩ := g_b2 hD
    refine md_cvV (As := [.int s1]) (rest := []) C hw (tX19_no l G ad fu s1 M L h1) kc_19 (by decide) tf_732 wd_3992 cwX19_no ⟨Nat.le_of_ble_eq_true rfl, Nat.le_of_ble_eq_true rfl⟩ rfl hl.1 (Nat.le_of_ble_eq_true rfl) dX19_serveKey_215 rfl rfl ⟨Nat.zero_le _, Nat.zero_le _⟩ rfl (fun H locs hw => ?_)
    exact mr_vret C hr hlocks hw (Option.some.inj hD) dX19_serveKey_218
  have hh103 : ∀ (f : Nat) (v3 : Int32) (M : mwM) (L : mwL) (H : Heap) (locs : List Loc) (ls : Array Slot), fX19_serveKey_h103 fu a1 f (v3, M, L) = some (M0, L0) → mw_W G ad NF TF FF M L H locs → lv_has ls 4 [(0, .ref (ad 732)), (1, .int a1), (3, .int v3)] → W p l e ({ frames := 5, cells := 0, slots := 0, locals := 126 }) s m [.ref (ad 732), .int a1].toArray below meth c H locs 0 0 (MQ below (mw_Qv G ad NF TF FF (mw_eqV M0 L0)) [.ref (ad 732), .int a1].toArray s 0 0 (mw_fr G)) (F0 m 103 ls []) := by
    intro f
    induction f with
    | zero => intro v3 M L H locs ls hD; cases hD
    | succ f103 ih103 =>
      intro v3 M L H locs ls hD hw hl
      replace hD : fX19_serveKey_i103 fu a1 (fX19_serveKey_h103 fu a1 f103) v3 M L = some (M0, L0) := hD
      have hb150 : ∀ (v3 : Int32) (s2 : Int32) (M : mwM) (L : mwL) (H : Heap) (locs : List Loc) (ls : Array Slot), fX19_serveKey_b150 fu a1 (fX19_serveKey_h103 fu a1 f103) v3 s2 M L = some (M0, L0) → mw_W G ad NF TF FF M L H locs → lv_has ls 4 [(0, .ref (ad 732)), (1, .int a1), (3, .int v3)] → W p l e ({ frames := 5, cells := 0, slots := 0, locals := 126 }) s m [.ref (ad 732), .int a1].toArray below meth c H locs 0 0 (MQ below (mw_Qv G ad NF TF FF (mw_eqV M0 L0)) [.ref (ad 732), .int a1].toArray s 0 0 (mw_fr G)) (F0 m 150 ls [.int s2, .int a1, .ref (ad 935)]) := by
        intro v3 s2 M L H locs ls hD hw hl
        unfold fX19_serveKey_b150 at hD
        obtain ⟨q35, hD⟩ := g_ck hD
        obtain ⟨M36, eM36, hD⟩ := g_let hD
        refine mr_zast C hw (by decide) tf_935 q35 dX19_serveKey_150 (fun H locs hw => ?_)
        replace hw : mw_W G ad NF TF FF M36 L H locs := by rw [eM36]; exact hw
        obtain ⟨x37, ex37, hD⟩ := g_let hD
        refine lv_iinc (v := x37) (lv' := [(3, .int x37), (0, .ref (ad 732)), (1, .int a1)]) C.1.1 C.1.2.1 dX19_serveKey_151 hl (k := 2) rfl (by rw [ex37]; rfl) (by decide) rfl (fun ls hl => ?_)
        refine lv_goto (tgt := 103) C.1.1 C.1.2.1 dX19_serveKey_154 (by decide) ?_
        exact ih103 x37 M36 L _ _ ls hD hw (lv_sub hl [1, 2, 0] rfl)
      have hb149 : ∀ (v3 : Int32) (M : mwM) (L : mwL) (H : Heap) (locs : List Loc) (ls : Array Slot), fX19_serveKey_b149 fu a1 (fX19_serveKey_h103 fu a1 f103) v3 M L = some (M0, L0) → mw_W G ad NF TF FF M L H locs → lv_has ls 4 [(0, .ref (ad 732)), (1, .int a1), (3, .int v3)] → W p l e ({ frames := 5, cells := 0, slots := 0, locals := 126 }) s m [.ref (ad 732), .int a1].toArray below meth c H locs 0 0 (MQ below (mw_Qv G ad NF TF FF (mw_eqV M0 L0)) [.ref (ad 732), .int a1].toArray s 0 0 (mw_fr G)) (F0 m 149 ls [.int a1, .ref (ad 935)]) := by
        intro v3 M L H locs ls hD hw hl
        unfold fX19_serveKey_b149 at hD
        refine lv_iconst (v := 0) C.1.1 C.1.2.1 dX19_serveKey_149 (by decide) ?_
        exact hb150 v3 0 M L _ _ ls hD hw (lv_sub hl [0, 1, 2] rfl)
      unfold fX19_serveKey_i103 at hD
      refine lv_iload_n C.1.1 C.1.2.1 dX19_serveKey_103 rfl (lv_at hl 2 rfl) ?_
      refine lv_iconst (v := 4) C.1.1 C.1.2.1 dX19_serveKey_104 (by decide) ?_
      refine lv_icmp_ge (tgt := 157) C.1.1 C.1.2.1 dX19_serveKey_105 (by decide) (fun c15 => ?_) (fun c15 => ?_)
      · replace hD := g_pos c15 hD
        refine lv_aload_n C.1.1 C.1.2.1 dX19_serveKey_157 rfl (lv_at hl 0 rfl) ?_
        refine mr_getR C hw kc_19 104 (by decide) tf_732 ff_732_104 wd_2885 dX19_serveKey_158 (by decide) rfl ?_
        refine lv_iload_n C.1.1 C.1.2.1 dX19_serveKey_161 rfl (lv_at hl 1 rfl) ?_
        obtain ⟨q16, hD⟩ := g_ck hD
        refine mr_zald C hw (by decide) tf_935 q16 dX19_serveKey_162 ?_
        refine lv_if_eq (tgt := 187) C.1.1 C.1.2.1 dX19_serveKey_163 (by decide) (fun c17 => ?_) (fun c17 => ?_)
        · replace hD := g_pos c17 hD
          refine lv_aload_n C.1.1 C.1.2.1 dX19_serveKey_187 rfl (lv_at hl 0 rfl) ?_
          refine mr_getR C hw kc_19 107 (by decide) tf_732 ff_732_107 wd_2888 dX19_serveKey_188 (by decide) rfl ?_
          refine lv_iload_n C.1.1 C.1.2.1 dX19_serveKey_191 rfl (lv_at hl 1 rfl) ?_
          refine lv_dup2_11 C.1.1 C.1.2.1 dX19_serveKey_192 rfl rfl ?_
          obtain ⟨q18, hD⟩ := g_ck hD
          refine mr_iald C hw (by decide) tf_938 q18 dX19_serveKey_193 ?_
          refine lv_iconst (v := 1) C.1.1 C.1.2.1 dX19_serveKey_194 (by decide) ?_
          refine lv_iadd C.1.1 C.1.2.1 dX19_serveKey_195 ?_
          obtain ⟨q19, hD⟩ := g_ck hD
          obtain ⟨M20, eM20, hD⟩ := g_let hD
          refine mr_iast C hw (by decide) tf_938 q19 dX19_serveKey_196 (fun H locs hw => ?_)
          replace hw : mw_W G ad NF TF FF M20 L H locs := by rw [eM20]; exact hw
          refine lv_aload_n C.1.1 C.1.2.1 dX19_serveKey_197 rfl (lv_at hl 0 rfl) ?_
          refine lv_aload_n C.1.1 C.1.2.1 dX19_serveKey_198 rfl (lv_at hl 0 rfl) ?_
          refine mr_getR C hw kc_19 107 (by decide) tf_732 ff_732_107 wd_2888 dX19_serveKey_199 (by decide) rfl ?_
          refine lv_iload_n C.1.1 C.1.2.1 dX19_serveKey_202 rfl (lv_at hl 1 rfl) ?_
          obtain ⟨q21, hD⟩ := g_ck hD
          refine mr_iald C hw (by decide) tf_938 q21 dX19_serveKey_203 ?_
          refine lv_iconst (v := 3) C.1.1 C.1.2.1 dX19_serveKey_204 (by decide) ?_
          refine lv_icmp_ne (tgt := 213) C.1.1 C.1.2.1 dX19_serveKey_205 (by decide) (fun c22 => ?_) (fun c22 => ?_)
          · replace hD := g_neg c22 hD
            refine lv_bipush (v := 53) C.1.1 C.1.2.1 dX19_serveKey_213 (by decide) ?_
            exact hb215 53 M20 L _ _ ls hD hw (lv_sub hl [] rfl)
          · replace hD := g_pos c22 hD
            refine lv_bipush (v := 54) C.1.1 C.1.2.1 dX19_serveKey_208 (by decide) ?_
            refine lv_goto (tgt := 215) C.1.1 C.1.2.1 dX19_serveKey_210 (by decide) ?_
            exact hb215 54 M20 L _ _ ls hD hw (lv_sub hl [] rfl)
        · replace hD := g_neg c17 hD
          refine lv_aload_n C.1.1 C.1.2.1 dX19_serveKey_166 rfl (lv_at hl 0 rfl) ?_
          refine mr_getR C hw kc_19 101 (by decide) tf_732 ff_732_101 wd_2882 dX19_serveKey_167 (by decide) rfl ?_
          refine lv_iconst (v := 0) C.1.1 C.1.2.1 dX19_serveKey_170 (by decide) ?_
          refine lv_bipush (v := 103) C.1.1 C.1.2.1 dX19_serveKey_171 (by decide) ?_
          obtain ⟨M24, eM24, hD⟩ := g_let hD
          refine mr_iast C hw (by decide) tf_933 (show vp_in 0 128 from by unfold vp_in; decide) dX19_serveKey_173 (fun H locs hw => ?_)
          replace hw : mw_W G ad NF TF FF M24 L H locs := by rw [eM24]; exact hw
          refine lv_aload_n C.1.1 C.1.2.1 dX19_serveKey_174 rfl (lv_at hl 0 rfl) ?_
          refine mr_getR C hw kc_19 101 (by decide) tf_732 ff_732_101 wd_2882 dX19_serveKey_175 (by decide) rfl ?_
          refine lv_iconst (v := 1) C.1.1 C.1.2.1 dX19_serveKey_178 (by decide) ?_
          refine lv_iconst (v := 2) C.1.1 C.1.2.1 dX19_serveKey_179 (by decide) ?_
          obtain ⟨M26, eM26, hD⟩ := g_let hD
          refine mr_iast C hw (by decide) tf_933 (show vp_in 1 128 from by unfold vp_in; decide) dX19_serveKey_180 (fun H locs hw => ?_)
          replace hw : mw_W G ad NF TF FF M26 L H locs := by rw [eM26]; exact hw
          refine lv_aload_n C.1.1 C.1.2.1 dX19_serveKey_181 rfl (lv_at hl 0 rfl) ?_
          refine lv_iconst (v := 2) C.1.1 C.1.2.1 dX19_serveKey_182 (by decide) ?_
          obtain ⟨M27, eM27, hD⟩ := g_let hD
          refine mr_putI C hw kc_19 102 (by decide) tf_732 wd_2883 dX19_serveKey_183 (by decide) rfl rfl rfl rfl (fun H locs hw => ?_)
          replace hw : mw_W G ad NF TF FF M27 L H locs := by rw [eM27]; exact hw
          exact mr_vret C hr hlocks hw (Option.some.inj hD) dX19_serveKey_186
      · replace hD := g_neg c15 hD
        refine lv_aload_n C.1.1 C.1.2.1 dX19_serveKey_108 rfl (lv_at hl 0 rfl) ?_
        refine mr_getR C hw kc_19 104 (by decide) tf_732 ff_732_104 wd_2885 dX19_serveKey_109 (by decide) rfl ?_
        refine lv_iload_n C.1.1 C.1.2.1 dX19_serveKey_112 rfl (lv_at hl 1 rfl) ?_
        refine lv_aload_n C.1.1 C.1.2.1 dX19_serveKey_113 rfl (lv_at hl 0 rfl) ?_
        refine mr_getR C hw kc_19 104 (by decide) tf_732 ff_732_104 wd_2885 dX19_serveKey_114 (by decide) rfl ?_
        refine lv_iload_n C.1.1 C.1.2.1 dX19_serveKey_117 rfl (lv_at hl 1 rfl) ?_
        obtain ⟨q28, hD⟩ := g_ck hD
        refine mr_zald C hw (by decide) tf_935 q28 dX19_serveKey_118 ?_
        refine lv_if_eq (tgt := 149) C.1.1 C.1.2.1 dX19_serveKey_119 (by decide) (fun c29 => ?_) (fun c29 => ?_)
        · replace hD := g_pos c29 hD
          exact hb149 v3 M L _ _ ls hD hw (lv_sub hl [0, 1, 2] rfl)
        · replace hD := g_neg c29 hD
          refine lv_aload_n C.1.1 C.1.2.1 dX19_serveKey_122 rfl (lv_at hl 0 rfl) ?_
          refine mr_getR C hw kc_19 78 (by decide) tf_732 ff_732_78 wd_2859 dX19_serveKey_123 (by decide) rfl ?_
          refine lv_iload_n C.1.1 C.1.2.1 dX19_serveKey_126 rfl (lv_at hl 2 rfl) ?_
          obtain ⟨r32, M30, L31, h1, hD⟩ := g_b3 hD
          refine md_cvI (As := [.int v3]) (rest := [.int a1, .ref (ad 935)]) C hw (tX14_out l G ad fu v3 M L h1) kc_14 (by decide) tf_854 wd_3610 cwX14_out ⟨Nat.le_of_ble_eq_true rfl, Nat.le_of_ble_eq_true rfl⟩ rfl hl.1 (Nat.le_of_ble_eq_true rfl) dX19_serveKey_127 rfl rfl ⟨Nat.zero_le _, Nat.zero_le _⟩ rfl (fun H locs hw => ?_)
          refine lv_sipush (v := 255) C.1.1 C.1.2.1 dX19_serveKey_130 (by decide) ?_
          refine lv_iand C.1.1 C.1.2.1 dX19_serveKey_133 ?_
          refine lv_aload_n C.1.1 C.1.2.1 dX19_serveKey_134 rfl (lv_at hl 0 rfl) ?_
          refine mr_getR C hw kc_19 100 (by decide) tf_732 ff_732_100 wd_2881 dX19_serveKey_135 (by decide) rfl ?_
          refine lv_iconst (v := 2) C.1.1 C.1.2.1 dX19_serveKey_138 (by decide) ?_
          refine lv_iload_n C.1.1 C.1.2.1 dX19_serveKey_139 rfl (lv_at hl 2 rfl) ?_
          refine lv_iadd C.1.1 C.1.2.1 dX19_serveKey_140 ?_
          obtain ⟨q33, hD⟩ := g_ck hD
          refine mr_iald C hw (by decide) tf_932 q33 dX19_serveKey_141 ?_
          refine lv_icmp_ne (tgt := 149) C.1.1 C.1.2.1 dX19_serveKey_142 (by decide) (fun c34 => ?_) (fun c34 => ?_)
          · replace hD := g_neg c34 hD
            exact hb149 v3 M30 L31 _ _ ls hD hw (lv_sub hl [0, 1, 2] rfl)
          · replace hD := g_pos c34 hD
            refine lv_iconst (v := 1) C.1.1 C.1.2.1 dX19_serveKey_145 (by decide) ?_
            refine lv_goto (tgt := 150) C.1.1 C.1.2.1 dX19_serveKey_146 (by decide) ?_
            exact hb150 v3 1 M30 L31 _ _ ls hD hw (lv_sub hl [0, 1, 2] rfl)
  have hh50 : ∀ (f : Nat) (v2 : Int32) (M : mwM) (L : mwL) (H : Heap) (locs : List Loc) (ls : Array Slot), fX19_serveKey_h50 fu a1 f (v2, M, L) = some (M0, L0) → mw_W G ad NF TF FF M L H locs → lv_has ls 4 [(0, .ref (ad 732)), (1, .int a1), (2, .int v2)] → W p l e ({ frames := 5, cells := 0, slots := 0, locals := 126 }) s m [.ref (ad 732), .int a1].toArray below meth c H locs 0 0 (MQ below (mw_Qv G ad NF TF FF (mw_eqV M0 L0)) [.ref (ad 732), .int a1].toArray s 0 0 (mw_fr G)) (F0 m 50 ls []) := by
    intro f
    induction f with
    | zero => intro v2 M L H locs ls hD; cases hD
    | succ f50 ih50 =>
      intro v2 M L H locs ls hD hw hl
      replace hD : fX19_serveKey_i50 fu a1 (fX19_serveKey_h50 fu a1 f50) v2 M L = some (M0, L0) := hD
      unfold fX19_serveKey_i50 at hD
      refine lv_iload_n C.1.1 C.1.2.1 dX19_serveKey_50 rfl (lv_at hl 2 rfl) ?_
      refine lv_iconst (v := 4) C.1.1 C.1.2.1 dX19_serveKey_51 (by decide) ?_
      refine lv_icmp_ge (tgt := 82) C.1.1 C.1.2.1 dX19_serveKey_52 (by decide) (fun c5 => ?_) (fun c5 => ?_)
      · replace hD := g_pos c5 hD
        refine lv_aload_n C.1.1 C.1.2.1 dX19_serveKey_82 rfl (lv_at hl 0 rfl) ?_
        refine mr_getR C hw kc_19 78 (by decide) tf_732 ff_732_78 wd_2859 dX19_serveKey_83 (by decide) rfl ?_
        refine lv_bipush (v := 16) C.1.1 C.1.2.1 dX19_serveKey_86 (by decide) ?_
        refine lv_bipush (v := 32) C.1.1 C.1.2.1 dX19_serveKey_88 (by decide) ?_
        obtain ⟨r8, M6, L7, h1, hD⟩ := g_b3 hD
        refine md_cvI (As := [.int 16, .int 32]) (rest := []) C hw (tX14_code l G ad fu 16 32 M L h1) kc_14 (by decide) tf_854 wd_3582 cwX14_code ⟨Nat.le_of_ble_eq_true rfl, Nat.le_of_ble_eq_true rfl⟩ rfl hl.1 (Nat.le_of_ble_eq_true rfl) dX19_serveKey_90 rfl rfl ⟨Nat.zero_le _, Nat.zero_le _⟩ rfl (fun H locs hw => ?_)
        refine lv_istore_n (lv' := [(2, .int r8), (0, .ref (ad 732)), (1, .int a1)]) C.1.1 C.1.2.1 dX19_serveKey_93 rfl hl (by decide) rfl (fun ls hl => ?_)
        refine lv_aload_n C.1.1 C.1.2.1 dX19_serveKey_94 rfl (lv_at hl 1 rfl) ?_
        refine mr_getR C hw kc_19 104 (by decide) tf_732 ff_732_104 wd_2885 dX19_serveKey_95 (by decide) rfl ?_
        refine lv_iload_n C.1.1 C.1.2.1 dX19_serveKey_98 rfl (lv_at hl 2 rfl) ?_
        refine lv_iconst (v := 1) C.1.1 C.1.2.1 dX19_serveKey_99 (by decide) ?_
        obtain ⟨q9, hD⟩ := g_ck hD
        obtain ⟨M10, eM10, hD⟩ := g_let hD
        refine mr_zast C hw (by decide) tf_935 q9 dX19_serveKey_100 (fun H locs hw => ?_)
        replace hw : mw_W G ad NF TF FF M10 L7 H locs := by rw [eM10]; exact hw
        refine lv_iconst (v := 0) C.1.1 C.1.2.1 dX19_serveKey_101 (by decide) ?_
        refine lv_istore_n (lv' := [(3, .int 0), (2, .int r8), (0, .ref (ad 732)), (1, .int a1)]) C.1.1 C.1.2.1 dX19_serveKey_102 rfl hl (by decide) rfl (fun ls hl => ?_)
        exact hh103 fu 0 M10 L7 _ _ ls hD hw (lv_sub hl [2, 3, 0] rfl)
      · replace hD := g_neg c5 hD
        refine lv_aload_n C.1.1 C.1.2.1 dX19_serveKey_55 rfl (lv_at hl 0 rfl) ?_
        refine mr_getR C hw kc_19 78 (by decide) tf_732 ff_732_78 wd_2859 dX19_serveKey_56 (by decide) rfl ?_
        refine lv_aload_n C.1.1 C.1.2.1 dX19_serveKey_59 rfl (lv_at hl 0 rfl) ?_
        refine mr_getR C hw kc_19 106 (by decide) tf_732 ff_732_106 wd_2887 dX19_serveKey_60 (by decide) rfl ?_
        refine lv_iload_n C.1.1 C.1.2.1 dX19_serveKey_63 rfl (lv_at hl 1 rfl) ?_
        obtain ⟨q11, hD⟩ := g_ck hD
        refine mr_iald C hw (by decide) tf_937 q11 dX19_serveKey_64 ?_
        refine lv_bipush (v := 8) C.1.1 C.1.2.1 dX19_serveKey_65 (by decide) ?_
        refine lv_iconst (v := 3) C.1.1 C.1.2.1 dX19_serveKey_67 (by decide) ?_
        refine lv_iload_n C.1.1 C.1.2.1 dX19_serveKey_68 rfl (lv_at hl 2 rfl) ?_
        refine lv_isub C.1.1 C.1.2.1 dX19_serveKey_69 ?_
        refine lv_imul C.1.1 C.1.2.1 dX19_serveKey_70 ?_
        refine lv_ishr C.1.1 C.1.2.1 dX19_serveKey_71 ?_
        refine lv_i2b C.1.1 C.1.2.1 dX19_serveKey_72 rfl ?_
        obtain ⟨M12, L13, h1, hD⟩ := g_b2 hD
        refine md_cvV (As := [.int (((M 937 a1.toNatClampNeg) >>> ((8 * (3 - v2)) &&& 31)).toInt8.toInt32)]) (rest := []) C hw (tX14_octet l G ad fu (((M 937 a1.toNatClampNeg) >>> ((8 * (3 - v2)) &&& 31)).toInt8.toInt32) M L h1) kc_14 (by decide) tf_854 wd_3578 cwX14_octet ⟨Nat.le_of_ble_eq_true rfl, Nat.le_of_ble_eq_true rfl⟩ rfl hl.1 (Nat.le_of_ble_eq_true rfl) dX19_serveKey_73 rfl rfl ⟨Nat.zero_le _, Nat.zero_le _⟩ rfl (fun H locs hw => ?_)
        obtain ⟨x14, ex14, hD⟩ := g_let hD
        refine lv_iinc (v := x14) (lv' := [(2, .int x14), (0, .ref (ad 732)), (1, .int a1)]) C.1.1 C.1.2.1 dX19_serveKey_76 hl (k := 2) rfl (by rw [ex14]; rfl) (by decide) rfl (fun ls hl => ?_)
        refine lv_goto (tgt := 50) C.1.1 C.1.2.1 dX19_serveKey_79 (by decide) ?_
        exact ih50 x14 M12 L13 _ _ ls hD hw (lv_sub hl [1, 2, 0] rfl)
  unfold DX19_serveKey at hD
  refine lv_aload_n C.1.1 C.1.2.1 dX19_serveKey_0 rfl (lv_at hl 0 rfl) ?_
  refine mr_getR C hw kc_19 107 (by decide) tf_732 ff_732_107 wd_2888 dX19_serveKey_1 (by decide) rfl ?_
  refine lv_iload_n C.1.1 C.1.2.1 dX19_serveKey_4 rfl (lv_at hl 1 rfl) ?_
  obtain ⟨q40, hD⟩ := g_ck hD
  refine mr_iald C hw (by decide) tf_938 q40 dX19_serveKey_5 ?_
  refine lv_iconst (v := 3) C.1.1 C.1.2.1 dX19_serveKey_6 (by decide) ?_
  refine lv_icmp_eq (tgt := 19) C.1.1 C.1.2.1 dX19_serveKey_7 (by decide) (fun c41 => ?_) (fun c41 => ?_)
  · replace hD := g_pos c41 hD
    exact hb19 M L _ _ ls hD hw (lv_sub hl [0, 1] rfl)
  · replace hD := g_neg c41 hD
    refine lv_aload_n C.1.1 C.1.2.1 dX19_serveKey_10 rfl (lv_at hl 0 rfl) ?_
    refine mr_getR C hw kc_19 105 (by decide) tf_732 ff_732_105 wd_2886 dX19_serveKey_11 (by decide) rfl ?_
    refine lv_iload_n C.1.1 C.1.2.1 dX19_serveKey_14 rfl (lv_at hl 1 rfl) ?_
    obtain ⟨q42, hD⟩ := g_ck hD
    refine mr_zald C hw (by decide) tf_936 q42 dX19_serveKey_15 ?_
    refine lv_if_ne (tgt := 41) C.1.1 C.1.2.1 dX19_serveKey_16 (by decide) (fun c43 => ?_) (fun c43 => ?_)
    · replace hD := g_neg c43 hD
      refine lv_aload_n C.1.1 C.1.2.1 dX19_serveKey_41 rfl (lv_at hl 0 rfl) ?_
      refine mr_getR C hw kc_19 105 (by decide) tf_732 ff_732_105 wd_2886 dX19_serveKey_42 (by decide) rfl ?_
      refine lv_iload_n C.1.1 C.1.2.1 dX19_serveKey_45 rfl (lv_at hl 1 rfl) ?_
      refine lv_iconst (v := 0) C.1.1 C.1.2.1 dX19_serveKey_46 (by decide) ?_
      obtain ⟨q44, hD⟩ := g_ck hD
      obtain ⟨M45, eM45, hD⟩ := g_let hD
      refine mr_zast C hw (by decide) tf_936 q44 dX19_serveKey_47 (fun H locs hw => ?_)
      replace hw : mw_W G ad NF TF FF M45 L H locs := by rw [eM45]; exact hw
      refine lv_iconst (v := 0) C.1.1 C.1.2.1 dX19_serveKey_48 (by decide) ?_
      refine lv_istore_n (lv' := [(2, .int 0), (0, .ref (ad 732)), (1, .int a1)]) C.1.1 C.1.2.1 dX19_serveKey_49 rfl hl (by decide) rfl (fun ls hl => ?_)
      exact hh50 fu 0 M45 L _ _ ls hD hw (lv_sub hl [1, 2, 0] rfl)
    · replace hD := g_pos c43 hD
      exact hb19 M L _ _ ls hD hw (lv_sub hl [0, 1] rfl)

theorem dX19_serve_0 : decode cX19_serve 0 = .ok (.aload_n 0, 1) := by decide +kernel
theorem dX19_serve_1 : decode cX19_serve 1 = .ok (.getfield 252, 3) := by decide +kernel
theorem dX19_serve_4 : decode cX19_serve 4 = .ok (.iconst 0, 1) := by decide +kernel
theorem dX19_serve_5 : decode cX19_serve 5 = .ok (.iaload, 1) := by decide +kernel
theorem dX19_serve_6 : decode cX19_serve 6 = .ok (.istore_n 3, 1) := by decide +kernel
theorem dX19_serve_7 : decode cX19_serve 7 = .ok (.iload_n 3, 1) := by decide +kernel
theorem dX19_serve_8 : decode cX19_serve 8 = .ok (.bipush 16, 2) := by decide +kernel
theorem dX19_serve_10 : decode cX19_serve 10 = .ok (.if_icmp .ne 7, 3) := by decide +kernel
theorem dX19_serve_13 : decode cX19_serve 13 = .ok (.iconst 2, 1) := by decide +kernel
theorem dX19_serve_14 : decode cX19_serve 14 = .ok (.goto 41, 3) := by decide +kernel
theorem dX19_serve_17 : decode cX19_serve 17 = .ok (.iload_n 3, 1) := by decide +kernel
theorem dX19_serve_18 : decode cX19_serve 18 = .ok (.bipush 34, 2) := by decide +kernel
theorem dX19_serve_20 : decode cX19_serve 20 = .ok (.if_icmp .ne 7, 3) := by decide +kernel
theorem dX19_serve_23 : decode cX19_serve 23 = .ok (.iconst 3, 1) := by decide +kernel
theorem dX19_serve_24 : decode cX19_serve 24 = .ok (.goto 31, 3) := by decide +kernel
theorem dX19_serve_27 : decode cX19_serve 27 = .ok (.iload_n 3, 1) := by decide +kernel
theorem dX19_serve_28 : decode cX19_serve 28 = .ok (.bipush 46, 2) := by decide +kernel
theorem dX19_serve_30 : decode cX19_serve 30 = .ok (.if_icmp .ne 8, 3) := by decide +kernel
theorem dX19_serve_33 : decode cX19_serve 33 = .ok (.bipush 11, 2) := by decide +kernel
theorem dX19_serve_35 : decode cX19_serve 35 = .ok (.goto 20, 3) := by decide +kernel
theorem dX19_serve_38 : decode cX19_serve 38 = .ok (.iload_n 3, 1) := by decide +kernel
theorem dX19_serve_39 : decode cX19_serve 39 = .ok (.bipush 25, 2) := by decide +kernel
theorem dX19_serve_41 : decode cX19_serve 41 = .ok (.if_icmp .eq 9, 3) := by decide +kernel
theorem dX19_serve_44 : decode cX19_serve 44 = .ok (.iload_n 3, 1) := by decide +kernel
theorem dX19_serve_45 : decode cX19_serve 45 = .ok (.bipush 20, 2) := by decide +kernel
theorem dX19_serve_47 : decode cX19_serve 47 = .ok (.if_icmp .ne 7, 3) := by decide +kernel
theorem dX19_serve_50 : decode cX19_serve 50 = .ok (.iconst 1, 1) := by decide +kernel
theorem dX19_serve_51 : decode cX19_serve 51 = .ok (.goto 4, 3) := by decide +kernel
theorem dX19_serve_54 : decode cX19_serve 54 = .ok (.iconst 0, 1) := by decide +kernel
theorem dX19_serve_55 : decode cX19_serve 55 = .ok (.istore 4, 2) := by decide +kernel
theorem dX19_serve_57 : decode cX19_serve 57 = .ok (.iload 4, 2) := by decide +kernel
theorem dX19_serve_59 : decode cX19_serve 59 = .ok (.ifCond .gt 9, 3) := by decide +kernel
theorem dX19_serve_62 : decode cX19_serve 62 = .ok (.iload_n 3, 1) := by decide +kernel
theorem dX19_serve_63 : decode cX19_serve 63 = .ok (.bipush 39, 2) := by decide +kernel
theorem dX19_serve_65 : decode cX19_serve 65 = .ok (.if_icmp .ne 7, 3) := by decide +kernel
theorem dX19_serve_68 : decode cX19_serve 68 = .ok (.iconst 1, 1) := by decide +kernel
theorem dX19_serve_69 : decode cX19_serve 69 = .ok (.goto 4, 3) := by decide +kernel
theorem dX19_serve_72 : decode cX19_serve 72 = .ok (.iconst 0, 1) := by decide +kernel
theorem dX19_serve_73 : decode cX19_serve 73 = .ok (.istore 5, 2) := by decide +kernel
theorem dX19_serve_75 : decode cX19_serve 75 = .ok (.iload_n 3, 1) := by decide +kernel
theorem dX19_serve_76 : decode cX19_serve 76 = .ok (.bipush 39, 2) := by decide +kernel
theorem dX19_serve_78 : decode cX19_serve 78 = .ok (.if_icmp .ne 22, 3) := by decide +kernel
theorem dX19_serve_81 : decode cX19_serve 81 = .ok (.iload_n 2, 1) := by decide +kernel
theorem dX19_serve_82 : decode cX19_serve 82 = .ok (.iconst 2, 1) := by decide +kernel
theorem dX19_serve_83 : decode cX19_serve 83 = .ok (.if_icmp .ne 17, 3) := by decide +kernel
theorem dX19_serve_86 : decode cX19_serve 86 = .ok (.aload_n 0, 1) := by decide +kernel
theorem dX19_serve_87 : decode cX19_serve 87 = .ok (.getfield 252, 3) := by decide +kernel
theorem dX19_serve_90 : decode cX19_serve 90 = .ok (.iconst 1, 1) := by decide +kernel
theorem dX19_serve_91 : decode cX19_serve 91 = .ok (.iaload, 1) := by decide +kernel
theorem dX19_serve_92 : decode cX19_serve 92 = .ok (.iconst 1, 1) := by decide +kernel
theorem dX19_serve_93 : decode cX19_serve 93 = .ok (.if_icmp .ne 7, 3) := by decide +kernel
theorem dX19_serve_96 : decode cX19_serve 96 = .ok (.iconst 1, 1) := by decide +kernel
theorem dX19_serve_97 : decode cX19_serve 97 = .ok (.goto 4, 3) := by decide +kernel
theorem dX19_serve_100 : decode cX19_serve 100 = .ok (.iconst 0, 1) := by decide +kernel
theorem dX19_serve_101 : decode cX19_serve 101 = .ok (.istore 6, 2) := by decide +kernel
theorem dX19_serve_103 : decode cX19_serve 103 = .ok (.iload_n 3, 1) := by decide +kernel
theorem dX19_serve_104 : decode cX19_serve 104 = .ok (.bipush 39, 2) := by decide +kernel
theorem dX19_serve_106 : decode cX19_serve 106 = .ok (.if_icmp .ne 23, 3) := by decide +kernel
theorem dX19_serve_109 : decode cX19_serve 109 = .ok (.iload_n 2, 1) := by decide +kernel
theorem dX19_serve_110 : decode cX19_serve 110 = .ok (.bipush 6, 2) := by decide +kernel
theorem dX19_serve_112 : decode cX19_serve 112 = .ok (.if_icmp .ne 17, 3) := by decide +kernel
theorem dX19_serve_115 : decode cX19_serve 115 = .ok (.aload_n 0, 1) := by decide +kernel
theorem dX19_serve_116 : decode cX19_serve 116 = .ok (.getfield 252, 3) := by decide +kernel
theorem dX19_serve_119 : decode cX19_serve 119 = .ok (.iconst 1, 1) := by decide +kernel
theorem dX19_serve_120 : decode cX19_serve 120 = .ok (.iaload, 1) := by decide +kernel
theorem dX19_serve_121 : decode cX19_serve 121 = .ok (.iconst 2, 1) := by decide +kernel
theorem dX19_serve_122 : decode cX19_serve 122 = .ok (.if_icmp .ne 7, 3) := by decide +kernel
theorem dX19_serve_125 : decode cX19_serve 125 = .ok (.iconst 1, 1) := by decide +kernel
theorem dX19_serve_126 : decode cX19_serve 126 = .ok (.goto 4, 3) := by decide +kernel
theorem dX19_serve_129 : decode cX19_serve 129 = .ok (.iconst 0, 1) := by decide +kernel
theorem dX19_serve_130 : decode cX19_serve 130 = .ok (.istore 7, 2) := by decide +kernel
theorem dX19_serve_132 : decode cX19_serve 132 = .ok (.iload 5, 2) := by decide +kernel
theorem dX19_serve_134 : decode cX19_serve 134 = .ok (.ifCond .ne 12, 3) := by decide +kernel
theorem dX19_serve_137 : decode cX19_serve 137 = .ok (.aload_n 0, 1) := by decide +kernel
theorem dX19_serve_138 : decode cX19_serve 138 = .ok (.bipush 17, 2) := by decide +kernel
theorem dX19_serve_140 : decode cX19_serve 140 = .ok (.invokevirtual 744, 3) := by decide +kernel
theorem dX19_serve_143 : decode cX19_serve 143 = .ok (.goto 123, 3) := by decide +kernel
theorem dX19_serve_146 : decode cX19_serve 146 = .ok (.iload_n 3, 1) := by decide +kernel
theorem dX19_serve_147 : decode cX19_serve 147 = .ok (.bipush 39, 2) := by decide +kernel
theorem dX19_serve_149 : decode cX19_serve 149 = .ok (.if_icmp .ne 16, 3) := by decide +kernel
theorem dX19_serve_152 : decode cX19_serve 152 = .ok (.iload 6, 2) := by decide +kernel
theorem dX19_serve_154 : decode cX19_serve 154 = .ok (.ifCond .ne 26, 3) := by decide +kernel
theorem dX19_serve_157 : decode cX19_serve 157 = .ok (.iload 7, 2) := by decide +kernel
theorem dX19_serve_159 : decode cX19_serve 159 = .ok (.ifCond .ne 21, 3) := by decide +kernel
theorem dX19_serve_162 : decode cX19_serve 162 = .ok (.goto 9, 3) := by decide +kernel
theorem dX19_serve_165 : decode cX19_serve 165 = .ok (.iload_n 2, 1) := by decide +kernel
theorem dX19_serve_166 : decode cX19_serve 166 = .ok (.iload 4, 2) := by decide +kernel
theorem dX19_serve_168 : decode cX19_serve 168 = .ok (.if_icmp .eq 12, 3) := by decide +kernel
theorem dX19_serve_171 : decode cX19_serve 171 = .ok (.aload_n 0, 1) := by decide +kernel
theorem dX19_serve_172 : decode cX19_serve 172 = .ok (.bipush 19, 2) := by decide +kernel
theorem dX19_serve_174 : decode cX19_serve 174 = .ok (.invokevirtual 744, 3) := by decide +kernel
theorem dX19_serve_177 : decode cX19_serve 177 = .ok (.goto 89, 3) := by decide +kernel
theorem dX19_serve_180 : decode cX19_serve 180 = .ok (.iload_n 3, 1) := by decide +kernel
theorem dX19_serve_181 : decode cX19_serve 181 = .ok (.bipush 16, 2) := by decide +kernel
theorem dX19_serve_183 : decode cX19_serve 183 = .ok (.if_icmp .ne 11, 3) := by decide +kernel
theorem dX19_serve_186 : decode cX19_serve 186 = .ok (.aload_n 0, 1) := by decide +kernel
theorem dX19_serve_187 : decode cX19_serve 187 = .ok (.iload_n 1, 1) := by decide +kernel
theorem dX19_serve_188 : decode cX19_serve 188 = .ok (.invokevirtual 747, 3) := by decide +kernel
theorem dX19_serve_191 : decode cX19_serve 191 = .ok (.goto 75, 3) := by decide +kernel
theorem dX19_serve_194 : decode cX19_serve 194 = .ok (.iload_n 3, 1) := by decide +kernel
theorem dX19_serve_195 : decode cX19_serve 195 = .ok (.bipush 34, 2) := by decide +kernel
theorem dX19_serve_197 : decode cX19_serve 197 = .ok (.if_icmp .ne 11, 3) := by decide +kernel
theorem dX19_serve_200 : decode cX19_serve 200 = .ok (.aload_n 0, 1) := by decide +kernel
theorem dX19_serve_201 : decode cX19_serve 201 = .ok (.iload_n 1, 1) := by decide +kernel
theorem dX19_serve_202 : decode cX19_serve 202 = .ok (.invokevirtual 750, 3) := by decide +kernel
theorem dX19_serve_205 : decode cX19_serve 205 = .ok (.goto 61, 3) := by decide +kernel
theorem dX19_serve_208 : decode cX19_serve 208 = .ok (.iload_n 3, 1) := by decide +kernel
theorem dX19_serve_209 : decode cX19_serve 209 = .ok (.bipush 46, 2) := by decide +kernel
theorem dX19_serve_211 : decode cX19_serve 211 = .ok (.if_icmp .ne 11, 3) := by decide +kernel
theorem dX19_serve_214 : decode cX19_serve 214 = .ok (.aload_n 0, 1) := by decide +kernel
theorem dX19_serve_215 : decode cX19_serve 215 = .ok (.iload_n 1, 1) := by decide +kernel
theorem dX19_serve_216 : decode cX19_serve 216 = .ok (.invokevirtual 753, 3) := by decide +kernel
theorem dX19_serve_219 : decode cX19_serve 219 = .ok (.goto 47, 3) := by decide +kernel
theorem dX19_serve_222 : decode cX19_serve 222 = .ok (.iload_n 3, 1) := by decide +kernel
theorem dX19_serve_223 : decode cX19_serve 223 = .ok (.bipush 25, 2) := by decide +kernel
theorem dX19_serve_225 : decode cX19_serve 225 = .ok (.if_icmp .ne 10, 3) := by decide +kernel
theorem dX19_serve_228 : decode cX19_serve 228 = .ok (.aload_n 0, 1) := by decide +kernel
theorem dX19_serve_229 : decode cX19_serve 229 = .ok (.invokevirtual 756, 3) := by decide +kernel
theorem dX19_serve_232 : decode cX19_serve 232 = .ok (.goto 34, 3) := by decide +kernel
theorem dX19_serve_235 : decode cX19_serve 235 = .ok (.iload_n 3, 1) := by decide +kernel
theorem dX19_serve_236 : decode cX19_serve 236 = .ok (.bipush 20, 2) := by decide +kernel
theorem dX19_serve_238 : decode cX19_serve 238 = .ok (.if_icmp .ne 10, 3) := by decide +kernel
theorem dX19_serve_241 : decode cX19_serve 241 = .ok (.aload_n 0, 1) := by decide +kernel
theorem dX19_serve_242 : decode cX19_serve 242 = .ok (.invokevirtual 759, 3) := by decide +kernel
theorem dX19_serve_245 : decode cX19_serve 245 = .ok (.goto 21, 3) := by decide +kernel
theorem dX19_serve_248 : decode cX19_serve 248 = .ok (.iload 6, 2) := by decide +kernel
theorem dX19_serve_250 : decode cX19_serve 250 = .ok (.ifCond .eq 11, 3) := by decide +kernel
theorem dX19_serve_253 : decode cX19_serve 253 = .ok (.aload_n 0, 1) := by decide +kernel
theorem dX19_serve_254 : decode cX19_serve 254 = .ok (.iload_n 1, 1) := by decide +kernel
theorem dX19_serve_255 : decode cX19_serve 255 = .ok (.invokevirtual 762, 3) := by decide +kernel
theorem dX19_serve_258 : decode cX19_serve 258 = .ok (.goto 8, 3) := by decide +kernel
theorem dX19_serve_261 : decode cX19_serve 261 = .ok (.aload_n 0, 1) := by decide +kernel
theorem dX19_serve_262 : decode cX19_serve 262 = .ok (.iload_n 1, 1) := by decide +kernel
theorem dX19_serve_263 : decode cX19_serve 263 = .ok (.invokevirtual 765, 3) := by decide +kernel
theorem dX19_serve_266 : decode cX19_serve 266 = .ok (.return_, 1) := by decide +kernel
theorem cwX19_serve : mw_cwV yX19_serve cX19_serve 8 (none) 2 := ⟨⟨wd_13, wd_3991, by decide +kernel⟩, wd_3990, sl_301⟩
set_option maxHeartbeats 4000000 in
set_option maxRecDepth 100000 in
theorem tX19_serve (l : Launch) (G : mwG) (ad : Nat → Nat) (fu : Nat) (a1 : Int32) (a2 : Int32) (M : mwM) (L : mwL) {M0 : mwM} {L0 : mwL} (hD : DX19_serve fu a1 a2 M L = some (M0, L0)) : Met l yX19_serve (Cond.code yX19_serve cX19_serve 8 (none) :: GT) ({ frames := 6, cells := 0, slots := 0, locals := 149 }) (mw_Pre G ad NF TF FF M L [.ref (ad 732), .int a1, .int a2]) (mw_Qv G ad NF TF FF (mw_eqV M0 L0)) 0 0 (mw_fr G) := by
  refine mw_enter (by decide) (Nat.le_of_ble_eq_true rfl) ?_
  intro p e s m below meth c ls C hr hlocks hnm hw hl
  have hl : lv_has ls 8 [(0, .ref (ad 732)), (1, .int a1), (2, .int a2)] := hl
  have hb266 : ∀ (M : mwM) (L : mwL) (H : Heap) (locs : List Loc) (ls : Array Slot), fX19_serve_b266 fu a1 a2 M L = some (M0, L0) → mw_W G ad NF TF FF M L H locs → lv_has ls 8 [] → W p l e ({ frames := 6, cells := 0, slots := 0, locals := 149 }) s m [.ref (ad 732), .int a1, .int a2].toArray below meth c H locs 0 0 (MQ below (mw_Qv G ad NF TF FF (mw_eqV M0 L0)) [.ref (ad 732), .int a1, .int a2].toArray s 0 0 (mw_fr G)) (F0 m 266 ls []) := by
    intro M L H locs ls hD hw hl
    unfold fX19_serve_b266 at hD
    exact mr_vret C hr hlocks hw (Option.some.inj hD) dX19_serve_266
  have hb171 : ∀ (M : mwM) (L : mwL) (H : Heap) (locs : List Loc) (ls : Array Slot), fX19_serve_b171 fu a1 a2 M L = some (M0, L0) → mw_W G ad NF TF FF M L H locs → lv_has ls 8 [(0, .ref (ad 732))] → W p l e ({ frames := 6, cells := 0, slots := 0, locals := 149 }) s m [.ref (ad 732), .int a1, .int a2].toArray below meth c H locs 0 0 (MQ below (mw_Qv G ad NF TF FF (mw_eqV M0 L0)) [.ref (ad 732), .int a1, .int a2].toArray s 0 0 (mw_fr G)) (F0 m 171 ls []) := by
    intro M L H locs ls hD hw hl
    unfold fX19_serve_b171 at hD
    refine lv_aload_n C.1.1 C.1.2.1 dX19_serve_171 rfl (lv_at hl 0 rfl) ?_
    refine lv_bipush (v := 19) C.1.1 C.1.2.1 dX19_serve_172 (by decide) ?_
    obtain ⟨M18, L19, h1, hD⟩ := g_b2 hD
    refine md_cvV (As := [.int 19]) (rest := []) C hw (tX19_no l G ad fu 19 M L h1) kc_19 (by decide) tf_732 wd_3992 cwX19_no ⟨Nat.le_of_ble_eq_true rfl, Nat.le_of_ble_eq_true rfl⟩ rfl hl.1 (Nat.le_of_ble_eq_true rfl) dX19_serve_174 rfl rfl ⟨Nat.zero_le _, Nat.zero_le _⟩ rfl (fun H locs hw => ?_)
    refine lv_goto (tgt := 266) C.1.1 C.1.2.1 dX19_serve_177 (by decide) ?_
    exact hb266 M18 L19 _ _ ls hD hw (lv_sub hl [] rfl)
  have hb180 : ∀ (v3 : Int32) (v6 : Int32) (M : mwM) (L : mwL) (H : Heap) (locs : List Loc) (ls : Array Slot), fX19_serve_b180 fu a1 a2 v3 v6 M L = some (M0, L0) → mw_W G ad NF TF FF M L H locs → lv_has ls 8 [(0, .ref (ad 732)), (1, .int a1), (3, .int v3), (6, .int v6)] → W p l e ({ frames := 6, cells := 0, slots := 0, locals := 149 }) s m [.ref (ad 732), .int a1, .int a2].toArray below meth c H locs 0 0 (MQ below (mw_Qv G ad NF TF FF (mw_eqV M0 L0)) [.ref (ad 732), .int a1, .int a2].toArray s 0 0 (mw_fr G)) (F0 m 180 ls []) := by
    intro v3 v6 M L H locs ls hD hw hl
    unfold fX19_serve_b180 at hD
    refine lv_iload_n C.1.1 C.1.2.1 dX19_serve_180 rfl (lv_at hl 2 rfl) ?_
    refine lv_bipush (v := 16) C.1.1 C.1.2.1 dX19_serve_181 (by decide) ?_
    refine lv_icmp_ne (tgt := 194) C.1.1 C.1.2.1 dX19_serve_183 (by decide) (fun c20 => ?_) (fun c20 => ?_)
    · replace hD := g_neg c20 hD
      refine lv_iload_n C.1.1 C.1.2.1 dX19_serve_194 rfl (lv_at hl 2 rfl) ?_
      refine lv_bipush (v := 34) C.1.1 C.1.2.1 dX19_serve_195 (by decide) ?_
      refine lv_icmp_ne (tgt := 208) C.1.1 C.1.2.1 dX19_serve_197 (by decide) (fun c21 => ?_) (fun c21 => ?_)
      · replace hD := g_neg c21 hD
        refine lv_iload_n C.1.1 C.1.2.1 dX19_serve_208 rfl (lv_at hl 2 rfl) ?_
        refine lv_bipush (v := 46) C.1.1 C.1.2.1 dX19_serve_209 (by decide) ?_
        refine lv_icmp_ne (tgt := 222) C.1.1 C.1.2.1 dX19_serve_211 (by decide) (fun c22 => ?_) (fun c22 => ?_)
        · replace hD := g_neg c22 hD
          refine lv_iload_n C.1.1 C.1.2.1 dX19_serve_222 rfl (lv_at hl 2 rfl) ?_
          refine lv_bipush (v := 25) C.1.1 C.1.2.1 dX19_serve_223 (by decide) ?_
          refine lv_icmp_ne (tgt := 235) C.1.1 C.1.2.1 dX19_serve_225 (by decide) (fun c23 => ?_) (fun c23 => ?_)
          · replace hD := g_neg c23 hD
            refine lv_iload_n C.1.1 C.1.2.1 dX19_serve_235 rfl (lv_at hl 2 rfl) ?_
            refine lv_bipush (v := 20) C.1.1 C.1.2.1 dX19_serve_236 (by decide) ?_
            refine lv_icmp_ne (tgt := 248) C.1.1 C.1.2.1 dX19_serve_238 (by decide) (fun c24 => ?_) (fun c24 => ?_)
            · replace hD := g_neg c24 hD
              refine lv_iload C.1.1 C.1.2.1 dX19_serve_248 (lv_at hl 3 rfl) ?_
              refine lv_if_eq (tgt := 261) C.1.1 C.1.2.1 dX19_serve_250 (by decide) (fun c25 => ?_) (fun c25 => ?_)
              · replace hD := g_pos c25 hD
                refine lv_aload_n C.1.1 C.1.2.1 dX19_serve_261 rfl (lv_at hl 0 rfl) ?_
                refine lv_iload_n C.1.1 C.1.2.1 dX19_serve_262 rfl (lv_at hl 1 rfl) ?_
                obtain ⟨M26, L27, h1, hD⟩ := g_b2 hD
                refine md_cvV (As := [.int a1]) (rest := []) C hw (tX19_serveKey l G ad fu a1 M L h1) kc_19 (by decide) tf_732 wd_4038 cwX19_serveKey ⟨Nat.le_of_ble_eq_true rfl, Nat.le_of_ble_eq_true rfl⟩ rfl hl.1 (Nat.le_of_ble_eq_true rfl) dX19_serve_263 rfl rfl ⟨Nat.zero_le _, Nat.zero_le _⟩ rfl (fun H locs hw => ?_)
                exact hb266 M26 L27 _ _ ls hD hw (lv_sub hl [] rfl)
              · replace hD := g_neg c25 hD
                refine lv_aload_n C.1.1 C.1.2.1 dX19_serve_253 rfl (lv_at hl 0 rfl) ?_
                refine lv_iload_n C.1.1 C.1.2.1 dX19_serve_254 rfl (lv_at hl 1 rfl) ?_
                obtain ⟨M28, L29, h1, hD⟩ := g_b2 hD
                refine md_cvV (As := [.int a1]) (rest := []) C hw (tX19_serveSeed l G ad fu a1 M L h1) kc_19 (by decide) tf_732 wd_4032 cwX19_serveSeed ⟨Nat.le_of_ble_eq_true rfl, Nat.le_of_ble_eq_true rfl⟩ rfl hl.1 (Nat.le_of_ble_eq_true rfl) dX19_serve_255 rfl rfl ⟨Nat.zero_le _, Nat.zero_le _⟩ rfl (fun H locs hw => ?_)
                refine lv_goto (tgt := 266) C.1.1 C.1.2.1 dX19_serve_258 (by decide) ?_
                exact hb266 M28 L29 _ _ ls hD hw (lv_sub hl [] rfl)
            · replace hD := g_pos c24 hD
              refine lv_aload_n C.1.1 C.1.2.1 dX19_serve_241 rfl (lv_at hl 0 rfl) ?_
              obtain ⟨M30, L31, h1, hD⟩ := g_b2 hD
              refine md_cvV (As := []) (rest := []) C hw (tX19_serveClear l G ad fu M L h1) kc_19 (by decide) tf_732 wd_4024 cwX19_serveClear ⟨Nat.le_of_ble_eq_true rfl, Nat.le_of_ble_eq_true rfl⟩ rfl hl.1 (Nat.le_of_ble_eq_true rfl) dX19_serve_242 rfl rfl ⟨Nat.zero_le _, Nat.zero_le _⟩ rfl (fun H locs hw => ?_)
              refine lv_goto (tgt := 266) C.1.1 C.1.2.1 dX19_serve_245 (by decide) ?_
              exact hb266 M30 L31 _ _ ls hD hw (lv_sub hl [] rfl)
          · replace hD := g_pos c23 hD
            refine lv_aload_n C.1.1 C.1.2.1 dX19_serve_228 rfl (lv_at hl 0 rfl) ?_
            obtain ⟨M32, L33, h1, hD⟩ := g_b2 hD
            refine md_cvV (As := []) (rest := []) C hw (tX19_serveTroubles l G ad fu M L h1) kc_19 (by decide) tf_732 wd_4012 cwX19_serveTroubles ⟨Nat.le_of_ble_eq_true rfl, Nat.le_of_ble_eq_true rfl⟩ rfl hl.1 (Nat.le_of_ble_eq_true rfl) dX19_serve_229 rfl rfl ⟨Nat.zero_le _, Nat.zero_le _⟩ rfl (fun H locs hw => ?_)
            refine lv_goto (tgt := 266) C.1.1 C.1.2.1 dX19_serve_232 (by decide) ?_
            exact hb266 M32 L33 _ _ ls hD hw (lv_sub hl [] rfl)
        · replace hD := g_pos c22 hD
          refine lv_aload_n C.1.1 C.1.2.1 dX19_serve_214 rfl (lv_at hl 0 rfl) ?_
          refine lv_iload_n C.1.1 C.1.2.1 dX19_serve_215 rfl (lv_at hl 1 rfl) ?_
          obtain ⟨M34, L35, h1, hD⟩ := g_b2 hD
          refine md_cvV (As := [.int a1]) (rest := []) C hw (tX19_serveWrite l G ad fu a1 M L h1) kc_19 (by decide) tf_732 wd_4008 cwX19_serveWrite ⟨Nat.le_of_ble_eq_true rfl, Nat.le_of_ble_eq_true rfl⟩ rfl hl.1 (Nat.le_of_ble_eq_true rfl) dX19_serve_216 rfl rfl ⟨Nat.zero_le _, Nat.zero_le _⟩ rfl (fun H locs hw => ?_)
          refine lv_goto (tgt := 266) C.1.1 C.1.2.1 dX19_serve_219 (by decide) ?_
          exact hb266 M34 L35 _ _ ls hD hw (lv_sub hl [] rfl)
      · replace hD := g_pos c21 hD
        refine lv_aload_n C.1.1 C.1.2.1 dX19_serve_200 rfl (lv_at hl 0 rfl) ?_
        refine lv_iload_n C.1.1 C.1.2.1 dX19_serve_201 rfl (lv_at hl 1 rfl) ?_
        obtain ⟨M36, L37, h1, hD⟩ := g_b2 hD
        refine md_cvV (As := [.int a1]) (rest := []) C hw (tX19_serveRead l G ad fu a1 M L h1) kc_19 (by decide) tf_732 wd_4000 cwX19_serveRead ⟨Nat.le_of_ble_eq_true rfl, Nat.le_of_ble_eq_true rfl⟩ rfl hl.1 (Nat.le_of_ble_eq_true rfl) dX19_serve_202 rfl rfl ⟨Nat.zero_le _, Nat.zero_le _⟩ rfl (fun H locs hw => ?_)
        refine lv_goto (tgt := 266) C.1.1 C.1.2.1 dX19_serve_205 (by decide) ?_
        exact hb266 M36 L37 _ _ ls hD hw (lv_sub hl [] rfl)
    · replace hD := g_pos c20 hD
      refine lv_aload_n C.1.1 C.1.2.1 dX19_serve_186 rfl (lv_at hl 0 rfl) ?_
      refine lv_iload_n C.1.1 C.1.2.1 dX19_serve_187 rfl (lv_at hl 1 rfl) ?_
      obtain ⟨M38, L39, h1, hD⟩ := g_b2 hD
      refine md_cvV (As := [.int a1]) (rest := []) C hw (tX19_serveSession l G ad fu a1 M L h1) kc_19 (by decide) tf_732 wd_3996 cwX19_serveSession ⟨Nat.le_of_ble_eq_true rfl, Nat.le_of_ble_eq_true rfl⟩ rfl hl.1 (Nat.le_of_ble_eq_true rfl) dX19_serve_188 rfl rfl ⟨Nat.zero_le _, Nat.zero_le _⟩ rfl (fun H locs hw => ?_)
      refine lv_goto (tgt := 266) C.1.1 C.1.2.1 dX19_serve_191 (by decide) ?_
      exact hb266 M38 L39 _ _ ls hD hw (lv_sub hl [] rfl)
  have hb130 : ∀ (v3 : Int32) (v4 : Int32) (v5 : Int32) (v6 : Int32) (s0 : Int32) (M : mwM) (L : mwL) (H : Heap) (locs : List Loc) (ls : Array Slot), fX19_serve_b130 fu a1 a2 v3 v4 v5 v6 s0 M L = some (M0, L0) → mw_W G ad NF TF FF M L H locs → lv_has ls 8 [(0, .ref (ad 732)), (1, .int a1), (2, .int a2), (3, .int v3), (4, .int v4), (5, .int v5), (6, .int v6)] → W p l e ({ frames := 6, cells := 0, slots := 0, locals := 149 }) s m [.ref (ad 732), .int a1, .int a2].toArray below meth c H locs 0 0 (MQ below (mw_Qv G ad NF TF FF (mw_eqV M0 L0)) [.ref (ad 732), .int a1, .int a2].toArray s 0 0 (mw_fr G)) (F0 m 130 ls [.int s0]) := by
    intro v3 v4 v5 v6 s0 M L H locs ls hD hw hl
    unfold fX19_serve_b130 at hD
    refine lv_istore (lv' := [(7, .int s0), (0, .ref (ad 732)), (1, .int a1), (2, .int a2), (3, .int v3), (4, .int v4), (5, .int v5), (6, .int v6)]) C.1.1 C.1.2.1 dX19_serve_130 hl (by decide) rfl (fun ls hl => ?_)
    refine lv_iload C.1.1 C.1.2.1 dX19_serve_132 (lv_at hl 6 rfl) ?_
    refine lv_if_ne (tgt := 146) C.1.1 C.1.2.1 dX19_serve_134 (by decide) (fun c11 => ?_) (fun c11 => ?_)
    · replace hD := g_neg c11 hD
      refine lv_iload_n C.1.1 C.1.2.1 dX19_serve_146 rfl (lv_at hl 4 rfl) ?_
      refine lv_bipush (v := 39) C.1.1 C.1.2.1 dX19_serve_147 (by decide) ?_
      refine lv_icmp_ne (tgt := 165) C.1.1 C.1.2.1 dX19_serve_149 (by decide) (fun c12 => ?_) (fun c12 => ?_)
      · replace hD := g_neg c12 hD
        refine lv_iload_n C.1.1 C.1.2.1 dX19_serve_165 rfl (lv_at hl 3 rfl) ?_
        refine lv_iload C.1.1 C.1.2.1 dX19_serve_166 (lv_at hl 5 rfl) ?_
        refine lv_icmp_eq (tgt := 180) C.1.1 C.1.2.1 dX19_serve_168 (by decide) (fun c13 => ?_) (fun c13 => ?_)
        · replace hD := g_pos c13 hD
          exact hb180 v3 v6 M L _ _ ls hD hw (lv_sub hl [1, 2, 4, 7] rfl)
        · replace hD := g_neg c13 hD
          exact hb171 M L _ _ ls hD hw (lv_sub hl [1] rfl)
      · replace hD := g_pos c12 hD
        refine lv_iload C.1.1 C.1.2.1 dX19_serve_152 (lv_at hl 7 rfl) ?_
        refine lv_if_ne (tgt := 180) C.1.1 C.1.2.1 dX19_serve_154 (by decide) (fun c14 => ?_) (fun c14 => ?_)
        · replace hD := g_neg c14 hD
          exact hb180 v3 v6 M L _ _ ls hD hw (lv_sub hl [1, 2, 4, 7] rfl)
        · replace hD := g_pos c14 hD
          refine lv_iload C.1.1 C.1.2.1 dX19_serve_157 (lv_at hl 0 rfl) ?_
          refine lv_if_ne (tgt := 180) C.1.1 C.1.2.1 dX19_serve_159 (by decide) (fun c15 => ?_) (fun c15 => ?_)
          · replace hD := g_neg c15 hD
            exact hb180 v3 v6 M L _ _ ls hD hw (lv_sub hl [1, 2, 4, 7] rfl)
          · replace hD := g_pos c15 hD
            refine lv_goto (tgt := 171) C.1.1 C.1.2.1 dX19_serve_162 (by decide) ?_
            exact hb171 M L _ _ ls hD hw (lv_sub hl [1] rfl)
    · replace hD := g_pos c11 hD
      refine lv_aload_n C.1.1 C.1.2.1 dX19_serve_137 rfl (lv_at hl 1 rfl) ?_
      refine lv_bipush (v := 17) C.1.1 C.1.2.1 dX19_serve_138 (by decide) ?_
      obtain ⟨M16, L17, h1, hD⟩ := g_b2 hD
      refine md_cvV (As := [.int 17]) (rest := []) C hw (tX19_no l G ad fu 17 M L h1) kc_19 (by decide) tf_732 wd_3992 cwX19_no ⟨Nat.le_of_ble_eq_true rfl, Nat.le_of_ble_eq_true rfl⟩ rfl hl.1 (Nat.le_of_ble_eq_true rfl) dX19_serve_140 rfl rfl ⟨Nat.zero_le _, Nat.zero_le _⟩ rfl (fun H locs hw => ?_)
      refine lv_goto (tgt := 266) C.1.1 C.1.2.1 dX19_serve_143 (by decide) ?_
      exact hb266 M16 L17 _ _ ls hD hw (lv_sub hl [] rfl)
  have hb129 : ∀ (v3 : Int32) (v4 : Int32) (v5 : Int32) (v6 : Int32) (M : mwM) (L : mwL) (H : Heap) (locs : List Loc) (ls : Array Slot), fX19_serve_b129 fu a1 a2 v3 v4 v5 v6 M L = some (M0, L0) → mw_W G ad NF TF FF M L H locs → lv_has ls 8 [(0, .ref (ad 732)), (1, .int a1), (2, .int a2), (3, .int v3), (4, .int v4), (5, .int v5), (6, .int v6)] → W p l e ({ frames := 6, cells := 0, slots := 0, locals := 149 }) s m [.ref (ad 732), .int a1, .int a2].toArray below meth c H locs 0 0 (MQ below (mw_Qv G ad NF TF FF (mw_eqV M0 L0)) [.ref (ad 732), .int a1, .int a2].toArray s 0 0 (mw_fr G)) (F0 m 129 ls []) := by
    intro v3 v4 v5 v6 M L H locs ls hD hw hl
    unfold fX19_serve_b129 at hD
    refine lv_iconst (v := 0) C.1.1 C.1.2.1 dX19_serve_129 (by decide) ?_
    exact hb130 v3 v4 v5 v6 0 M L _ _ ls hD hw (lv_sub hl [0, 1, 2, 3, 4, 5, 6] rfl)
  have hb101 : ∀ (v3 : Int32) (v4 : Int32) (v5 : Int32) (s0 : Int32) (M : mwM) (L : mwL) (H : Heap) (locs : List Loc) (ls : Array Slot), fX19_serve_b101 fu a1 a2 v3 v4 v5 s0 M L = some (M0, L0) → mw_W G ad NF TF FF M L H locs → lv_has ls 8 [(0, .ref (ad 732)), (1, .int a1), (2, .int a2), (3, .int v3), (4, .int v4), (5, .int v5)] → W p l e ({ frames := 6, cells := 0, slots := 0, locals := 149 }) s m [.ref (ad 732), .int a1, .int a2].toArray below meth c H locs 0 0 (MQ below (mw_Qv G ad NF TF FF (mw_eqV M0 L0)) [.ref (ad 732), .int a1, .int a2].toArray s 0 0 (mw_fr G)) (F0 m 101 ls [.int s0]) := by
    intro v3 v4 v5 s0 M L H locs ls hD hw hl
    unfold fX19_serve_b101 at hD
    refine lv_istore (lv' := [(6, .int s0), (0, .ref (ad 732)), (1, .int a1), (2, .int a2), (3, .int v3), (4, .int v4), (5, .int v5)]) C.1.1 C.1.2.1 dX19_serve_101 hl (by decide) rfl (fun ls hl => ?_)
    refine lv_iload_n C.1.1 C.1.2.1 dX19_serve_103 rfl (lv_at hl 4 rfl) ?_
    refine lv_bipush (v := 39) C.1.1 C.1.2.1 dX19_serve_104 (by decide) ?_
    refine lv_icmp_ne (tgt := 129) C.1.1 C.1.2.1 dX19_serve_106 (by decide) (fun c7 => ?_) (fun c7 => ?_)
    · replace hD := g_neg c7 hD
      exact hb129 v3 v4 v5 s0 M L _ _ ls hD hw (lv_sub hl [1, 2, 3, 4, 5, 6, 0] rfl)
    · replace hD := g_pos c7 hD
      refine lv_iload_n C.1.1 C.1.2.1 dX19_serve_109 rfl (lv_at hl 3 rfl) ?_
      refine lv_bipush (v := 6) C.1.1 C.1.2.1 dX19_serve_110 (by decide) ?_
      refine lv_icmp_ne (tgt := 129) C.1.1 C.1.2.1 dX19_serve_112 (by decide) (fun c8 => ?_) (fun c8 => ?_)
      · replace hD := g_neg c8 hD
        exact hb129 v3 v4 v5 s0 M L _ _ ls hD hw (lv_sub hl [1, 2, 3, 4, 5, 6, 0] rfl)
      · replace hD := g_pos c8 hD
        refine lv_aload_n C.1.1 C.1.2.1 dX19_serve_115 rfl (lv_at hl 1 rfl) ?_
        refine mr_getR C hw kc_19 100 (by decide) tf_732 ff_732_100 wd_2881 dX19_serve_116 (by decide) rfl ?_
        refine lv_iconst (v := 1) C.1.1 C.1.2.1 dX19_serve_119 (by decide) ?_
        refine mr_iald C hw (by decide) tf_932 (show vp_in 1 128 from by unfold vp_in; decide) dX19_serve_120 ?_
        refine lv_iconst (v := 2) C.1.1 C.1.2.1 dX19_serve_121 (by decide) ?_
        refine lv_icmp_ne (tgt := 129) C.1.1 C.1.2.1 dX19_serve_122 (by decide) (fun c10 => ?_) (fun c10 => ?_)
        · replace hD := g_neg c10 hD
          exact hb129 v3 v4 v5 s0 M L _ _ ls hD hw (lv_sub hl [1, 2, 3, 4, 5, 6, 0] rfl)
        · replace hD := g_pos c10 hD
          refine lv_iconst (v := 1) C.1.1 C.1.2.1 dX19_serve_125 (by decide) ?_
          refine lv_goto (tgt := 130) C.1.1 C.1.2.1 dX19_serve_126 (by decide) ?_
          exact hb130 v3 v4 v5 s0 1 M L _ _ ls hD hw (lv_sub hl [1, 2, 3, 4, 5, 6, 0] rfl)
  have hb100 : ∀ (v3 : Int32) (v4 : Int32) (v5 : Int32) (M : mwM) (L : mwL) (H : Heap) (locs : List Loc) (ls : Array Slot), fX19_serve_b100 fu a1 a2 v3 v4 v5 M L = some (M0, L0) → mw_W G ad NF TF FF M L H locs → lv_has ls 8 [(0, .ref (ad 732)), (1, .int a1), (2, .int a2), (3, .int v3), (4, .int v4), (5, .int v5)] → W p l e ({ frames := 6, cells := 0, slots := 0, locals := 149 }) s m [.ref (ad 732), .int a1, .int a2].toArray below meth c H locs 0 0 (MQ below (mw_Qv G ad NF TF FF (mw_eqV M0 L0)) [.ref (ad 732), .int a1, .int a2].toArray s 0 0 (mw_fr G)) (F0 m 100 ls []) := by
    intro v3 v4 v5 M L H locs ls hD hw hl
    unfold fX19_serve_b100 at hD
    refine lv_iconst (v := 0) C.1.1 C.1.2.1 dX19_serve_100 (by decide) ?_
    exact hb101 v3 v4 v5 0 M L _ _ ls hD hw (lv_sub hl [0, 1, 2, 3, 4, 5] rfl)
  have hb73 : ∀ (v3 : Int32) (v4 : Int32) (s0 : Int32) (M : mwM) (L : mwL) (H : Heap) (locs : List Loc) (ls : Array Slot), fX19_serve_b73 fu a1 a2 v3 v4 s0 M L = some (M0, L0) → mw_W G ad NF TF FF M L H locs → lv_has ls 8 [(0, .ref (ad 732)), (1, .int a1), (2, .int a2), (3, .int v3), (4, .int v4)] → W p l e ({ frames := 6, cells := 0, slots := 0, locals := 149 }) s m [.ref (ad 732), .int a1, .int a2].toArray below meth c H locs 0 0 (MQ below (mw_Qv G ad NF TF FF (mw_eqV M0 L0)) [.ref (ad 732), .int a1, .int a2].toArray s 0 0 (mw_fr G)) (F0 m 73 ls [.int s0]) := by
    intro v3 v4 s0 M L H locs ls hD hw hl
    unfold fX19_serve_b73 at hD
    refine lv_istore (lv' := [(5, .int s0), (0, .ref (ad 732)), (1, .int a1), (2, .int a2), (3, .int v3), (4, .int v4)]) C.1.1 C.1.2.1 dX19_serve_73 hl (by decide) rfl (fun ls hl => ?_)
    refine lv_iload_n C.1.1 C.1.2.1 dX19_serve_75 rfl (lv_at hl 4 rfl) ?_
    refine lv_bipush (v := 39) C.1.1 C.1.2.1 dX19_serve_76 (by decide) ?_
    refine lv_icmp_ne (tgt := 100) C.1.1 C.1.2.1 dX19_serve_78 (by decide) (fun c3 => ?_) (fun c3 => ?_)
    · replace hD := g_neg c3 hD
      exact hb100 v3 v4 s0 M L _ _ ls hD hw (lv_sub hl [1, 2, 3, 4, 5, 0] rfl)
    · replace hD := g_pos c3 hD
      refine lv_iload_n C.1.1 C.1.2.1 dX19_serve_81 rfl (lv_at hl 3 rfl) ?_
      refine lv_iconst (v := 2) C.1.1 C.1.2.1 dX19_serve_82 (by decide) ?_
      refine lv_icmp_ne (tgt := 100) C.1.1 C.1.2.1 dX19_serve_83 (by decide) (fun c4 => ?_) (fun c4 => ?_)
      · replace hD := g_neg c4 hD
        exact hb100 v3 v4 s0 M L _ _ ls hD hw (lv_sub hl [1, 2, 3, 4, 5, 0] rfl)
      · replace hD := g_pos c4 hD
        refine lv_aload_n C.1.1 C.1.2.1 dX19_serve_86 rfl (lv_at hl 1 rfl) ?_
        refine mr_getR C hw kc_19 100 (by decide) tf_732 ff_732_100 wd_2881 dX19_serve_87 (by decide) rfl ?_
        refine lv_iconst (v := 1) C.1.1 C.1.2.1 dX19_serve_90 (by decide) ?_
        refine mr_iald C hw (by decide) tf_932 (show vp_in 1 128 from by unfold vp_in; decide) dX19_serve_91 ?_
        refine lv_iconst (v := 1) C.1.1 C.1.2.1 dX19_serve_92 (by decide) ?_
        refine lv_icmp_ne (tgt := 100) C.1.1 C.1.2.1 dX19_serve_93 (by decide) (fun c6 => ?_) (fun c6 => ?_)
        · replace hD := g_neg c6 hD
          exact hb100 v3 v4 s0 M L _ _ ls hD hw (lv_sub hl [1, 2, 3, 4, 5, 0] rfl)
        · replace hD := g_pos c6 hD
          refine lv_iconst (v := 1) C.1.1 C.1.2.1 dX19_serve_96 (by decide) ?_
          refine lv_goto (tgt := 101) C.1.1 C.1.2.1 dX19_serve_97 (by decide) ?_
          exact hb101 v3 v4 s0 1 M L _ _ ls hD hw (lv_sub hl [1, 2, 3, 4, 5, 0] rfl)
  have hb68 : ∀ (v3 : Int32) (v4 : Int32) (M : mwM) (L : mwL) (H : Heap) (locs : List Loc) (ls : Array Slot), fX19_serve_b68 fu a1 a2 v3 v4 M L = some (M0, L0) → mw_W G ad NF TF FF M L H locs → lv_has ls 8 [(0, .ref (ad 732)), (1, .int a1), (2, .int a2), (3, .int v3), (4, .int v4)] → W p l e ({ frames := 6, cells := 0, slots := 0, locals := 149 }) s m [.ref (ad 732), .int a1, .int a2].toArray below meth c H locs 0 0 (MQ below (mw_Qv G ad NF TF FF (mw_eqV M0 L0)) [.ref (ad 732), .int a1, .int a2].toArray s 0 0 (mw_fr G)) (F0 m 68 ls []) := by
    intro v3 v4 M L H locs ls hD hw hl
    unfold fX19_serve_b68 at hD
    refine lv_iconst (v := 1) C.1.1 C.1.2.1 dX19_serve_68 (by decide) ?_
    refine lv_goto (tgt := 73) C.1.1 C.1.2.1 dX19_serve_69 (by decide) ?_
    exact hb73 v3 v4 1 M L _ _ ls hD hw (lv_sub hl [0, 1, 2, 3, 4] rfl)
  have hb55 : ∀ (v3 : Int32) (s0 : Int32) (M : mwM) (L : mwL) (H : Heap) (locs : List Loc) (ls : Array Slot), fX19_serve_b55 fu a1 a2 v3 s0 M L = some (M0, L0) → mw_W G ad NF TF FF M L H locs → lv_has ls 8 [(0, .ref (ad 732)), (1, .int a1), (2, .int a2), (3, .int v3)] → W p l e ({ frames := 6, cells := 0, slots := 0, locals := 149 }) s m [.ref (ad 732), .int a1, .int a2].toArray below meth c H locs 0 0 (MQ below (mw_Qv G ad NF TF FF (mw_eqV M0 L0)) [.ref (ad 732), .int a1, .int a2].toArray s 0 0 (mw_fr G)) (F0 m 55 ls [.int s0]) := by
    intro v3 s0 M L H locs ls hD hw hl
    unfold fX19_serve_b55 at hD
    refine lv_istore (lv' := [(4, .int s0), (0, .ref (ad 732)), (1, .int a1), (2, .int a2), (3, .int v3)]) C.1.1 C.1.2.1 dX19_serve_55 hl (by decide) rfl (fun ls hl => ?_)
    refine lv_iload C.1.1 C.1.2.1 dX19_serve_57 (lv_at hl 0 rfl) ?_
    refine lv_if_gt (tgt := 68) C.1.1 C.1.2.1 dX19_serve_59 (by decide) (fun c1 => ?_) (fun c1 => ?_)
    · replace hD := g_pos c1 hD
      exact hb68 v3 s0 M L _ _ ls hD hw (lv_sub hl [1, 2, 3, 4, 0] rfl)
    · replace hD := g_neg c1 hD
      refine lv_iload_n C.1.1 C.1.2.1 dX19_serve_62 rfl (lv_at hl 4 rfl) ?_
      refine lv_bipush (v := 39) C.1.1 C.1.2.1 dX19_serve_63 (by decide) ?_
      refine lv_icmp_ne (tgt := 72) C.1.1 C.1.2.1 dX19_serve_65 (by decide) (fun c2 => ?_) (fun c2 => ?_)
      · replace hD := g_neg c2 hD
        refine lv_iconst (v := 0) C.1.1 C.1.2.1 dX19_serve_72 (by decide) ?_
        exact hb73 v3 s0 0 M L _ _ ls hD hw (lv_sub hl [1, 2, 3, 4, 0] rfl)
      · replace hD := g_pos c2 hD
        exact hb68 v3 s0 M L _ _ ls hD hw (lv_sub hl [1, 2, 3, 4, 0] rfl)
  have hb50 : ∀ (v3 : Int32) (M : mwM) (L : mwL) (H : Heap) (locs : List Loc) (ls : Array Slot), fX19_serve_b50 fu a1 a2 v3 M L = some (M0, L0) → mw_W G ad NF TF FF M L H locs → lv_has ls 8 [(0, .ref (ad 732)), (1, .int a1), (2, .int a2), (3, .int v3)] → W p l e ({ frames := 6, cells := 0, slots := 0, locals := 149 }) s m [.ref (ad 732), .int a1, .int a2].toArray below meth c H locs 0 0 (MQ below (mw_Qv G ad NF TF FF (mw_eqV M0 L0)) [.ref (ad 732), .int a1, .int a2].toArray s 0 0 (mw_fr G)) (F0 m 50 ls []) := by
    intro v3 M L H locs ls hD hw hl
    unfold fX19_serve_b50 at hD
    refine lv_iconst (v := 1) C.1.1 C.1.2.1 dX19_serve_50 (by decide) ?_
    refine lv_goto (tgt := 55) C.1.1 C.1.2.1 dX19_serve_51 (by decide) ?_
    exact hb55 v3 1 M L _ _ ls hD hw (lv_sub hl [0, 1, 2, 3] rfl)
  unfold DX19_serve at hD
  refine lv_aload_n C.1.1 C.1.2.1 dX19_serve_0 rfl (lv_at hl 0 rfl) ?_
  refine mr_getR C hw kc_19 100 (by decide) tf_732 ff_732_100 wd_2881 dX19_serve_1 (by decide) rfl ?_
  refine lv_iconst (v := 0) C.1.1 C.1.2.1 dX19_serve_4 (by decide) ?_
  refine mr_iald C hw (by decide) tf_932 (show vp_in 0 128 from by unfold vp_in; decide) dX19_serve_5 ?_
  obtain ⟨x41, ex41, hD⟩ := g_let hD
  refine W.eq (g2 := F0 m 6 ls (.int x41 :: [])) (by rw [ex41]) ?_
  refine lv_istore_n (lv' := [(3, .int x41), (0, .ref (ad 732)), (1, .int a1), (2, .int a2)]) C.1.1 C.1.2.1 dX19_serve_6 rfl hl (by decide) rfl (fun ls hl => ?_)
  refine lv_iload_n C.1.1 C.1.2.1 dX19_serve_7 rfl (lv_at hl 0 rfl) ?_
  refine lv_bipush (v := 16) C.1.1 C.1.2.1 dX19_serve_8 (by decide) ?_
  refine lv_icmp_ne (tgt := 17) C.1.1 C.1.2.1 dX19_serve_10 (by decide) (fun c42 => ?_) (fun c42 => ?_)
  · replace hD := g_neg c42 hD
    refine lv_iload_n C.1.1 C.1.2.1 dX19_serve_17 rfl (lv_at hl 0 rfl) ?_
    refine lv_bipush (v := 34) C.1.1 C.1.2.1 dX19_serve_18 (by decide) ?_
    refine lv_icmp_ne (tgt := 27) C.1.1 C.1.2.1 dX19_serve_20 (by decide) (fun c43 => ?_) (fun c43 => ?_)
    · replace hD := g_neg c43 hD
      refine lv_iload_n C.1.1 C.1.2.1 dX19_serve_27 rfl (lv_at hl 0 rfl) ?_
      refine lv_bipush (v := 46) C.1.1 C.1.2.1 dX19_serve_28 (by decide) ?_
      refine lv_icmp_ne (tgt := 38) C.1.1 C.1.2.1 dX19_serve_30 (by decide) (fun c44 => ?_) (fun c44 => ?_)
      · replace hD := g_neg c44 hD
        refine lv_iload_n C.1.1 C.1.2.1 dX19_serve_38 rfl (lv_at hl 0 rfl) ?_
        refine lv_bipush (v := 25) C.1.1 C.1.2.1 dX19_serve_39 (by decide) ?_
        refine lv_icmp_eq (tgt := 50) C.1.1 C.1.2.1 dX19_serve_41 (by decide) (fun c45 => ?_) (fun c45 => ?_)
        · replace hD := g_pos c45 hD
          exact hb50 x41 M L _ _ ls hD hw (lv_sub hl [1, 2, 3, 0] rfl)
        · replace hD := g_neg c45 hD
          refine lv_iload_n C.1.1 C.1.2.1 dX19_serve_44 rfl (lv_at hl 0 rfl) ?_
          refine lv_bipush (v := 20) C.1.1 C.1.2.1 dX19_serve_45 (by decide) ?_
          refine lv_icmp_ne (tgt := 54) C.1.1 C.1.2.1 dX19_serve_47 (by decide) (fun c46 => ?_) (fun c46 => ?_)
          · replace hD := g_neg c46 hD
            refine lv_iconst (v := 0) C.1.1 C.1.2.1 dX19_serve_54 (by decide) ?_
            exact hb55 x41 0 M L _ _ ls hD hw (lv_sub hl [1, 2, 3, 0] rfl)
          · replace hD := g_pos c46 hD
            exact hb50 x41 M L _ _ ls hD hw (lv_sub hl [1, 2, 3, 0] rfl)
      · replace hD := g_pos c44 hD
        refine lv_bipush (v := 11) C.1.1 C.1.2.1 dX19_serve_33 (by decide) ?_
        refine lv_goto (tgt := 55) C.1.1 C.1.2.1 dX19_serve_35 (by decide) ?_
        exact hb55 x41 11 M L _ _ ls hD hw (lv_sub hl [1, 2, 3, 0] rfl)
    · replace hD := g_pos c43 hD
      refine lv_iconst (v := 3) C.1.1 C.1.2.1 dX19_serve_23 (by decide) ?_
      refine lv_goto (tgt := 55) C.1.1 C.1.2.1 dX19_serve_24 (by decide) ?_
      exact hb55 x41 3 M L _ _ ls hD hw (lv_sub hl [1, 2, 3, 0] rfl)
  · replace hD := g_pos c42 hD
    refine lv_iconst (v := 2) C.1.1 C.1.2.1 dX19_serve_13 (by decide) ?_
    refine lv_goto (tgt := 55) C.1.1 C.1.2.1 dX19_serve_14 (by decide) ?_
    exact hb55 x41 2 M L _ _ ls hD hw (lv_sub hl [1, 2, 3, 0] rfl)

theorem dX19_say_0 : decode cX19_say 0 = .ok (.aload_n 0, 1) := by decide +kernel
theorem dX19_say_1 : decode cX19_say 1 = .ok (.getfield 198, 3) := by decide +kernel
theorem dX19_say_4 : decode cX19_say 4 = .ok (.aload_n 0, 1) := by decide +kernel
theorem dX19_say_5 : decode cX19_say 5 = .ok (.getfield 730, 3) := by decide +kernel
theorem dX19_say_8 : decode cX19_say 8 = .ok (.invokevirtual 733, 3) := by decide +kernel
theorem dX19_say_11 : decode cX19_say 11 = .ok (.istore_n 3, 1) := by decide +kernel
theorem dX19_say_12 : decode cX19_say 12 = .ok (.iload_n 3, 1) := by decide +kernel
theorem dX19_say_13 : decode cX19_say 13 = .ok (.iconst 1, 1) := by decide +kernel
theorem dX19_say_14 : decode cX19_say 14 = .ok (.if_icmp .ge 4, 3) := by decide +kernel
theorem dX19_say_17 : decode cX19_say 17 = .ok (.return_, 1) := by decide +kernel
theorem dX19_say_18 : decode cX19_say 18 = .ok (.aload_n 0, 1) := by decide +kernel
theorem dX19_say_19 : decode cX19_say 19 = .ok (.dup, 1) := by decide +kernel
theorem dX19_say_20 : decode cX19_say 20 = .ok (.getfield 603, 3) := by decide +kernel
theorem dX19_say_23 : decode cX19_say 23 = .ok (.iconst 1, 1) := by decide +kernel
theorem dX19_say_24 : decode cX19_say 24 = .ok (.iadd, 1) := by decide +kernel
theorem dX19_say_25 : decode cX19_say 25 = .ok (.putfield 603, 3) := by decide +kernel
theorem dX19_say_28 : decode cX19_say 28 = .ok (.aload_n 0, 1) := by decide +kernel
theorem dX19_say_29 : decode cX19_say 29 = .ok (.getfield 233, 3) := by decide +kernel
theorem dX19_say_32 : decode cX19_say 32 = .ok (.iload_n 3, 1) := by decide +kernel
theorem dX19_say_33 : decode cX19_say 33 = .ok (.iload_n 1, 1) := by decide +kernel
theorem dX19_say_34 : decode cX19_say 34 = .ok (.iastore, 1) := by decide +kernel
theorem dX19_say_35 : decode cX19_say 35 = .ok (.aload_n 0, 1) := by decide +kernel
theorem dX19_say_36 : decode cX19_say 36 = .ok (.getfield 236, 3) := by decide +kernel
theorem dX19_say_39 : decode cX19_say 39 = .ok (.iload_n 3, 1) := by decide +kernel
theorem dX19_say_40 : decode cX19_say 40 = .ok (.iload_n 2, 1) := by decide +kernel
theorem dX19_say_41 : decode cX19_say 41 = .ok (.bastore, 1) := by decide +kernel
theorem dX19_say_42 : decode cX19_say 42 = .ok (.iconst 0, 1) := by decide +kernel
theorem dX19_say_43 : decode cX19_say 43 = .ok (.istore 4, 2) := by decide +kernel
theorem dX19_say_45 : decode cX19_say 45 = .ok (.iload 4, 2) := by decide +kernel
theorem dX19_say_47 : decode cX19_say 47 = .ok (.aload_n 0, 1) := by decide +kernel
theorem dX19_say_48 : decode cX19_say 48 = .ok (.getfield 730, 3) := by decide +kernel
theorem dX19_say_51 : decode cX19_say 51 = .ok (.if_icmp .ge 27, 3) := by decide +kernel
theorem dX19_say_54 : decode cX19_say 54 = .ok (.aload_n 0, 1) := by decide +kernel
theorem dX19_say_55 : decode cX19_say 55 = .ok (.getfield 198, 3) := by decide +kernel
theorem dX19_say_58 : decode cX19_say 58 = .ok (.iload_n 3, 1) := by decide +kernel
theorem dX19_say_59 : decode cX19_say 59 = .ok (.iload 4, 2) := by decide +kernel
theorem dX19_say_61 : decode cX19_say 61 = .ok (.aload_n 0, 1) := by decide +kernel
theorem dX19_say_62 : decode cX19_say 62 = .ok (.getfield 255, 3) := by decide +kernel
theorem dX19_say_65 : decode cX19_say 65 = .ok (.iload 4, 2) := by decide +kernel
theorem dX19_say_67 : decode cX19_say 67 = .ok (.iaload, 1) := by decide +kernel
theorem dX19_say_68 : decode cX19_say 68 = .ok (.i2b, 1) := by decide +kernel
theorem dX19_say_69 : decode cX19_say 69 = .ok (.invokevirtual 735, 3) := by decide +kernel
theorem dX19_say_72 : decode cX19_say 72 = .ok (.iinc 4 1, 3) := by decide +kernel
theorem dX19_say_75 : decode cX19_say 75 = .ok (.goto (-30), 3) := by decide +kernel
theorem dX19_say_78 : decode cX19_say 78 = .ok (.return_, 1) := by decide +kernel
theorem cwX19_say : mw_cwV yX19_say cX19_say 5 (none) 2 := ⟨⟨wd_13, wd_4045, by decide +kernel⟩, wd_4044, sl_311⟩
set_option maxHeartbeats 4000000 in
set_option maxRecDepth 100000 in
theorem tX19_say (l : Launch) (G : mwG) (ad : Nat → Nat) (fu : Nat) (a1 : Int32) (a2 : Int32) (M : mwM) (L : mwL) {M0 : mwM} {L0 : mwL} (hD : DX19_say fu a1 a2 M L = some (M0, L0)) : Met l yX19_say (Cond.code yX19_say cX19_say 5 (none) :: GT) ({ frames := 2, cells := 0, slots := 0, locals := 44 }) (mw_Pre G ad NF TF FF M L [.ref (ad 732), .int a1, .int a2]) (mw_Qv G ad NF TF FF (mw_eqV M0 L0)) 0 0 (mw_fr G) := by
  refine mw_enter (by decide) (Nat.le_of_ble_eq_true rfl) ?_
  intro p e s m below meth c ls C hr hlocks hnm hw hl
  have hl : lv_has ls 5 [(0, .ref (ad 732)), (1, .int a1), (2, .int a2)] := hl
  have hh45 : ∀ (f : Nat) (v3 : Int32) (v4 : Int32) (M : mwM) (L : mwL) (H : Heap) (locs : List Loc) (ls : Array Slot), fX19_say_h45 fu a1 a2 f (v3, v4, M, L) = some (M0, L0) → mw_W G ad NF TF FF M L H locs → lv_has ls 5 [(0, .ref (ad 732)), (3, .int v3), (4, .int v4)] → W p l e ({ frames := 2, cells := 0, slots := 0, locals := 44 }) s m [.ref (ad 732), .int a1, .int a2].toArray below meth c H locs 0 0 (MQ below (mw_Qv G ad NF TF FF (mw_eqV M0 L0)) [.ref (ad 732), .int a1, .int a2].toArray s 0 0 (mw_fr G)) (F0 m 45 ls []) := by
    intro f
    induction f with
    | zero => intro v3 v4 M L H locs ls hD; cases hD
    | succ f45 ih45 =>
      intro v3 v4 M L H locs ls hD hw hl
      replace hD : fX19_say_i45 fu a1 a2 (fX19_say_h45 fu a1 a2 f45) v3 v4 M L = some (M0, L0) := hD
      unfold fX19_say_i45 at hD
      refine lv_iload C.1.1 C.1.2.1 dX19_say_45 (lv_at hl 2 rfl) ?_
      refine lv_aload_n C.1.1 C.1.2.1 dX19_say_47 rfl (lv_at hl 0 rfl) ?_
      refine mr_getI C hw kc_19 102 (by decide) tf_732 wd_2883 dX19_say_48 (by decide) rfl ?_
      refine lv_icmp_ge (tgt := 78) C.1.1 C.1.2.1 dX19_say_51 (by decide) (fun c1 => ?_) (fun c1 => ?_)
      · replace hD := g_pos c1 hD
        exact mr_vret C hr hlocks hw (Option.some.inj hD) dX19_say_78
      · replace hD := g_neg c1 hD
        refine lv_aload_n C.1.1 C.1.2.1 dX19_say_54 rfl (lv_at hl 0 rfl) ?_
        refine mr_getR C hw kc_19 79 (by decide) tf_732 ff_732_79 wd_2860 dX19_say_55 (by decide) rfl ?_
        refine lv_iload_n C.1.1 C.1.2.1 dX19_say_58 rfl (lv_at hl 1 rfl) ?_
        refine lv_iload C.1.1 C.1.2.1 dX19_say_59 (lv_at hl 2 rfl) ?_
        refine lv_aload_n C.1.1 C.1.2.1 dX19_say_61 rfl (lv_at hl 0 rfl) ?_
        refine mr_getR C hw kc_19 101 (by decide) tf_732 ff_732_101 wd_2882 dX19_say_62 (by decide) rfl ?_
        refine lv_iload C.1.1 C.1.2.1 dX19_say_65 (lv_at hl 2 rfl) ?_
        obtain ⟨q2, hD⟩ := g_ck hD
        refine mr_iald C hw (by decide) tf_933 q2 dX19_say_67 ?_
        refine lv_i2b C.1.1 C.1.2.1 dX19_say_68 rfl ?_
        obtain ⟨M3, L4, h1, hD⟩ := g_b2 hD
        refine md_cvV (As := [.int v3, .int v4, .int ((M 933 v4.toNatClampNeg).toInt8.toInt32)]) (rest := []) C hw (tX17_octet l G ad fu v3 v4 ((M 933 v4.toNatClampNeg).toInt8.toInt32) M L h1) kc_17 (by decide) tf_869 wd_4050 cwX17_octet ⟨Nat.le_of_ble_eq_true rfl, Nat.le_of_ble_eq_true rfl⟩ rfl hl.1 (Nat.le_of_ble_eq_true rfl) dX19_say_69 rfl rfl ⟨Nat.zero_le _, Nat.zero_le _⟩ rfl (fun H locs hw => ?_)
        obtain ⟨x5, ex5, hD⟩ := g_let hD
        refine lv_iinc (v := x5) (lv' := [(4, .int x5), (0, .ref (ad 732)), (3, .int v3)]) C.1.1 C.1.2.1 dX19_say_72 hl (k := 2) rfl (by rw [ex5]; rfl) (by decide) rfl (fun ls hl => ?_)
        refine lv_goto (tgt := 45) C.1.1 C.1.2.1 dX19_say_75 (by decide) ?_
        exact ih45 v3 x5 M3 L4 _ _ ls hD hw (lv_sub hl [1, 2, 0] rfl)
  unfold DX19_say at hD
  refine lv_aload_n C.1.1 C.1.2.1 dX19_say_0 rfl (lv_at hl 0 rfl) ?_
  refine mr_getR C hw kc_19 79 (by decide) tf_732 ff_732_79 wd_2860 dX19_say_1 (by decide) rfl ?_
  refine lv_aload_n C.1.1 C.1.2.1 dX19_say_4 rfl (lv_at hl 0 rfl) ?_
  refine mr_getI C hw kc_19 102 (by decide) tf_732 wd_2883 dX19_say_5 (by decide) rfl ?_
  obtain ⟨r8, M6, L7, h1, hD⟩ := g_b3 hD
  refine md_cvI (As := [.int (M 732 102)]) (rest := []) C hw (tX17_send l G ad fu (M 732 102) M L h1) kc_17 (by decide) tf_869 wd_4046 cwX17_send ⟨Nat.le_of_ble_eq_true rfl, Nat.le_of_ble_eq_true rfl⟩ rfl hl.1 (Nat.le_of_ble_eq_true rfl) dX19_say_8 rfl rfl ⟨Nat.zero_le _, Nat.zero_le _⟩ rfl (fun H locs hw => ?_)
  refine lv_istore_n (lv' := [(3, .int r8), (0, .ref (ad 732)), (1, .int a1), (2, .int a2)]) C.1.1 C.1.2.1 dX19_say_11 rfl hl (by decide) rfl (fun ls hl => ?_)
  refine lv_iload_n C.1.1 C.1.2.1 dX19_say_12 rfl (lv_at hl 0 rfl) ?_
  refine lv_iconst (v := 1) C.1.1 C.1.2.1 dX19_say_13 (by decide) ?_
  refine lv_icmp_ge (tgt := 18) C.1.1 C.1.2.1 dX19_say_14 (by decide) (fun c9 => ?_) (fun c9 => ?_)
  · replace hD := g_pos c9 hD
    refine lv_aload_n C.1.1 C.1.2.1 dX19_say_18 rfl (lv_at hl 1 rfl) ?_
    refine lv_dup C.1.1 C.1.2.1 dX19_say_19 rfl ?_
    refine mr_getI C hw kc_19 88 (by decide) tf_732 wd_2869 dX19_say_20 (by decide) rfl ?_
    refine lv_iconst (v := 1) C.1.1 C.1.2.1 dX19_say_23 (by decide) ?_
    refine lv_iadd C.1.1 C.1.2.1 dX19_say_24 ?_
    obtain ⟨M10, eM10, hD⟩ := g_let hD
    refine mr_putI C hw kc_19 88 (by decide) tf_732 wd_2869 dX19_say_25 (by decide) rfl rfl rfl rfl (fun H locs hw => ?_)
    replace hw : mw_W G ad NF TF FF M10 L7 H locs := by rw [eM10]; exact hw
    refine lv_aload_n C.1.1 C.1.2.1 dX19_say_28 rfl (lv_at hl 1 rfl) ?_
    refine mr_getR C hw kc_19 89 (by decide) tf_732 ff_732_89 wd_2870 dX19_say_29 (by decide) rfl ?_
    refine lv_iload_n C.1.1 C.1.2.1 dX19_say_32 rfl (lv_at hl 0 rfl) ?_
    refine lv_iload_n C.1.1 C.1.2.1 dX19_say_33 rfl (lv_at hl 2 rfl) ?_
    obtain ⟨q11, hD⟩ := g_ck hD
    obtain ⟨M12, eM12, hD⟩ := g_let hD
    refine mr_iast C hw (by decide) tf_927 q11 dX19_say_34 (fun H locs hw => ?_)
    replace hw : mw_W G ad NF TF FF M12 L7 H locs := by rw [eM12]; exact hw
    refine lv_aload_n C.1.1 C.1.2.1 dX19_say_35 rfl (lv_at hl 1 rfl) ?_
    refine mr_getR C hw kc_19 90 (by decide) tf_732 ff_732_90 wd_2871 dX19_say_36 (by decide) rfl ?_
    refine lv_iload_n C.1.1 C.1.2.1 dX19_say_39 rfl (lv_at hl 0 rfl) ?_
    refine lv_iload_n C.1.1 C.1.2.1 dX19_say_40 rfl (lv_at hl 3 rfl) ?_
    obtain ⟨q13, hD⟩ := g_ck hD
    obtain ⟨M14, eM14, hD⟩ := g_let hD
    refine mr_zast C hw (by decide) tf_928 q13 dX19_say_41 (fun H locs hw => ?_)
    replace hw : mw_W G ad NF TF FF M14 L7 H locs := by rw [eM14]; exact hw
    refine lv_iconst (v := 0) C.1.1 C.1.2.1 dX19_say_42 (by decide) ?_
    refine lv_istore (lv' := [(4, .int 0), (3, .int r8), (0, .ref (ad 732)), (1, .int a1), (2, .int a2)]) C.1.1 C.1.2.1 dX19_say_43 hl (by decide) rfl (fun ls hl => ?_)
    exact hh45 fu r8 0 M14 L7 _ _ ls hD hw (lv_sub hl [2, 1, 0] rfl)
  · replace hD := g_neg c9 hD
    exact mr_vret C hr hlocks hw (Option.some.inj hD) dX19_say_17
