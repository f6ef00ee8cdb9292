theorem dX15_step_0 : decode cX15_step 0 = .ok (.iload_n 1, 1) := by decide +kernel
theorem dX15_step_1 : decode cX15_step 1 = .ok (.ifCond .ne 12, 3) := by decide +kernel
theorem dX15_step_4 : decode cX15_step 4 = .ok (.aload_n 0, 1) := by decide +kernel
theorem dX15_step_5 : decode cX15_step 5 = .ok (.invokevirtual 216, 3) := by decide +kernel
theorem dX15_step_8 : decode cX15_step 8 = .ok (.ifCond .lt 5, 3) := by decide +kernel
theorem dX15_step_11 : decode cX15_step 11 = .ok (.iconst 0, 1) := by decide +kernel
theorem dX15_step_12 : decode cX15_step 12 = .ok (.ireturn, 1) := by decide +kernel
theorem dX15_step_13 : decode cX15_step 13 = .ok (.aload_n 0, 1) := by decide +kernel
theorem dX15_step_14 : decode cX15_step 14 = .ok (.iload_n 1, 1) := by decide +kernel
theorem dX15_step_15 : decode cX15_step 15 = .ok (.invokevirtual 220, 3) := by decide +kernel
theorem dX15_step_18 : decode cX15_step 18 = .ok (.istore_n 2, 1) := by decide +kernel
theorem dX15_step_19 : decode cX15_step 19 = .ok (.iload_n 2, 1) := by decide +kernel
theorem dX15_step_20 : decode cX15_step 20 = .ok (.ifCond .eq 21, 3) := by decide +kernel
theorem dX15_step_23 : decode cX15_step 23 = .ok (.aload_n 0, 1) := by decide +kernel
theorem dX15_step_24 : decode cX15_step 24 = .ok (.getfield 51, 3) := by decide +kernel
theorem dX15_step_27 : decode cX15_step 27 = .ok (.iload_n 2, 1) := by decide +kernel
theorem dX15_step_28 : decode cX15_step 28 = .ok (.baload, 1) := by decide +kernel
theorem dX15_step_29 : decode cX15_step 29 = .ok (.ifCond .ne 12, 3) := by decide +kernel
theorem dX15_step_32 : decode cX15_step 32 = .ok (.aload_n 0, 1) := by decide +kernel
theorem dX15_step_33 : decode cX15_step 33 = .ok (.getfield 78, 3) := by decide +kernel
theorem dX15_step_36 : decode cX15_step 36 = .ok (.iload_n 2, 1) := by decide +kernel
theorem dX15_step_37 : decode cX15_step 37 = .ok (.iaload, 1) := by decide +kernel
theorem dX15_step_38 : decode cX15_step 38 = .ok (.ifCond .le 5, 3) := by decide +kernel
theorem dX15_step_41 : decode cX15_step 41 = .ok (.iconst 0, 1) := by decide +kernel
theorem dX15_step_42 : decode cX15_step 42 = .ok (.ireturn, 1) := by decide +kernel
theorem dX15_step_43 : decode cX15_step 43 = .ok (.aload_n 0, 1) := by decide +kernel
theorem dX15_step_44 : decode cX15_step 44 = .ok (.iload_n 2, 1) := by decide +kernel
theorem dX15_step_45 : decode cX15_step 45 = .ok (.invokevirtual 223, 3) := by decide +kernel
theorem dX15_step_48 : decode cX15_step 48 = .ok (.istore_n 3, 1) := by decide +kernel
theorem dX15_step_49 : decode cX15_step 49 = .ok (.iload_n 3, 1) := by decide +kernel
theorem dX15_step_50 : decode cX15_step 50 = .ok (.ifCond .lt 14, 3) := by decide +kernel
theorem dX15_step_53 : decode cX15_step 53 = .ok (.aload_n 0, 1) := by decide +kernel
theorem dX15_step_54 : decode cX15_step 54 = .ok (.getfield 29, 3) := by decide +kernel
theorem dX15_step_57 : decode cX15_step 57 = .ok (.iload_n 3, 1) := by decide +kernel
theorem dX15_step_58 : decode cX15_step 58 = .ok (.iaload, 1) := by decide +kernel
theorem dX15_step_59 : decode cX15_step 59 = .ok (.ifCond .ne 5, 3) := by decide +kernel
theorem dX15_step_62 : decode cX15_step 62 = .ok (.iconst 0, 1) := by decide +kernel
theorem dX15_step_63 : decode cX15_step 63 = .ok (.ireturn, 1) := by decide +kernel
theorem dX15_step_64 : decode cX15_step 64 = .ok (.iload_n 3, 1) := by decide +kernel
theorem dX15_step_65 : decode cX15_step 65 = .ok (.ifCond .ge 11, 3) := by decide +kernel
theorem dX15_step_68 : decode cX15_step 68 = .ok (.aload_n 0, 1) := by decide +kernel
theorem dX15_step_69 : decode cX15_step 69 = .ok (.iload_n 2, 1) := by decide +kernel
theorem dX15_step_70 : decode cX15_step 70 = .ok (.invokevirtual 198, 3) := by decide +kernel
theorem dX15_step_73 : decode cX15_step 73 = .ok (.goto 20, 3) := by decide +kernel
theorem dX15_step_76 : decode cX15_step 76 = .ok (.aload_n 0, 1) := by decide +kernel
theorem dX15_step_77 : decode cX15_step 77 = .ok (.iload_n 2, 1) := by decide +kernel
theorem dX15_step_78 : decode cX15_step 78 = .ok (.aload_n 0, 1) := by decide +kernel
theorem dX15_step_79 : decode cX15_step 79 = .ok (.getfield 29, 3) := by decide +kernel
theorem dX15_step_82 : decode cX15_step 82 = .ok (.iload_n 3, 1) := by decide +kernel
theorem dX15_step_83 : decode cX15_step 83 = .ok (.iaload, 1) := by decide +kernel
theorem dX15_step_84 : decode cX15_step 84 = .ok (.aload_n 0, 1) := by decide +kernel
theorem dX15_step_85 : decode cX15_step 85 = .ok (.getfield 32, 3) := by decide +kernel
theorem dX15_step_88 : decode cX15_step 88 = .ok (.iload_n 3, 1) := by decide +kernel
theorem dX15_step_89 : decode cX15_step 89 = .ok (.laload, 1) := by decide +kernel
theorem dX15_step_90 : decode cX15_step 90 = .ok (.invokevirtual 226, 3) := by decide +kernel
theorem dX15_step_93 : decode cX15_step 93 = .ok (.iconst 1, 1) := by decide +kernel
theorem dX15_step_94 : decode cX15_step 94 = .ok (.ireturn, 1) := by decide +kernel
theorem cwX15_step : mw_cwV yX15_step cX15_step 4 ((some .boolean)) 1 := ⟨⟨wd_14, wd_3800, by decide +kernel⟩, wd_3799, sl_263⟩
set_option maxHeartbeats 4000000 in
set_option maxRecDepth 100000 in
theorem tX15_step (l : Launch) (G : mwG) (ad : Nat → Nat) (fu : Nat) (a1 : Int32) (M : mwM) (L : mwL) {r0 : Int32} {M0 : mwM} {L0 : mwL} (hD : DX15_step fu a1 M L = some (r0, M0, L0)) : Met l yX15_step (Cond.code yX15_step cX15_step 4 ((some .boolean)) :: GT) ({ frames := 5, cells := 0, slots := 0, locals := 116 }) (mw_Pre G ad NF TF FF M L [.ref (ad 787), .int a1]) (mw_Qi G ad NF TF FF (mw_eqI r0 M0 L0)) 0 0 (mw_fr G) := by
  refine mw_enter (by decide) (Nat.le_of_ble_eq_true rfl) ?_
  intro p e s m below meth c ls C hr hlocks hnm hw hl
  have hl : lv_has ls 4 [(0, .ref (ad 787)), (1, .int a1)] := hl
  have hb41 : ∀ (M : mwM) (L : mwL) (H : Heap) (locs : List Loc) (ls : Array Slot), fX15_step_b41 fu a1 M L = some (r0, M0, L0) → mw_W G ad NF TF FF M L H locs → lv_has ls 4 [] → W p l e ({ frames := 5, cells := 0, slots := 0, locals := 116 }) s m [.ref (ad 787), .int a1].toArray below meth c H locs 0 0 (MQ below (mw_Qi G ad NF TF FF (mw_eqI r0 M0 L0)) [.ref (ad 787), .int a1].toArray s 0 0 (mw_fr G)) (F0 m 41 ls []) := by
    intro M L H locs ls hD hw hl
    unfold fX15_step_b41 at hD
    refine lv_iconst (v := 0) C.1.1 C.1.2.1 dX15_step_41 (by decide) ?_
    exact mr_iret C hr hlocks hw (by decide +kernel) (Option.some.inj hD) dX15_step_42
  have hb93 : ∀ (M : mwM) (L : mwL) (H : Heap) (locs : List Loc) (ls : Array Slot), fX15_step_b93 fu a1 M L = some (r0, M0, L0) → mw_W G ad NF TF FF M L H locs → lv_has ls 4 [] → W p l e ({ frames := 5, cells := 0, slots := 0, locals := 116 }) s m [.ref (ad 787), .int a1].toArray below meth c H locs 0 0 (MQ below (mw_Qi G ad NF TF FF (mw_eqI r0 M0 L0)) [.ref (ad 787), .int a1].toArray s 0 0 (mw_fr G)) (F0 m 93 ls []) := by
    intro M L H locs ls hD hw hl
    unfold fX15_step_b93 at hD
    refine lv_iconst (v := 1) C.1.1 C.1.2.1 dX15_step_93 (by decide) ?_
    exact mr_iret C hr hlocks hw (by decide +kernel) (Option.some.inj hD) dX15_step_94
  have hb64 : ∀ (v2 : Int32) (v3 : Int32) (M : mwM) (L : mwL) (H : Heap) (locs : List Loc) (ls : Array Slot), fX15_step_b64 fu a1 v2 v3 M L = some (r0, M0, L0) → mw_W G ad NF TF FF M L H locs → lv_has ls 4 [(0, .ref (ad 787)), (2, .int v2), (3, .int v3)] → W p l e ({ frames := 5, cells := 0, slots := 0, locals := 116 }) s m [.ref (ad 787), .int a1].toArray below meth c H locs 0 0 (MQ below (mw_Qi G ad NF TF FF (mw_eqI r0 M0 L0)) [.ref (ad 787), .int a1].toArray s 0 0 (mw_fr G)) (F0 m 64 ls []) := by
    intro v2 v3 M L H locs ls hD hw hl
    unfold fX15_step_b64 at hD
    refine lv_iload_n C.1.1 C.1.2.1 dX15_step_64 rfl (lv_at hl 2 rfl) ?_
    refine lv_if_ge (tgt := 76) C.1.1 C.1.2.1 dX15_step_65 (by decide) (fun c15 => ?_) (fun c15 => ?_)
    · replace hD := g_pos c15 hD
      refine lv_aload_n C.1.1 C.1.2.1 dX15_step_76 rfl (lv_at hl 0 rfl) ?_
      refine lv_iload_n C.1.1 C.1.2.1 dX15_step_77 rfl (lv_at hl 1 rfl) ?_
      refine lv_aload_n C.1.1 C.1.2.1 dX15_step_78 rfl (lv_at hl 0 rfl) ?_
      refine mr_getR C hw kc_15 9 (by decide) tf_787 ff_787_9 wd_1964 dX15_step_79 (by decide) rfl ?_
      refine lv_iload_n C.1.1 C.1.2.1 dX15_step_82 rfl (lv_at hl 2 rfl) ?_
      obtain ⟨q16, hD⟩ := g_ck hD
      refine mr_iald C hw (by decide) tf_794 q16 dX15_step_83 ?_
      refine lv_aload_n C.1.1 C.1.2.1 dX15_step_84 rfl (lv_at hl 0 rfl) ?_
      refine mr_getR C hw kc_15 10 (by decide) tf_787 ff_787_10 wd_1965 dX15_step_85 (by decide) rfl ?_
      refine lv_iload_n C.1.1 C.1.2.1 dX15_step_88 rfl (lv_at hl 2 rfl) ?_
      obtain ⟨q17, hD⟩ := g_ck hD
      refine mr_lald C hw (by decide) tf_795 q17 dX15_step_89 ?_
      obtain ⟨M18, L19, h1, hD⟩ := g_b2 hD
      refine md_cvV (As := [.int v2, .int (M 794 v3.toNatClampNeg), .long (L 795 v3.toNatClampNeg)]) (rest := []) C hw (tX15_act l G ad fu v2 (M 794 v3.toNatClampNeg) (L 795 v3.toNatClampNeg) M L h1) kc_15 (by decide) tf_787 wd_3837 cwX15_act ⟨Nat.le_of_ble_eq_true rfl, Nat.le_of_ble_eq_true rfl⟩ rfl hl.1 (Nat.le_of_ble_eq_true rfl) dX15_step_90 rfl rfl ⟨Nat.zero_le _, Nat.zero_le _⟩ rfl (fun H locs hw => ?_)
      exact hb93 M18 L19 _ _ ls hD hw (lv_sub hl [] rfl)
    · replace hD := g_neg c15 hD
      refine lv_aload_n C.1.1 C.1.2.1 dX15_step_68 rfl (lv_at hl 0 rfl) ?_
      refine lv_iload_n C.1.1 C.1.2.1 dX15_step_69 rfl (lv_at hl 1 rfl) ?_
      obtain ⟨M20, L21, h1, hD⟩ := g_b2 hD
      refine md_cvV (As := [.int v2]) (rest := []) C hw (tX15_ends l G ad fu v2 M L h1) kc_15 (by decide) tf_787 wd_3821 cwX15_ends ⟨Nat.le_of_ble_eq_true rfl, Nat.le_of_ble_eq_true rfl⟩ rfl hl.1 (Nat.le_of_ble_eq_true rfl) dX15_step_70 rfl rfl ⟨Nat.zero_le _, Nat.zero_le _⟩ rfl (fun H locs hw => ?_)
      refine lv_goto (tgt := 93) C.1.1 C.1.2.1 dX15_step_73 (by decide) ?_
      exact hb93 M20 L21 _ _ ls hD hw (lv_sub hl [] rfl)
  have hb13 : ∀ (M : mwM) (L : mwL) (H : Heap) (locs : List Loc) (ls : Array Slot), fX15_step_b13 fu a1 M L = some (r0, M0, L0) → mw_W G ad NF TF FF M L H locs → lv_has ls 4 [(0, .ref (ad 787)), (1, .int a1)] → W p l e ({ frames := 5, cells := 0, slots := 0, locals := 116 }) s m [.ref (ad 787), .int a1].toArray below meth c H locs 0 0 (MQ below (mw_Qi G ad NF TF FF (mw_eqI r0 M0 L0)) [.ref (ad 787), .int a1].toArray s 0 0 (mw_fr G)) (F0 m 13 ls []) := by
    intro M L H locs ls hD hw hl
    unfold fX15_step_b13 at hD
    refine lv_aload_n C.1.1 C.1.2.1 dX15_step_13 rfl (lv_at hl 0 rfl) ?_
    refine lv_iload_n C.1.1 C.1.2.1 dX15_step_14 rfl (lv_at hl 1 rfl) ?_
    obtain ⟨r3, M1, L2, h1, hD⟩ := g_b3 hD
    refine md_cvI (As := [.int a1]) (rest := []) C hw (tX15_choose l G ad fu a1 M L h1) kc_15 (by decide) tf_787 wd_3805 cwX15_choose ⟨Nat.le_of_ble_eq_true rfl, Nat.le_of_ble_eq_true rfl⟩ rfl hl.1 (Nat.le_of_ble_eq_true rfl) dX15_step_15 rfl rfl ⟨Nat.zero_le _, Nat.zero_le _⟩ rfl (fun H locs hw => ?_)
    refine lv_istore_n (lv' := [(2, .int r3), (0, .ref (ad 787)), (1, .int a1)]) C.1.1 C.1.2.1 dX15_step_18 rfl hl (by decide) rfl (fun ls hl => ?_)
    refine lv_iload_n C.1.1 C.1.2.1 dX15_step_19 rfl (lv_at hl 0 rfl) ?_
    refine lv_if_eq (tgt := 41) C.1.1 C.1.2.1 dX15_step_20 (by decide) (fun c4 => ?_) (fun c4 => ?_)
    · replace hD := g_pos c4 hD
      exact hb41 M1 L2 _ _ ls hD hw (lv_sub hl [] rfl)
    · replace hD := g_neg c4 hD
      refine lv_aload_n C.1.1 C.1.2.1 dX15_step_23 rfl (lv_at hl 1 rfl) ?_
      refine mr_getR C hw kc_15 16 (by decide) tf_787 ff_787_16 wd_1971 dX15_step_24 (by decide) rfl ?_
      refine lv_iload_n C.1.1 C.1.2.1 dX15_step_27 rfl (lv_at hl 0 rfl) ?_
      obtain ⟨q5, hD⟩ := g_ck hD
      refine mr_zald C hw (by decide) tf_801 q5 dX15_step_28 ?_
      refine lv_if_ne (tgt := 41) C.1.1 C.1.2.1 dX15_step_29 (by decide) (fun c6 => ?_) (fun c6 => ?_)
      · replace hD := g_neg c6 hD
        exact hb41 M1 L2 _ _ ls hD hw (lv_sub hl [] rfl)
      · replace hD := g_pos c6 hD
        refine lv_aload_n C.1.1 C.1.2.1 dX15_step_32 rfl (lv_at hl 1 rfl) ?_
        refine mr_getR C hw kc_15 26 (by decide) tf_787 ff_787_26 wd_1981 dX15_step_33 (by decide) rfl ?_
        refine lv_iload_n C.1.1 C.1.2.1 dX15_step_36 rfl (lv_at hl 0 rfl) ?_
        obtain ⟨q7, hD⟩ := g_ck hD
        refine mr_iald C hw (by decide) tf_810 q7 dX15_step_37 ?_
        refine lv_if_le (tgt := 43) C.1.1 C.1.2.1 dX15_step_38 (by decide) (fun c8 => ?_) (fun c8 => ?_)
        · replace hD := g_pos c8 hD
          refine lv_aload_n C.1.1 C.1.2.1 dX15_step_43 rfl (lv_at hl 1 rfl) ?_
          refine lv_iload_n C.1.1 C.1.2.1 dX15_step_44 rfl (lv_at hl 0 rfl) ?_
          obtain ⟨r11, M9, L10, h1, hD⟩ := g_b3 hD
          refine md_cvI (As := [.int r3]) (rest := []) C hw (tX15_nextPart l G ad fu r3 M1 L2 h1) kc_15 (by decide) tf_787 wd_3817 cwX15_nextPart ⟨Nat.le_of_ble_eq_true rfl, Nat.le_of_ble_eq_true rfl⟩ rfl hl.1 (Nat.le_of_ble_eq_true rfl) dX15_step_45 rfl rfl ⟨Nat.zero_le _, Nat.zero_le _⟩ rfl (fun H locs hw => ?_)
          refine lv_istore_n (lv' := [(3, .int r11), (2, .int r3), (0, .ref (ad 787)), (1, .int a1)]) C.1.1 C.1.2.1 dX15_step_48 rfl hl (by decide) rfl (fun ls hl => ?_)
          refine lv_iload_n C.1.1 C.1.2.1 dX15_step_49 rfl (lv_at hl 0 rfl) ?_
          refine lv_if_lt (tgt := 64) C.1.1 C.1.2.1 dX15_step_50 (by decide) (fun c12 => ?_) (fun c12 => ?_)
          · replace hD := g_pos c12 hD
            exact hb64 r3 r11 M9 L10 _ _ ls hD hw (lv_sub hl [2, 1, 0] rfl)
          · replace hD := g_neg c12 hD
            refine lv_aload_n C.1.1 C.1.2.1 dX15_step_53 rfl (lv_at hl 2 rfl) ?_
            refine mr_getR C hw kc_15 9 (by decide) tf_787 ff_787_9 wd_1964 dX15_step_54 (by decide) rfl ?_
            refine lv_iload_n C.1.1 C.1.2.1 dX15_step_57 rfl (lv_at hl 0 rfl) ?_
            obtain ⟨q13, hD⟩ := g_ck hD
            refine mr_iald C hw (by decide) tf_794 q13 dX15_step_58 ?_
            refine lv_if_ne (tgt := 64) C.1.1 C.1.2.1 dX15_step_59 (by decide) (fun c14 => ?_) (fun c14 => ?_)
            · replace hD := g_neg c14 hD
              exact hb64 r3 r11 M9 L10 _ _ ls hD hw (lv_sub hl [2, 1, 0] rfl)
            · replace hD := g_pos c14 hD
              refine lv_iconst (v := 0) C.1.1 C.1.2.1 dX15_step_62 (by decide) ?_
              exact mr_iret C hr hlocks hw (by decide +kernel) (Option.some.inj hD) dX15_step_63
        · replace hD := g_neg c8 hD
          exact hb41 M1 L2 _ _ ls hD hw (lv_sub hl [] rfl)
  unfold DX15_step at hD
  refine lv_iload_n C.1.1 C.1.2.1 dX15_step_0 rfl (lv_at hl 1 rfl) ?_
  refine lv_if_ne (tgt := 13) C.1.1 C.1.2.1 dX15_step_1 (by decide) (fun c22 => ?_) (fun c22 => ?_)
  · replace hD := g_neg c22 hD
    exact hb13 M L _ _ ls hD hw (lv_sub hl [0, 1] rfl)
  · replace hD := g_pos c22 hD
    refine lv_aload_n C.1.1 C.1.2.1 dX15_step_4 rfl (lv_at hl 0 rfl) ?_
    obtain ⟨r25, M23, L24, h1, hD⟩ := g_b3 hD
    refine md_cvI (As := []) (rest := []) C hw (tX15_atHand l G ad fu M L h1) kc_15 (by decide) tf_787 wd_3801 cwX15_atHand ⟨Nat.le_of_ble_eq_true rfl, Nat.le_of_ble_eq_true rfl⟩ rfl hl.1 (Nat.le_of_ble_eq_true rfl) dX15_step_5 rfl rfl ⟨Nat.zero_le _, Nat.zero_le _⟩ rfl (fun H locs hw => ?_)
    refine lv_if_lt (tgt := 13) C.1.1 C.1.2.1 dX15_step_8 (by decide) (fun c26 => ?_) (fun c26 => ?_)
    · replace hD := g_pos c26 hD
      exact hb13 M23 L24 _ _ ls hD hw (lv_sub hl [0, 1] rfl)
    · replace hD := g_neg c26 hD
      refine lv_iconst (v := 0) C.1.1 C.1.2.1 dX15_step_11 (by decide) ?_
      exact mr_iret C hr hlocks hw (by decide +kernel) (Option.some.inj hD) dX15_step_12

theorem dX15_pass_0 : decode cX15_pass 0 = .ok (.aload_n 0, 1) := by decide +kernel
theorem dX15_pass_1 : decode cX15_pass 1 = .ok (.getfield 63, 3) := by decide +kernel
theorem dX15_pass_4 : decode cX15_pass 4 = .ok (.iload_n 1, 1) := by decide +kernel
theorem dX15_pass_5 : decode cX15_pass 5 = .ok (.dup2, 1) := by decide +kernel
theorem dX15_pass_6 : decode cX15_pass 6 = .ok (.laload, 1) := by decide +kernel
theorem dX15_pass_7 : decode cX15_pass 7 = .ok (.lconst 1, 1) := by decide +kernel
theorem dX15_pass_8 : decode cX15_pass 8 = .ok (.ladd, 1) := by decide +kernel
theorem dX15_pass_9 : decode cX15_pass 9 = .ok (.lastore, 1) := by decide +kernel
theorem dX15_pass_10 : decode cX15_pass 10 = .ok (.aload_n 0, 1) := by decide +kernel
theorem dX15_pass_11 : decode cX15_pass 11 = .ok (.getfield 78, 3) := by decide +kernel
theorem dX15_pass_14 : decode cX15_pass 14 = .ok (.iload_n 1, 1) := by decide +kernel
theorem dX15_pass_15 : decode cX15_pass 15 = .ok (.iaload, 1) := by decide +kernel
theorem dX15_pass_16 : decode cX15_pass 16 = .ok (.ifCond .le 4, 3) := by decide +kernel
theorem dX15_pass_19 : decode cX15_pass 19 = .ok (.return_, 1) := by decide +kernel
theorem dX15_pass_20 : decode cX15_pass 20 = .ok (.aload_n 0, 1) := by decide +kernel
theorem dX15_pass_21 : decode cX15_pass 21 = .ok (.getfield 51, 3) := by decide +kernel
theorem dX15_pass_24 : decode cX15_pass 24 = .ok (.iload_n 1, 1) := by decide +kernel
theorem dX15_pass_25 : decode cX15_pass 25 = .ok (.baload, 1) := by decide +kernel
theorem dX15_pass_26 : decode cX15_pass 26 = .ok (.ifCond .eq 20, 3) := by decide +kernel
theorem dX15_pass_29 : decode cX15_pass 29 = .ok (.aload_n 0, 1) := by decide +kernel
theorem dX15_pass_30 : decode cX15_pass 30 = .ok (.getfield 51, 3) := by decide +kernel
theorem dX15_pass_33 : decode cX15_pass 33 = .ok (.iload_n 1, 1) := by decide +kernel
theorem dX15_pass_34 : decode cX15_pass 34 = .ok (.iconst 0, 1) := by decide +kernel
theorem dX15_pass_35 : decode cX15_pass 35 = .ok (.bastore, 1) := by decide +kernel
theorem dX15_pass_36 : decode cX15_pass 36 = .ok (.aload_n 0, 1) := by decide +kernel
theorem dX15_pass_37 : decode cX15_pass 37 = .ok (.getfield 48, 3) := by decide +kernel
theorem dX15_pass_40 : decode cX15_pass 40 = .ok (.iload_n 1, 1) := by decide +kernel
theorem dX15_pass_41 : decode cX15_pass 41 = .ok (.ldc2_w 230, 3) := by decide +kernel
theorem dX15_pass_44 : decode cX15_pass 44 = .ok (.lastore, 1) := by decide +kernel
theorem dX15_pass_45 : decode cX15_pass 45 = .ok (.return_, 1) := by decide +kernel
theorem dX15_pass_46 : decode cX15_pass 46 = .ok (.aload_n 0, 1) := by decide +kernel
theorem dX15_pass_47 : decode cX15_pass 47 = .ok (.getfield 48, 3) := by decide +kernel
theorem dX15_pass_50 : decode cX15_pass 50 = .ok (.iload_n 1, 1) := by decide +kernel
theorem dX15_pass_51 : decode cX15_pass 51 = .ok (.laload, 1) := by decide +kernel
theorem dX15_pass_52 : decode cX15_pass 52 = .ok (.lconst 0, 1) := by decide +kernel
theorem dX15_pass_53 : decode cX15_pass 53 = .ok (.lcmp, 1) := by decide +kernel
theorem dX15_pass_54 : decode cX15_pass 54 = .ok (.ifCond .ge 19, 3) := by decide +kernel
theorem dX15_pass_57 : decode cX15_pass 57 = .ok (.aload_n 0, 1) := by decide +kernel
theorem dX15_pass_58 : decode cX15_pass 58 = .ok (.getfield 48, 3) := by decide +kernel
theorem dX15_pass_61 : decode cX15_pass 61 = .ok (.iload_n 1, 1) := by decide +kernel
theorem dX15_pass_62 : decode cX15_pass 62 = .ok (.aload_n 0, 1) := by decide +kernel
theorem dX15_pass_63 : decode cX15_pass 63 = .ok (.getfield 32, 3) := by decide +kernel
theorem dX15_pass_66 : decode cX15_pass 66 = .ok (.aload_n 0, 1) := by decide +kernel
theorem dX15_pass_67 : decode cX15_pass 67 = .ok (.iload_n 1, 1) := by decide +kernel
theorem dX15_pass_68 : decode cX15_pass 68 = .ok (.invokevirtual 223, 3) := by decide +kernel
theorem dX15_pass_71 : decode cX15_pass 71 = .ok (.laload, 1) := by decide +kernel
theorem dX15_pass_72 : decode cX15_pass 72 = .ok (.lastore, 1) := by decide +kernel
theorem dX15_pass_73 : decode cX15_pass 73 = .ok (.aload_n 0, 1) := by decide +kernel
theorem dX15_pass_74 : decode cX15_pass 74 = .ok (.getfield 48, 3) := by decide +kernel
theorem dX15_pass_77 : decode cX15_pass 77 = .ok (.iload_n 1, 1) := by decide +kernel
theorem dX15_pass_78 : decode cX15_pass 78 = .ok (.dup2, 1) := by decide +kernel
theorem dX15_pass_79 : decode cX15_pass 79 = .ok (.laload, 1) := by decide +kernel
theorem dX15_pass_80 : decode cX15_pass 80 = .ok (.lconst 1, 1) := by decide +kernel
theorem dX15_pass_81 : decode cX15_pass 81 = .ok (.lsub, 1) := by decide +kernel
theorem dX15_pass_82 : decode cX15_pass 82 = .ok (.lastore, 1) := by decide +kernel
theorem dX15_pass_83 : decode cX15_pass 83 = .ok (.aload_n 0, 1) := by decide +kernel
theorem dX15_pass_84 : decode cX15_pass 84 = .ok (.getfield 48, 3) := by decide +kernel
theorem dX15_pass_87 : decode cX15_pass 87 = .ok (.iload_n 1, 1) := by decide +kernel
theorem dX15_pass_88 : decode cX15_pass 88 = .ok (.laload, 1) := by decide +kernel
theorem dX15_pass_89 : decode cX15_pass 89 = .ok (.lconst 0, 1) := by decide +kernel
theorem dX15_pass_90 : decode cX15_pass 90 = .ok (.lcmp, 1) := by decide +kernel
theorem dX15_pass_91 : decode cX15_pass 91 = .ok (.ifCond .le 4, 3) := by decide +kernel
theorem dX15_pass_94 : decode cX15_pass 94 = .ok (.return_, 1) := by decide +kernel
theorem dX15_pass_95 : decode cX15_pass 95 = .ok (.aload_n 0, 1) := by decide +kernel
theorem dX15_pass_96 : decode cX15_pass 96 = .ok (.getfield 48, 3) := by decide +kernel
theorem dX15_pass_99 : decode cX15_pass 99 = .ok (.iload_n 1, 1) := by decide +kernel
theorem dX15_pass_100 : decode cX15_pass 100 = .ok (.ldc2_w 230, 3) := by decide +kernel
theorem dX15_pass_103 : decode cX15_pass 103 = .ok (.lastore, 1) := by decide +kernel
theorem dX15_pass_104 : decode cX15_pass 104 = .ok (.aload_n 0, 1) := by decide +kernel
theorem dX15_pass_105 : decode cX15_pass 105 = .ok (.getfield 45, 3) := by decide +kernel
theorem dX15_pass_108 : decode cX15_pass 108 = .ok (.iload_n 1, 1) := by decide +kernel
theorem dX15_pass_109 : decode cX15_pass 109 = .ok (.dup2, 1) := by decide +kernel
theorem dX15_pass_110 : decode cX15_pass 110 = .ok (.iaload, 1) := by decide +kernel
theorem dX15_pass_111 : decode cX15_pass 111 = .ok (.iconst 1, 1) := by decide +kernel
theorem dX15_pass_112 : decode cX15_pass 112 = .ok (.iadd, 1) := by decide +kernel
theorem dX15_pass_113 : decode cX15_pass 113 = .ok (.iastore, 1) := by decide +kernel
theorem dX15_pass_114 : decode cX15_pass 114 = .ok (.return_, 1) := by decide +kernel
theorem cwX15_pass : mw_cwV yX15_pass cX15_pass 2 (none) 1 := ⟨⟨wd_14, wd_3853, by decide +kernel⟩, wd_3852, sl_276⟩
set_option maxHeartbeats 4000000 in
set_option maxRecDepth 100000 in
theorem tX15_pass (l : Launch) (G : mwG) (ad : Nat → Nat) (fu : Nat) (a1 : Int32) (M : mwM) (L : mwL) {M0 : mwM} {L0 : mwL} (hD : DX15_pass fu a1 M L = some (M0, L0)) : Met l yX15_pass (Cond.code yX15_pass cX15_pass 2 (none) :: GT) ({ frames := 1, cells := 0, slots := 0, locals := 23 }) (mw_Pre G ad NF TF FF M L [.ref (ad 787), .int a1]) (mw_Qv G ad NF TF FF (mw_eqV M0 L0)) 0 0 (mw_fr G) := by
  refine mw_enter (by decide) (Nat.le_of_ble_eq_true rfl) ?_
  intro p e s m below meth c ls C hr hlocks hnm hw hl
  have hl : lv_has ls 2 [(0, .ref (ad 787)), (1, .int a1)] := hl
  have hb73 : ∀ (M : mwM) (L : mwL) (H : Heap) (locs : List Loc) (ls : Array Slot), fX15_pass_b73 fu a1 M L = some (M0, L0) → mw_W G ad NF TF FF M L H locs → lv_has ls 2 [(0, .ref (ad 787)), (1, .int a1)] → W p l e ({ frames := 1, cells := 0, slots := 0, locals := 23 }) s m [.ref (ad 787), .int a1].toArray below meth c H locs 0 0 (MQ below (mw_Qv G ad NF TF FF (mw_eqV M0 L0)) [.ref (ad 787), .int a1].toArray s 0 0 (mw_fr G)) (F0 m 73 ls []) := by
    intro M L H locs ls hD hw hl
    unfold fX15_pass_b73 at hD
    refine lv_aload_n C.1.1 C.1.2.1 dX15_pass_73 rfl (lv_at hl 0 rfl) ?_
    refine mr_getR C hw kc_15 15 (by decide) tf_787 ff_787_15 wd_1970 dX15_pass_74 (by decide) rfl ?_
    refine lv_iload_n C.1.1 C.1.2.1 dX15_pass_77 rfl (lv_at hl 1 rfl) ?_
    refine lv_dup2_11 C.1.1 C.1.2.1 dX15_pass_78 rfl rfl ?_
    obtain ⟨q1, hD⟩ := g_ck hD
    refine mr_lald C hw (by decide) tf_800 q1 dX15_pass_79 ?_
    refine lv_lconst (v := 1) C.1.1 C.1.2.1 dX15_pass_80 (by decide) ?_
    refine lv_lsub C.1.1 C.1.2.1 dX15_pass_81 ?_
    obtain ⟨q2, hD⟩ := g_ck hD
    obtain ⟨L3, eL3, hD⟩ := g_let hD
    refine mr_last C hw (by decide) tf_800 q2 dX15_pass_82 (fun H locs hw => ?_)
    replace hw : mw_W G ad NF TF FF M L3 H locs := by rw [eL3]; exact hw
    refine lv_aload_n C.1.1 C.1.2.1 dX15_pass_83 rfl (lv_at hl 0 rfl) ?_
    refine mr_getR C hw kc_15 15 (by decide) tf_787 ff_787_15 wd_1970 dX15_pass_84 (by decide) rfl ?_
    refine lv_iload_n C.1.1 C.1.2.1 dX15_pass_87 rfl (lv_at hl 1 rfl) ?_
    obtain ⟨q4, hD⟩ := g_ck hD
    refine mr_lald C hw (by decide) tf_800 q4 dX15_pass_88 ?_
    refine lv_lconst (v := 0) C.1.1 C.1.2.1 dX15_pass_89 (by decide) ?_
    refine W.lcmp C.1.1 C.1.2.1 dX15_pass_90 ?_
    refine lv_if_le (tgt := 95) C.1.1 C.1.2.1 dX15_pass_91 (by decide) (fun c5 => ?_) (fun c5 => ?_)
    · replace hD := g_pos c5 hD
      refine lv_aload_n C.1.1 C.1.2.1 dX15_pass_95 rfl (lv_at hl 0 rfl) ?_
      refine mr_getR C hw kc_15 15 (by decide) tf_787 ff_787_15 wd_1970 dX15_pass_96 (by decide) rfl ?_
      refine lv_iload_n C.1.1 C.1.2.1 dX15_pass_99 rfl (lv_at hl 1 rfl) ?_
      refine lv_ldc2 (v := (-1)) C.1.1 C.1.2.1 C.1.2.2.2.1 (C.1.2.2.2.2 _ wd_3772) dX15_pass_100 ?_
      obtain ⟨q6, hD⟩ := g_ck hD
      obtain ⟨L7, eL7, hD⟩ := g_let hD
      refine mr_last C hw (by decide) tf_800 q6 dX15_pass_103 (fun H locs hw => ?_)
      replace hw : mw_W G ad NF TF FF M L7 H locs := by rw [eL7]; exact hw
      refine lv_aload_n C.1.1 C.1.2.1 dX15_pass_104 rfl (lv_at hl 0 rfl) ?_
      refine mr_getR C hw kc_15 14 (by decide) tf_787 ff_787_14 wd_1969 dX15_pass_105 (by decide) rfl ?_
      refine lv_iload_n C.1.1 C.1.2.1 dX15_pass_108 rfl (lv_at hl 1 rfl) ?_
      refine lv_dup2_11 C.1.1 C.1.2.1 dX15_pass_109 rfl rfl ?_
      obtain ⟨q8, hD⟩ := g_ck hD
      refine mr_iald C hw (by decide) tf_799 q8 dX15_pass_110 ?_
      refine lv_iconst (v := 1) C.1.1 C.1.2.1 dX15_pass_111 (by decide) ?_
      refine lv_iadd C.1.1 C.1.2.1 dX15_pass_112 ?_
      obtain ⟨q9, hD⟩ := g_ck hD
      obtain ⟨M10, eM10, hD⟩ := g_let hD
      refine mr_iast C hw (by decide) tf_799 q9 dX15_pass_113 (fun H locs hw => ?_)
      replace hw : mw_W G ad NF TF FF M10 L7 H locs := by rw [eM10]; exact hw
      exact mr_vret C hr hlocks hw (Option.some.inj hD) dX15_pass_114
    · replace hD := g_neg c5 hD
      exact mr_vret C hr hlocks hw (Option.some.inj hD) dX15_pass_94
  unfold DX15_pass at hD
  refine lv_aload_n C.1.1 C.1.2.1 dX15_pass_0 rfl (lv_at hl 0 rfl) ?_
  refine mr_getR C hw kc_15 20 (by decide) tf_787 ff_787_20 wd_1975 dX15_pass_1 (by decide) rfl ?_
  refine lv_iload_n C.1.1 C.1.2.1 dX15_pass_4 rfl (lv_at hl 1 rfl) ?_
  refine lv_dup2_11 C.1.1 C.1.2.1 dX15_pass_5 rfl rfl ?_
  obtain ⟨q11, hD⟩ := g_ck hD
  refine mr_lald C hw (by decide) tf_805 q11 dX15_pass_6 ?_
  refine lv_lconst (v := 1) C.1.1 C.1.2.1 dX15_pass_7 (by decide) ?_
  refine lv_ladd C.1.1 C.1.2.1 dX15_pass_8 ?_
  obtain ⟨q12, hD⟩ := g_ck hD
  obtain ⟨L13, eL13, hD⟩ := g_let hD
  refine mr_last C hw (by decide) tf_805 q12 dX15_pass_9 (fun H locs hw => ?_)
  replace hw : mw_W G ad NF TF FF M L13 H locs := by rw [eL13]; exact hw
  refine lv_aload_n C.1.1 C.1.2.1 dX15_pass_10 rfl (lv_at hl 0 rfl) ?_
  refine mr_getR C hw kc_15 26 (by decide) tf_787 ff_787_26 wd_1981 dX15_pass_11 (by decide) rfl ?_
  refine lv_iload_n C.1.1 C.1.2.1 dX15_pass_14 rfl (lv_at hl 1 rfl) ?_
  obtain ⟨q14, hD⟩ := g_ck hD
  refine mr_iald C hw (by decide) tf_810 q14 dX15_pass_15 ?_
  refine lv_if_le (tgt := 20) C.1.1 C.1.2.1 dX15_pass_16 (by decide) (fun c15 => ?_) (fun c15 => ?_)
  · replace hD := g_pos c15 hD
    refine lv_aload_n C.1.1 C.1.2.1 dX15_pass_20 rfl (lv_at hl 0 rfl) ?_
    refine mr_getR C hw kc_15 16 (by decide) tf_787 ff_787_16 wd_1971 dX15_pass_21 (by decide) rfl ?_
    refine lv_iload_n C.1.1 C.1.2.1 dX15_pass_24 rfl (lv_at hl 1 rfl) ?_
    obtain ⟨q16, hD⟩ := g_ck hD
    refine mr_zald C hw (by decide) tf_801 q16 dX15_pass_25 ?_
    refine lv_if_eq (tgt := 46) C.1.1 C.1.2.1 dX15_pass_26 (by decide) (fun c17 => ?_) (fun c17 => ?_)
    · replace hD := g_pos c17 hD
      refine lv_aload_n C.1.1 C.1.2.1 dX15_pass_46 rfl (lv_at hl 0 rfl) ?_
      refine mr_getR C hw kc_15 15 (by decide) tf_787 ff_787_15 wd_1970 dX15_pass_47 (by decide) rfl ?_
      refine lv_iload_n C.1.1 C.1.2.1 dX15_pass_50 rfl (lv_at hl 1 rfl) ?_
      obtain ⟨q18, hD⟩ := g_ck hD
      refine mr_lald C hw (by decide) tf_800 q18 dX15_pass_51 ?_
      refine lv_lconst (v := 0) C.1.1 C.1.2.1 dX15_pass_52 (by decide) ?_
      refine W.lcmp C.1.1 C.1.2.1 dX15_pass_53 ?_
      refine lv_if_ge (tgt := 73) C.1.1 C.1.2.1 dX15_pass_54 (by decide) (fun c19 => ?_) (fun c19 => ?_)
      · replace hD := g_pos c19 hD
        exact hb73 M L13 _ _ ls hD hw (lv_sub hl [0, 1] rfl)
      · replace hD := g_neg c19 hD
        refine lv_aload_n C.1.1 C.1.2.1 dX15_pass_57 rfl (lv_at hl 0 rfl) ?_
        refine mr_getR C hw kc_15 15 (by decide) tf_787 ff_787_15 wd_1970 dX15_pass_58 (by decide) rfl ?_
        refine lv_iload_n C.1.1 C.1.2.1 dX15_pass_61 rfl (lv_at hl 1 rfl) ?_
        refine lv_aload_n C.1.1 C.1.2.1 dX15_pass_62 rfl (lv_at hl 0 rfl) ?_
        refine mr_getR C hw kc_15 10 (by decide) tf_787 ff_787_10 wd_1965 dX15_pass_63 (by decide) rfl ?_
        refine lv_aload_n C.1.1 C.1.2.1 dX15_pass_66 rfl (lv_at hl 0 rfl) ?_
        refine lv_iload_n C.1.1 C.1.2.1 dX15_pass_67 rfl (lv_at hl 1 rfl) ?_
        obtain ⟨r22, M20, L21, h1, hD⟩ := g_b3 hD
        refine md_cvI (As := [.int a1]) (rest := [.ref (ad 795), .int a1, .ref (ad 800)]) C hw (tX15_nextPart l G ad fu a1 M L13 h1) kc_15 (by decide) tf_787 wd_3817 cwX15_nextPart ⟨Nat.le_of_ble_eq_true rfl, Nat.le_of_ble_eq_true rfl⟩ rfl hl.1 (Nat.le_of_ble_eq_true rfl) dX15_pass_68 rfl rfl ⟨Nat.zero_le _, Nat.zero_le _⟩ rfl (fun H locs hw => ?_)
        obtain ⟨q23, hD⟩ := g_ck hD
        refine mr_lald C hw (by decide) tf_795 q23 dX15_pass_71 ?_
        obtain ⟨q24, hD⟩ := g_ck hD
        obtain ⟨L25, eL25, hD⟩ := g_let hD
        refine mr_last C hw (by decide) tf_800 q24 dX15_pass_72 (fun H locs hw => ?_)
        replace hw : mw_W G ad NF TF FF M20 L25 H locs := by rw [eL25]; exact hw
        exact hb73 M20 L25 _ _ ls hD hw (lv_sub hl [0, 1] rfl)
    · replace hD := g_neg c17 hD
      refine lv_aload_n C.1.1 C.1.2.1 dX15_pass_29 rfl (lv_at hl 0 rfl) ?_
      refine mr_getR C hw kc_15 16 (by decide) tf_787 ff_787_16 wd_1971 dX15_pass_30 (by decide) rfl ?_
      refine lv_iload_n C.1.1 C.1.2.1 dX15_pass_33 rfl (lv_at hl 1 rfl) ?_
      refine lv_iconst (v := 0) C.1.1 C.1.2.1 dX15_pass_34 (by decide) ?_
      obtain ⟨q26, hD⟩ := g_ck hD
      obtain ⟨M27, eM27, hD⟩ := g_let hD
      refine mr_zast C hw (by decide) tf_801 q26 dX15_pass_35 (fun H locs hw => ?_)
      replace hw : mw_W G ad NF TF FF M27 L13 H locs := by rw [eM27]; exact hw
      refine lv_aload_n C.1.1 C.1.2.1 dX15_pass_36 rfl (lv_at hl 0 rfl) ?_
      refine mr_getR C hw kc_15 15 (by decide) tf_787 ff_787_15 wd_1970 dX15_pass_37 (by decide) rfl ?_
      refine lv_iload_n C.1.1 C.1.2.1 dX15_pass_40 rfl (lv_at hl 1 rfl) ?_
      refine lv_ldc2 (v := (-1)) C.1.1 C.1.2.1 C.1.2.2.2.1 (C.1.2.2.2.2 _ wd_3772) dX15_pass_41 ?_
      obtain ⟨q28, hD⟩ := g_ck hD
      obtain ⟨L29, eL29, hD⟩ := g_let hD
      refine mr_last C hw (by decide) tf_800 q28 dX15_pass_44 (fun H locs hw => ?_)
      replace hw : mw_W G ad NF TF FF M27 L29 H locs := by rw [eL29]; exact hw
      exact mr_vret C hr hlocks hw (Option.some.inj hD) dX15_pass_45
  · replace hD := g_neg c15 hD
    exact mr_vret C hr hlocks hw (Option.some.inj hD) dX15_pass_19

theorem dX15_microsecond_0 : decode cX15_microsecond 0 = .ok (.iconst 0, 1) := by decide +kernel
theorem dX15_microsecond_1 : decode cX15_microsecond 1 = .ok (.istore_n 1, 1) := by decide +kernel
theorem dX15_microsecond_2 : decode cX15_microsecond 2 = .ok (.iload_n 1, 1) := by decide +kernel
theorem dX15_microsecond_3 : decode cX15_microsecond 3 = .ok (.aload_n 0, 1) := by decide +kernel
theorem dX15_microsecond_4 : decode cX15_microsecond 4 = .ok (.getfield 137, 3) := by decide +kernel
theorem dX15_microsecond_7 : decode cX15_microsecond 7 = .ok (.if_icmp .ge 33, 3) := by decide +kernel
theorem dX15_microsecond_10 : decode cX15_microsecond 10 = .ok (.aload_n 0, 1) := by decide +kernel
theorem dX15_microsecond_11 : decode cX15_microsecond 11 = .ok (.getfield 87, 3) := by decide +kernel
theorem dX15_microsecond_14 : decode cX15_microsecond 14 = .ok (.iload_n 1, 1) := by decide +kernel
theorem dX15_microsecond_15 : decode cX15_microsecond 15 = .ok (.laload, 1) := by decide +kernel
theorem dX15_microsecond_16 : decode cX15_microsecond 16 = .ok (.aload_n 0, 1) := by decide +kernel
theorem dX15_microsecond_17 : decode cX15_microsecond 17 = .ok (.getfield 146, 3) := by decide +kernel
theorem dX15_microsecond_20 : decode cX15_microsecond 20 = .ok (.lcmp, 1) := by decide +kernel
theorem dX15_microsecond_21 : decode cX15_microsecond 21 = .ok (.ifCond .ne 13, 3) := by decide +kernel
theorem dX15_microsecond_24 : decode cX15_microsecond 24 = .ok (.aload_n 0, 1) := by decide +kernel
theorem dX15_microsecond_25 : decode cX15_microsecond 25 = .ok (.aload_n 0, 1) := by decide +kernel
theorem dX15_microsecond_26 : decode cX15_microsecond 26 = .ok (.getfield 84, 3) := by decide +kernel
theorem dX15_microsecond_29 : decode cX15_microsecond 29 = .ok (.iload_n 1, 1) := by decide +kernel
theorem dX15_microsecond_30 : decode cX15_microsecond 30 = .ok (.iaload, 1) := by decide +kernel
theorem dX15_microsecond_31 : decode cX15_microsecond 31 = .ok (.invokevirtual 192, 3) := by decide +kernel
theorem dX15_microsecond_34 : decode cX15_microsecond 34 = .ok (.iinc 1 1, 3) := by decide +kernel
theorem dX15_microsecond_37 : decode cX15_microsecond 37 = .ok (.goto (-35), 3) := by decide +kernel
theorem dX15_microsecond_40 : decode cX15_microsecond 40 = .ok (.iconst 1, 1) := by decide +kernel
theorem dX15_microsecond_41 : decode cX15_microsecond 41 = .ok (.istore_n 1, 1) := by decide +kernel
theorem dX15_microsecond_42 : decode cX15_microsecond 42 = .ok (.iload_n 1, 1) := by decide +kernel
theorem dX15_microsecond_43 : decode cX15_microsecond 43 = .ok (.ifCond .eq 37, 3) := by decide +kernel
theorem dX15_microsecond_46 : decode cX15_microsecond 46 = .ok (.iconst 0, 1) := by decide +kernel
theorem dX15_microsecond_47 : decode cX15_microsecond 47 = .ok (.istore_n 1, 1) := by decide +kernel
theorem dX15_microsecond_48 : decode cX15_microsecond 48 = .ok (.iconst 0, 1) := by decide +kernel
theorem dX15_microsecond_49 : decode cX15_microsecond 49 = .ok (.istore_n 2, 1) := by decide +kernel
theorem dX15_microsecond_50 : decode cX15_microsecond 50 = .ok (.iload_n 2, 1) := by decide +kernel
theorem dX15_microsecond_51 : decode cX15_microsecond 51 = .ok (.aload_n 0, 1) := by decide +kernel
theorem dX15_microsecond_52 : decode cX15_microsecond 52 = .ok (.getfield 113, 3) := by decide +kernel
theorem dX15_microsecond_55 : decode cX15_microsecond 55 = .ok (.if_icmp .ge 22, 3) := by decide +kernel
theorem dX15_microsecond_58 : decode cX15_microsecond 58 = .ok (.aload_n 0, 1) := by decide +kernel
theorem dX15_microsecond_59 : decode cX15_microsecond 59 = .ok (.iload_n 2, 1) := by decide +kernel
theorem dX15_microsecond_60 : decode cX15_microsecond 60 = .ok (.invokevirtual 232, 3) := by decide +kernel
theorem dX15_microsecond_63 : decode cX15_microsecond 63 = .ok (.ifCond .eq 8, 3) := by decide +kernel
theorem dX15_microsecond_66 : decode cX15_microsecond 66 = .ok (.iconst 1, 1) := by decide +kernel
theorem dX15_microsecond_67 : decode cX15_microsecond 67 = .ok (.istore_n 1, 1) := by decide +kernel
theorem dX15_microsecond_68 : decode cX15_microsecond 68 = .ok (.goto (-10), 3) := by decide +kernel
theorem dX15_microsecond_71 : decode cX15_microsecond 71 = .ok (.iinc 2 1, 3) := by decide +kernel
theorem dX15_microsecond_74 : decode cX15_microsecond 74 = .ok (.goto (-24), 3) := by decide +kernel
theorem dX15_microsecond_77 : decode cX15_microsecond 77 = .ok (.goto (-35), 3) := by decide +kernel
theorem dX15_microsecond_80 : decode cX15_microsecond 80 = .ok (.aload_n 0, 1) := by decide +kernel
theorem dX15_microsecond_81 : decode cX15_microsecond 81 = .ok (.getfield 130, 3) := by decide +kernel
theorem dX15_microsecond_84 : decode cX15_microsecond 84 = .ok (.ifCond .le 37, 3) := by decide +kernel
theorem dX15_microsecond_87 : decode cX15_microsecond 87 = .ok (.aload_n 0, 1) := by decide +kernel
theorem dX15_microsecond_88 : decode cX15_microsecond 88 = .ok (.getfield 133, 3) := by decide +kernel
theorem dX15_microsecond_91 : decode cX15_microsecond 91 = .ok (.ifCond .ne 30, 3) := by decide +kernel
theorem dX15_microsecond_94 : decode cX15_microsecond 94 = .ok (.aload_n 0, 1) := by decide +kernel
theorem dX15_microsecond_95 : decode cX15_microsecond 95 = .ok (.getfield 146, 3) := by decide +kernel
theorem dX15_microsecond_98 : decode cX15_microsecond 98 = .ok (.aload_n 0, 1) := by decide +kernel
theorem dX15_microsecond_99 : decode cX15_microsecond 99 = .ok (.getfield 206, 3) := by decide +kernel
theorem dX15_microsecond_102 : decode cX15_microsecond 102 = .ok (.lcmp, 1) := by decide +kernel
theorem dX15_microsecond_103 : decode cX15_microsecond 103 = .ok (.ifCond .lt 18, 3) := by decide +kernel
theorem dX15_microsecond_106 : decode cX15_microsecond 106 = .ok (.aload_n 0, 1) := by decide +kernel
theorem dX15_microsecond_107 : decode cX15_microsecond 107 = .ok (.bipush 9, 2) := by decide +kernel
theorem dX15_microsecond_109 : decode cX15_microsecond 109 = .ok (.aload_n 0, 1) := by decide +kernel
theorem dX15_microsecond_110 : decode cX15_microsecond 110 = .ok (.getfield 130, 3) := by decide +kernel
theorem dX15_microsecond_113 : decode cX15_microsecond 113 = .ok (.invokevirtual 175, 3) := by decide +kernel
theorem dX15_microsecond_116 : decode cX15_microsecond 116 = .ok (.aload_n 0, 1) := by decide +kernel
theorem dX15_microsecond_117 : decode cX15_microsecond 117 = .ok (.iconst 1, 1) := by decide +kernel
theorem dX15_microsecond_118 : decode cX15_microsecond 118 = .ok (.putfield 133, 3) := by decide +kernel
theorem dX15_microsecond_121 : decode cX15_microsecond 121 = .ok (.iconst 0, 1) := by decide +kernel
theorem dX15_microsecond_122 : decode cX15_microsecond 122 = .ok (.istore_n 2, 1) := by decide +kernel
theorem dX15_microsecond_123 : decode cX15_microsecond 123 = .ok (.iconst 0, 1) := by decide +kernel
theorem dX15_microsecond_124 : decode cX15_microsecond 124 = .ok (.istore_n 3, 1) := by decide +kernel
theorem dX15_microsecond_125 : decode cX15_microsecond 125 = .ok (.iload_n 3, 1) := by decide +kernel
theorem dX15_microsecond_126 : decode cX15_microsecond 126 = .ok (.aload_n 0, 1) := by decide +kernel
theorem dX15_microsecond_127 : decode cX15_microsecond 127 = .ok (.getfield 113, 3) := by decide +kernel
theorem dX15_microsecond_130 : decode cX15_microsecond 130 = .ok (.if_icmp .ge 150, 3) := by decide +kernel
theorem dX15_microsecond_133 : decode cX15_microsecond 133 = .ok (.aload_n 0, 1) := by decide +kernel
theorem dX15_microsecond_134 : decode cX15_microsecond 134 = .ok (.iload_n 3, 1) := by decide +kernel
theorem dX15_microsecond_135 : decode cX15_microsecond 135 = .ok (.invokevirtual 220, 3) := by decide +kernel
theorem dX15_microsecond_138 : decode cX15_microsecond 138 = .ok (.istore 4, 2) := by decide +kernel
theorem dX15_microsecond_140 : decode cX15_microsecond 140 = .ok (.iload_n 3, 1) := by decide +kernel
theorem dX15_microsecond_141 : decode cX15_microsecond 141 = .ok (.ifCond .ne 10, 3) := by decide +kernel
theorem dX15_microsecond_144 : decode cX15_microsecond 144 = .ok (.aload_n 0, 1) := by decide +kernel
theorem dX15_microsecond_145 : decode cX15_microsecond 145 = .ok (.invokevirtual 216, 3) := by decide +kernel
theorem dX15_microsecond_148 : decode cX15_microsecond 148 = .ok (.goto 4, 3) := by decide +kernel
theorem dX15_microsecond_151 : decode cX15_microsecond 151 = .ok (.iconst (-1), 1) := by decide +kernel
theorem dX15_microsecond_152 : decode cX15_microsecond 152 = .ok (.istore 5, 2) := by decide +kernel
theorem dX15_microsecond_154 : decode cX15_microsecond 154 = .ok (.iload 5, 2) := by decide +kernel
theorem dX15_microsecond_156 : decode cX15_microsecond 156 = .ok (.ifCond .lt 17, 3) := by decide +kernel
theorem dX15_microsecond_159 : decode cX15_microsecond 159 = .ok (.sipush 1000, 3) := by decide +kernel
theorem dX15_microsecond_162 : decode cX15_microsecond 162 = .ok (.aload_n 0, 1) := by decide +kernel
theorem dX15_microsecond_163 : decode cX15_microsecond 163 = .ok (.getfield 90, 3) := by decide +kernel
theorem dX15_microsecond_166 : decode cX15_microsecond 166 = .ok (.iload 5, 2) := by decide +kernel
theorem dX15_microsecond_168 : decode cX15_microsecond 168 = .ok (.iaload, 1) := by decide +kernel
theorem dX15_microsecond_169 : decode cX15_microsecond 169 = .ok (.iadd, 1) := by decide +kernel
theorem dX15_microsecond_170 : decode cX15_microsecond 170 = .ok (.goto 5, 3) := by decide +kernel
theorem dX15_microsecond_173 : decode cX15_microsecond 173 = .ok (.iload 4, 2) := by decide +kernel
theorem dX15_microsecond_175 : decode cX15_microsecond 175 = .ok (.istore 6, 2) := by decide +kernel
theorem dX15_microsecond_177 : decode cX15_microsecond 177 = .ok (.aload_n 0, 1) := by decide +kernel
theorem dX15_microsecond_178 : decode cX15_microsecond 178 = .ok (.getfield 109, 3) := by decide +kernel
theorem dX15_microsecond_181 : decode cX15_microsecond 181 = .ok (.sipush 20000, 3) := by decide +kernel
theorem dX15_microsecond_184 : decode cX15_microsecond 184 = .ok (.iload_n 3, 1) := by decide +kernel
theorem dX15_microsecond_185 : decode cX15_microsecond 185 = .ok (.imul, 1) := by decide +kernel
theorem dX15_microsecond_186 : decode cX15_microsecond 186 = .ok (.aload_n 0, 1) := by decide +kernel
theorem dX15_microsecond_187 : decode cX15_microsecond 187 = .ok (.getfield 146, 3) := by decide +kernel
theorem dX15_microsecond_190 : decode cX15_microsecond 190 = .ok (.l2i, 1) := by decide +kernel
theorem dX15_microsecond_191 : decode cX15_microsecond 191 = .ok (.iadd, 1) := by decide +kernel
theorem dX15_microsecond_192 : decode cX15_microsecond 192 = .ok (.iload 6, 2) := by decide +kernel
theorem dX15_microsecond_194 : decode cX15_microsecond 194 = .ok (.i2s, 1) := by decide +kernel
theorem dX15_microsecond_195 : decode cX15_microsecond 195 = .ok (.sastore, 1) := by decide +kernel
theorem dX15_microsecond_196 : decode cX15_microsecond 196 = .ok (.aload_n 0, 1) := by decide +kernel
theorem dX15_microsecond_197 : decode cX15_microsecond 197 = .ok (.getfield 146, 3) := by decide +kernel
theorem dX15_microsecond_200 : decode cX15_microsecond 200 = .ok (.lconst 0, 1) := by decide +kernel
theorem dX15_microsecond_201 : decode cX15_microsecond 201 = .ok (.lcmp, 1) := by decide +kernel
theorem dX15_microsecond_202 : decode cX15_microsecond 202 = .ok (.ifCond .le 24, 3) := by decide +kernel
theorem dX15_microsecond_205 : decode cX15_microsecond 205 = .ok (.aload_n 0, 1) := by decide +kernel
theorem dX15_microsecond_206 : decode cX15_microsecond 206 = .ok (.getfield 109, 3) := by decide +kernel
theorem dX15_microsecond_209 : decode cX15_microsecond 209 = .ok (.sipush 20000, 3) := by decide +kernel
theorem dX15_microsecond_212 : decode cX15_microsecond 212 = .ok (.iload_n 3, 1) := by decide +kernel
theorem dX15_microsecond_213 : decode cX15_microsecond 213 = .ok (.imul, 1) := by decide +kernel
theorem dX15_microsecond_214 : decode cX15_microsecond 214 = .ok (.aload_n 0, 1) := by decide +kernel
theorem dX15_microsecond_215 : decode cX15_microsecond 215 = .ok (.getfield 146, 3) := by decide +kernel
theorem dX15_microsecond_218 : decode cX15_microsecond 218 = .ok (.l2i, 1) := by decide +kernel
theorem dX15_microsecond_219 : decode cX15_microsecond 219 = .ok (.iadd, 1) := by decide +kernel
theorem dX15_microsecond_220 : decode cX15_microsecond 220 = .ok (.iconst 1, 1) := by decide +kernel
theorem dX15_microsecond_221 : decode cX15_microsecond 221 = .ok (.isub, 1) := by decide +kernel
theorem dX15_microsecond_222 : decode cX15_microsecond 222 = .ok (.saload, 1) := by decide +kernel
theorem dX15_microsecond_223 : decode cX15_microsecond 223 = .ok (.goto 4, 3) := by decide +kernel
theorem dX15_microsecond_226 : decode cX15_microsecond 226 = .ok (.iconst 0, 1) := by decide +kernel
theorem dX15_microsecond_227 : decode cX15_microsecond 227 = .ok (.istore 7, 2) := by decide +kernel
theorem dX15_microsecond_229 : decode cX15_microsecond 229 = .ok (.iload 6, 2) := by decide +kernel
theorem dX15_microsecond_231 : decode cX15_microsecond 231 = .ok (.iload 7, 2) := by decide +kernel
theorem dX15_microsecond_233 : decode cX15_microsecond 233 = .ok (.if_icmp .eq 9, 3) := by decide +kernel
theorem dX15_microsecond_236 : decode cX15_microsecond 236 = .ok (.iload_n 2, 1) := by decide +kernel
theorem dX15_microsecond_237 : decode cX15_microsecond 237 = .ok (.iconst 1, 1) := by decide +kernel
theorem dX15_microsecond_238 : decode cX15_microsecond 238 = .ok (.iadd, 1) := by decide +kernel
theorem dX15_microsecond_239 : decode cX15_microsecond 239 = .ok (.goto 4, 3) := by decide +kernel
theorem dX15_microsecond_242 : decode cX15_microsecond 242 = .ok (.iload_n 2, 1) := by decide +kernel
theorem dX15_microsecond_243 : decode cX15_microsecond 243 = .ok (.istore_n 2, 1) := by decide +kernel
theorem dX15_microsecond_244 : decode cX15_microsecond 244 = .ok (.iload 5, 2) := by decide +kernel
theorem dX15_microsecond_246 : decode cX15_microsecond 246 = .ok (.ifCond .lt 17, 3) := by decide +kernel
theorem dX15_microsecond_249 : decode cX15_microsecond 249 = .ok (.aload_n 0, 1) := by decide +kernel
theorem dX15_microsecond_250 : decode cX15_microsecond 250 = .ok (.getfield 96, 3) := by decide +kernel
theorem dX15_microsecond_253 : decode cX15_microsecond 253 = .ok (.iload 5, 2) := by decide +kernel
theorem dX15_microsecond_255 : decode cX15_microsecond 255 = .ok (.dup2, 1) := by decide +kernel
theorem dX15_microsecond_256 : decode cX15_microsecond 256 = .ok (.laload, 1) := by decide +kernel
theorem dX15_microsecond_257 : decode cX15_microsecond 257 = .ok (.lconst 1, 1) := by decide +kernel
theorem dX15_microsecond_258 : decode cX15_microsecond 258 = .ok (.lsub, 1) := by decide +kernel
theorem dX15_microsecond_259 : decode cX15_microsecond 259 = .ok (.lastore, 1) := by decide +kernel
theorem dX15_microsecond_260 : decode cX15_microsecond 260 = .ok (.goto 14, 3) := by decide +kernel
theorem dX15_microsecond_263 : decode cX15_microsecond 263 = .ok (.iload 4, 2) := by decide +kernel
theorem dX15_microsecond_265 : decode cX15_microsecond 265 = .ok (.ifCond .le 9, 3) := by decide +kernel
theorem dX15_microsecond_268 : decode cX15_microsecond 268 = .ok (.aload_n 0, 1) := by decide +kernel
theorem dX15_microsecond_269 : decode cX15_microsecond 269 = .ok (.iload 4, 2) := by decide +kernel
theorem dX15_microsecond_271 : decode cX15_microsecond 271 = .ok (.invokevirtual 235, 3) := by decide +kernel
theorem dX15_microsecond_274 : decode cX15_microsecond 274 = .ok (.iinc 3 1, 3) := by decide +kernel
theorem dX15_microsecond_277 : decode cX15_microsecond 277 = .ok (.goto (-152), 3) := by decide +kernel
theorem dX15_microsecond_280 : decode cX15_microsecond 280 = .ok (.aload_n 0, 1) := by decide +kernel
theorem dX15_microsecond_281 : decode cX15_microsecond 281 = .ok (.dup, 1) := by decide +kernel
theorem dX15_microsecond_282 : decode cX15_microsecond 282 = .ok (.getfield 146, 3) := by decide +kernel
theorem dX15_microsecond_285 : decode cX15_microsecond 285 = .ok (.lconst 1, 1) := by decide +kernel
theorem dX15_microsecond_286 : decode cX15_microsecond 286 = .ok (.ladd, 1) := by decide +kernel
theorem dX15_microsecond_287 : decode cX15_microsecond 287 = .ok (.putfield 146, 3) := by decide +kernel
theorem dX15_microsecond_290 : decode cX15_microsecond 290 = .ok (.iload_n 2, 1) := by decide +kernel
theorem dX15_microsecond_291 : decode cX15_microsecond 291 = .ok (.ireturn, 1) := by decide +kernel
theorem cwX15_microsecond : mw_cwV yX15_microsecond cX15_microsecond 8 ((some .int)) 0 := ⟨⟨wd_14, wd_3784, by decide +kernel⟩, wd_3783, sl_259⟩
set_option maxHeartbeats 4000000 in
set_option maxRecDepth 100000 in
theorem tX15_microsecond (l : Launch) (G : mwG) (ad : Nat → Nat) (fu : Nat) (M : mwM) (L : mwL) {r0 : Int32} {M0 : mwM} {L0 : mwL} (hD : DX15_microsecond fu M L = some (r0, M0, L0)) : Met l yX15_microsecond (Cond.code yX15_microsecond cX15_microsecond 8 ((some .int)) :: GT) ({ frames := 6, cells := 0, slots := 0, locals := 139 }) (mw_Pre G ad NF TF FF M L [.ref (ad 787)]) (mw_Qi G ad NF TF FF (mw_eqI r0 M0 L0)) 0 0 (mw_fr G) := by
  refine mw_enter (by decide) (Nat.le_of_ble_eq_true rfl) ?_
  intro p e s m below meth c ls C hr hlocks hnm hw hl
  have hl : lv_has ls 8 [(0, .ref (ad 787))] := hl
  have hh125 : ∀ (f : Nat) (v2 : Int32) (v3 : Int32) (M : mwM) (L : mwL) (H : Heap) (locs : List Loc) (ls : Array Slot), fX15_microsecond_h125 fu f (v2, v3, M, L) = some (r0, M0, L0) → mw_W G ad NF TF FF M L H locs → lv_has ls 8 [(0, .ref (ad 787)), (2, .int v2), (3, .int v3)] → W p l e ({ frames := 6, cells := 0, slots := 0, locals := 139 }) s m [.ref (ad 787)].toArray below meth c H locs 0 0 (MQ below (mw_Qi G ad NF TF FF (mw_eqI r0 M0 L0)) [.ref (ad 787)].toArray s 0 0 (mw_fr G)) (F0 m 125 ls []) := by
    intro f
    induction f with
    | zero => intro v2 v3 M L H locs ls hD; cases hD
    | succ f125 ih125 =>
      intro v2 v3 M L H locs ls hD hw hl
      replace hD : fX15_microsecond_i125 fu (fX15_microsecond_h125 fu f125) v2 v3 M L = some (r0, M0, L0) := hD
      have hb274 : ∀ (v2 : Int32) (v3 : Int32) (M : mwM) (L : mwL) (H : Heap) (locs : List Loc) (ls : Array Slot), fX15_microsecond_b274 fu (fX15_microsecond_h125 fu f125) v2 v3 M L = some (r0, M0, L0) → mw_W G ad NF TF FF M L H locs → lv_has ls 8 [(0, .ref (ad 787)), (2, .int v2), (3, .int v3)] → W p l e ({ frames := 6, cells := 0, slots := 0, locals := 139 }) s m [.ref (ad 787)].toArray below meth c H locs 0 0 (MQ below (mw_Qi G ad NF TF FF (mw_eqI r0 M0 L0)) [.ref (ad 787)].toArray s 0 0 (mw_fr G)) (F0 m 274 ls []) := by
        intro v2 v3 M L H locs ls hD hw hl
        unfold fX15_microsecond_b274 at hD
        obtain ⟨x44, ex44, hD⟩ := g_let hD
        refine lv_iinc (v := x44) (lv' := [(3, .int x44), (0, .ref (ad 787)), (2, .int v2)]) C.1.1 C.1.2.1 dX15_microsecond_274 hl (k := 2) rfl (by rw [ex44]; rfl) (by decide) rfl (fun ls hl => ?_)
        refine lv_goto (tgt := 125) C.1.1 C.1.2.1 dX15_microsecond_277 (by decide) ?_
        exact ih125 v2 x44 M L _ _ ls hD hw (lv_sub hl [1, 2, 0] rfl)
      have hb243 : ∀ (v3 : Int32) (v4 : Int32) (v5 : Int32) (s0 : Int32) (M : mwM) (L : mwL) (H : Heap) (locs : List Loc) (ls : Array Slot), fX15_microsecond_b243 fu (fX15_microsecond_h125 fu f125) v3 v4 v5 s0 M L = some (r0, M0, L0) → mw_W G ad NF TF FF M L H locs → lv_has ls 8 [(0, .ref (ad 787)), (3, .int v3), (4, .int v4), (5, .int v5)] → W p l e ({ frames := 6, cells := 0, slots := 0, locals := 139 }) s m [.ref (ad 787)].toArray below meth c H locs 0 0 (MQ below (mw_Qi G ad NF TF FF (mw_eqI r0 M0 L0)) [.ref (ad 787)].toArray s 0 0 (mw_fr G)) (F0 m 243 ls [.int s0]) := by
        intro v3 v4 v5 s0 M L H locs ls hD hw hl
        unfold fX15_microsecond_b243 at hD
        refine lv_istore_n (lv' := [(2, .int s0), (0, .ref (ad 787)), (3, .int v3), (4, .int v4), (5, .int v5)]) C.1.1 C.1.2.1 dX15_microsecond_243 rfl hl (by decide) rfl (fun ls hl => ?_)
        refine lv_iload C.1.1 C.1.2.1 dX15_microsecond_244 (lv_at hl 4 rfl) ?_
        refine lv_if_lt (tgt := 263) C.1.1 C.1.2.1 dX15_microsecond_246 (by decide) (fun c37 => ?_) (fun c37 => ?_)
        · replace hD := g_pos c37 hD
          refine lv_iload C.1.1 C.1.2.1 dX15_microsecond_263 (lv_at hl 3 rfl) ?_
          refine lv_if_le (tgt := 274) C.1.1 C.1.2.1 dX15_microsecond_265 (by decide) (fun c38 => ?_) (fun c38 => ?_)
          · replace hD := g_pos c38 hD
            exact hb274 s0 v3 M L _ _ ls hD hw (lv_sub hl [1, 0, 2] rfl)
          · replace hD := g_neg c38 hD
            refine lv_aload_n C.1.1 C.1.2.1 dX15_microsecond_268 rfl (lv_at hl 1 rfl) ?_
            refine lv_iload C.1.1 C.1.2.1 dX15_microsecond_269 (lv_at hl 3 rfl) ?_
            obtain ⟨M39, L40, h1, hD⟩ := g_b2 hD
            refine md_cvV (As := [.int v4]) (rest := []) C hw (tX15_pass l G ad fu v4 M L h1) kc_15 (by decide) tf_787 wd_3850 cwX15_pass ⟨Nat.le_of_ble_eq_true rfl, Nat.le_of_ble_eq_true rfl⟩ rfl hl.1 (Nat.le_of_ble_eq_true rfl) dX15_microsecond_271 rfl rfl ⟨Nat.zero_le _, Nat.zero_le _⟩ rfl (fun H locs hw => ?_)
            exact hb274 s0 v3 M39 L40 _ _ ls hD hw (lv_sub hl [1, 0, 2] rfl)
        · replace hD := g_neg c37 hD
          refine lv_aload_n C.1.1 C.1.2.1 dX15_microsecond_249 rfl (lv_at hl 1 rfl) ?_
          refine mr_getR C hw kc_15 38 (by decide) tf_787 ff_787_38 wd_1993 dX15_microsecond_250 (by decide) rfl ?_
          refine lv_iload C.1.1 C.1.2.1 dX15_microsecond_253 (lv_at hl 4 rfl) ?_
          refine lv_dup2_11 C.1.1 C.1.2.1 dX15_microsecond_255 rfl rfl ?_
          obtain ⟨q41, hD⟩ := g_ck hD
          refine mr_lald C hw (by decide) tf_816 q41 dX15_microsecond_256 ?_
          refine lv_lconst (v := 1) C.1.1 C.1.2.1 dX15_microsecond_257 (by decide) ?_
          refine lv_lsub C.1.1 C.1.2.1 dX15_microsecond_258 ?_
          obtain ⟨q42, hD⟩ := g_ck hD
          obtain ⟨L43, eL43, hD⟩ := g_let hD
          refine mr_last C hw (by decide) tf_816 q42 dX15_microsecond_259 (fun H locs hw => ?_)
          replace hw : mw_W G ad NF TF FF M L43 H locs := by rw [eL43]; exact hw
          refine lv_goto (tgt := 274) C.1.1 C.1.2.1 dX15_microsecond_260 (by decide) ?_
          exact hb274 s0 v3 M L43 _ _ ls hD hw (lv_sub hl [1, 0, 2] rfl)
      have hb227 : ∀ (v2 : Int32) (v3 : Int32) (v4 : Int32) (v5 : Int32) (v6 : Int32) (s0 : Int32) (M : mwM) (L : mwL) (H : Heap) (locs : List Loc) (ls : Array Slot), fX15_microsecond_b227 fu (fX15_microsecond_h125 fu f125) v2 v3 v4 v5 v6 s0 M L = some (r0, M0, L0) → mw_W G ad NF TF FF M L H locs → lv_has ls 8 [(0, .ref (ad 787)), (2, .int v2), (3, .int v3), (4, .int v4), (5, .int v5), (6, .int v6)] → W p l e ({ frames := 6, cells := 0, slots := 0, locals := 139 }) s m [.ref (ad 787)].toArray below meth c H locs 0 0 (MQ below (mw_Qi G ad NF TF FF (mw_eqI r0 M0 L0)) [.ref (ad 787)].toArray s 0 0 (mw_fr G)) (F0 m 227 ls [.int s0]) := by
        intro v2 v3 v4 v5 v6 s0 M L H locs ls hD hw hl
        unfold fX15_microsecond_b227 at hD
        refine lv_istore (lv' := [(7, .int s0), (0, .ref (ad 787)), (2, .int v2), (3, .int v3), (4, .int v4), (5, .int v5), (6, .int v6)]) C.1.1 C.1.2.1 dX15_microsecond_227 hl (by decide) rfl (fun ls hl => ?_)
        refine lv_iload C.1.1 C.1.2.1 dX15_microsecond_229 (lv_at hl 6 rfl) ?_
        refine lv_iload C.1.1 C.1.2.1 dX15_microsecond_231 (lv_at hl 0 rfl) ?_
        refine lv_icmp_eq (tgt := 242) C.1.1 C.1.2.1 dX15_microsecond_233 (by decide) (fun c36 => ?_) (fun c36 => ?_)
        · replace hD := g_pos c36 hD
          refine lv_iload_n C.1.1 C.1.2.1 dX15_microsecond_242 rfl (lv_at hl 2 rfl) ?_
          exact hb243 v3 v4 v5 v2 M L _ _ ls hD hw (lv_sub hl [1, 3, 4, 5] rfl)
        · replace hD := g_neg c36 hD
          refine lv_iload_n C.1.1 C.1.2.1 dX15_microsecond_236 rfl (lv_at hl 2 rfl) ?_
          refine lv_iconst (v := 1) C.1.1 C.1.2.1 dX15_microsecond_237 (by decide) ?_
          refine lv_iadd C.1.1 C.1.2.1 dX15_microsecond_238 ?_
          refine lv_goto (tgt := 243) C.1.1 C.1.2.1 dX15_microsecond_239 (by decide) ?_
          exact hb243 v3 v4 v5 (v2 + 1) M L _ _ ls hD hw (lv_sub hl [1, 3, 4, 5] rfl)
      have hb175 : ∀ (v2 : Int32) (v3 : Int32) (v4 : Int32) (v5 : Int32) (s0 : Int32) (M : mwM) (L : mwL) (H : Heap) (locs : List Loc) (ls : Array Slot), fX15_microsecond_b175 fu (fX15_microsecond_h125 fu f125) v2 v3 v4 v5 s0 M L = some (r0, M0, L0) → mw_W G ad NF TF FF M L H locs → lv_has ls 8 [(0, .ref (ad 787)), (2, .int v2), (3, .int v3), (4, .int v4), (5, .int v5)] → W p l e ({ frames := 6, cells := 0, slots := 0, locals := 139 }) s m [.ref (ad 787)].toArray below meth c H locs 0 0 (MQ below (mw_Qi G ad NF TF FF (mw_eqI r0 M0 L0)) [.ref (ad 787)].toArray s 0 0 (mw_fr G)) (F0 m 175 ls [.int s0]) := by
        intro v2 v3 v4 v5 s0 M L H locs ls hD hw hl
        unfold fX15_microsecond_b175 at hD
        refine lv_istore (lv' := [(6, .int s0), (0, .ref (ad 787)), (2, .int v2), (3, .int v3), (4, .int v4), (5, .int v5)]) C.1.1 C.1.2.1 dX15_microsecond_175 hl (by decide) rfl (fun ls hl => ?_)
        refine lv_aload_n C.1.1 C.1.2.1 dX15_microsecond_177 rfl (lv_at hl 1 rfl) ?_
        refine mr_getR C hw kc_15 44 (by decide) tf_787 ff_787_44 wd_1999 dX15_microsecond_178 (by decide) rfl ?_
        refine lv_sipush (v := 20000) C.1.1 C.1.2.1 dX15_microsecond_181 (by decide) ?_
        refine lv_iload_n C.1.1 C.1.2.1 dX15_microsecond_184 rfl (lv_at hl 3 rfl) ?_
        refine lv_imul C.1.1 C.1.2.1 dX15_microsecond_185 ?_
        refine lv_aload_n C.1.1 C.1.2.1 dX15_microsecond_186 rfl (lv_at hl 1 rfl) ?_
        refine mr_getL C hw kc_15 43 (by decide) tf_787 wd_1998 dX15_microsecond_187 (by decide) rfl ?_
        refine lv_l2i C.1.1 C.1.2.1 dX15_microsecond_190 rfl ?_
        refine lv_iadd C.1.1 C.1.2.1 dX15_microsecond_191 ?_
        refine lv_iload C.1.1 C.1.2.1 dX15_microsecond_192 (lv_at hl 0 rfl) ?_
        refine lv_i2s C.1.1 C.1.2.1 dX15_microsecond_194 rfl ?_
        obtain ⟨q32, hD⟩ := g_ck hD
        obtain ⟨M33, eM33, hD⟩ := g_let hD
        refine mr_sast C hw (by decide) tf_820 q32 dX15_microsecond_195 (fun H locs hw => ?_)
        replace hw : mw_W G ad NF TF FF M33 L H locs := by rw [eM33]; exact hw
        refine lv_aload_n C.1.1 C.1.2.1 dX15_microsecond_196 rfl (lv_at hl 1 rfl) ?_
        refine mr_getL C hw kc_15 43 (by decide) tf_787 wd_1998 dX15_microsecond_197 (by decide) rfl ?_
        refine lv_lconst (v := 0) C.1.1 C.1.2.1 dX15_microsecond_200 (by decide) ?_
        refine W.lcmp C.1.1 C.1.2.1 dX15_microsecond_201 ?_
        refine lv_if_le (tgt := 226) C.1.1 C.1.2.1 dX15_microsecond_202 (by decide) (fun c34 => ?_) (fun c34 => ?_)
        · replace hD := g_pos c34 hD
          refine lv_iconst (v := 0) C.1.1 C.1.2.1 dX15_microsecond_226 (by decide) ?_
          exact hb227 v2 v3 v4 v5 s0 0 M33 L _ _ ls hD hw (lv_sub hl [1, 2, 3, 4, 5, 0] rfl)
        · replace hD := g_neg c34 hD
          refine lv_aload_n C.1.1 C.1.2.1 dX15_microsecond_205 rfl (lv_at hl 1 rfl) ?_
          refine mr_getR C hw kc_15 44 (by decide) tf_787 ff_787_44 wd_1999 dX15_microsecond_206 (by decide) rfl ?_
          refine lv_sipush (v := 20000) C.1.1 C.1.2.1 dX15_microsecond_209 (by decide) ?_
          refine lv_iload_n C.1.1 C.1.2.1 dX15_microsecond_212 rfl (lv_at hl 3 rfl) ?_
          refine lv_imul C.1.1 C.1.2.1 dX15_microsecond_213 ?_
          refine lv_aload_n C.1.1 C.1.2.1 dX15_microsecond_214 rfl (lv_at hl 1 rfl) ?_
          refine mr_getL C hw kc_15 43 (by decide) tf_787 wd_1998 dX15_microsecond_215 (by decide) rfl ?_
          refine lv_l2i C.1.1 C.1.2.1 dX15_microsecond_218 rfl ?_
          refine lv_iadd C.1.1 C.1.2.1 dX15_microsecond_219 ?_
          refine lv_iconst (v := 1) C.1.1 C.1.2.1 dX15_microsecond_220 (by decide) ?_
          refine lv_isub C.1.1 C.1.2.1 dX15_microsecond_221 ?_
          obtain ⟨q35, hD⟩ := g_ck hD
          refine mr_sald C hw (by decide) tf_820 q35 dX15_microsecond_222 ?_
          refine lv_goto (tgt := 227) C.1.1 C.1.2.1 dX15_microsecond_223 (by decide) ?_
          exact hb227 v2 v3 v4 v5 s0 (M33 820 (((20000 * v3) + ((L 787 43).toInt32)) - 1).toNatClampNeg) M33 L _ _ ls hD hw (lv_sub hl [1, 2, 3, 4, 5, 0] rfl)
      have hb152 : ∀ (v2 : Int32) (v3 : Int32) (v4 : Int32) (s0 : Int32) (M : mwM) (L : mwL) (H : Heap) (locs : List Loc) (ls : Array Slot), fX15_microsecond_b152 fu (fX15_microsecond_h125 fu f125) v2 v3 v4 s0 M L = some (r0, M0, L0) → mw_W G ad NF TF FF M L H locs → lv_has ls 8 [(0, .ref (ad 787)), (2, .int v2), (3, .int v3), (4, .int v4)] → W p l e ({ frames := 6, cells := 0, slots := 0, locals := 139 }) s m [.ref (ad 787)].toArray below meth c H locs 0 0 (MQ below (mw_Qi G ad NF TF FF (mw_eqI r0 M0 L0)) [.ref (ad 787)].toArray s 0 0 (mw_fr G)) (F0 m 152 ls [.int s0]) := by
        intro v2 v3 v4 s0 M L H locs ls hD hw hl
        unfold fX15_microsecond_b152 at hD
        refine lv_istore (lv' := [(5, .int s0), (0, .ref (ad 787)), (2, .int v2), (3, .int v3), (4, .int v4)]) C.1.1 C.1.2.1 dX15_microsecond_152 hl (by decide) rfl (fun ls hl => ?_)
        refine lv_iload C.1.1 C.1.2.1 dX15_microsecond_154 (lv_at hl 0 rfl) ?_
        refine lv_if_lt (tgt := 173) C.1.1 C.1.2.1 dX15_microsecond_156 (by decide) (fun c30 => ?_) (fun c30 => ?_)
        · replace hD := g_pos c30 hD
          refine lv_iload C.1.1 C.1.2.1 dX15_microsecond_173 (lv_at hl 4 rfl) ?_
          exact hb175 v2 v3 v4 s0 v4 M L _ _ ls hD hw (lv_sub hl [1, 2, 3, 4, 0] rfl)
        · replace hD := g_neg c30 hD
          refine lv_sipush (v := 1000) C.1.1 C.1.2.1 dX15_microsecond_159 (by decide) ?_
          refine lv_aload_n C.1.1 C.1.2.1 dX15_microsecond_162 rfl (lv_at hl 1 rfl) ?_
          refine mr_getR C hw kc_15 36 (by decide) tf_787 ff_787_36 wd_1991 dX15_microsecond_163 (by decide) rfl ?_
          refine lv_iload C.1.1 C.1.2.1 dX15_microsecond_166 (lv_at hl 0 rfl) ?_
          obtain ⟨q31, hD⟩ := g_ck hD
          refine mr_iald C hw (by decide) tf_814 q31 dX15_microsecond_168 ?_
          refine lv_iadd C.1.1 C.1.2.1 dX15_microsecond_169 ?_
          refine lv_goto (tgt := 175) C.1.1 C.1.2.1 dX15_microsecond_170 (by decide) ?_
          exact hb175 v2 v3 v4 s0 (1000 + (M 814 s0.toNatClampNeg)) M L _ _ ls hD hw (lv_sub hl [1, 2, 3, 4, 0] rfl)
      unfold fX15_microsecond_i125 at hD
      refine lv_iload_n C.1.1 C.1.2.1 dX15_microsecond_125 rfl (lv_at hl 2 rfl) ?_
      refine lv_aload_n C.1.1 C.1.2.1 dX15_microsecond_126 rfl (lv_at hl 0 rfl) ?_
      refine mr_getI C hw kc_15 0 (by decide) tf_787 wd_1955 dX15_microsecond_127 (by decide) rfl ?_
      refine lv_icmp_ge (tgt := 280) C.1.1 C.1.2.1 dX15_microsecond_130 (by decide) (fun c21 => ?_) (fun c21 => ?_)
      · replace hD := g_pos c21 hD
        refine lv_aload_n C.1.1 C.1.2.1 dX15_microsecond_280 rfl (lv_at hl 0 rfl) ?_
        refine lv_dup C.1.1 C.1.2.1 dX15_microsecond_281 rfl ?_
        refine mr_getL C hw kc_15 43 (by decide) tf_787 wd_1998 dX15_microsecond_282 (by decide) rfl ?_
        refine lv_lconst (v := 1) C.1.1 C.1.2.1 dX15_microsecond_285 (by decide) ?_
        refine lv_ladd C.1.1 C.1.2.1 dX15_microsecond_286 ?_
        obtain ⟨L22, eL22, hD⟩ := g_let hD
        refine mr_putL C hw kc_15 43 (by decide) tf_787 wd_1998 dX15_microsecond_287 (by decide) rfl rfl rfl rfl (fun H locs hw => ?_)
        replace hw : mw_W G ad NF TF FF M L22 H locs := by rw [eL22]; exact hw
        refine lv_iload_n C.1.1 C.1.2.1 dX15_microsecond_290 rfl (lv_at hl 1 rfl) ?_
        exact mr_iret C hr hlocks hw rfl (Option.some.inj hD) dX15_microsecond_291
      · replace hD := g_neg c21 hD
        refine lv_aload_n C.1.1 C.1.2.1 dX15_microsecond_133 rfl (lv_at hl 0 rfl) ?_
        refine lv_iload_n C.1.1 C.1.2.1 dX15_microsecond_134 rfl (lv_at hl 2 rfl) ?_
        obtain ⟨r25, M23, L24, h1, hD⟩ := g_b3 hD
        refine md_cvI (As := [.int v3]) (rest := []) C hw (tX15_choose l G ad fu v3 M L h1) kc_15 (by decide) tf_787 wd_3805 cwX15_choose ⟨Nat.le_of_ble_eq_true rfl, Nat.le_of_ble_eq_true rfl⟩ rfl hl.1 (Nat.le_of_ble_eq_true rfl) dX15_microsecond_135 rfl rfl ⟨Nat.zero_le _, Nat.zero_le _⟩ rfl (fun H locs hw => ?_)
        refine lv_istore (lv' := [(4, .int r25), (0, .ref (ad 787)), (2, .int v2), (3, .int v3)]) C.1.1 C.1.2.1 dX15_microsecond_138 hl (by decide) rfl (fun ls hl => ?_)
        refine lv_iload_n C.1.1 C.1.2.1 dX15_microsecond_140 rfl (lv_at hl 3 rfl) ?_
        refine lv_if_ne (tgt := 151) C.1.1 C.1.2.1 dX15_microsecond_141 (by decide) (fun c26 => ?_) (fun c26 => ?_)
        · replace hD := g_neg c26 hD
          refine lv_iconst (v := (-1)) C.1.1 C.1.2.1 dX15_microsecond_151 (by decide) ?_
          exact hb152 v2 v3 r25 ((-1)) M23 L24 _ _ ls hD hw (lv_sub hl [1, 2, 3, 0] rfl)
        · replace hD := g_pos c26 hD
          refine lv_aload_n C.1.1 C.1.2.1 dX15_microsecond_144 rfl (lv_at hl 1 rfl) ?_
          obtain ⟨r29, M27, L28, h1, hD⟩ := g_b3 hD
          refine md_cvI (As := []) (rest := []) C hw (tX15_atHand l G ad fu M23 L24 h1) kc_15 (by decide) tf_787 wd_3801 cwX15_atHand ⟨Nat.le_of_ble_eq_true rfl, Nat.le_of_ble_eq_true rfl⟩ rfl hl.1 (Nat.le_of_ble_eq_true rfl) dX15_microsecond_145 rfl rfl ⟨Nat.zero_le _, Nat.zero_le _⟩ rfl (fun H locs hw => ?_)
          refine lv_goto (tgt := 152) C.1.1 C.1.2.1 dX15_microsecond_148 (by decide) ?_
          exact hb152 v2 v3 r25 r29 M27 L28 _ _ ls hD hw (lv_sub hl [1, 2, 3, 0] rfl)
  have hb121 : ∀ (M : mwM) (L : mwL) (H : Heap) (locs : List Loc) (ls : Array Slot), fX15_microsecond_b121 fu M L = some (r0, M0, L0) → mw_W G ad NF TF FF M L H locs → lv_has ls 8 [(0, .ref (ad 787))] → W p l e ({ frames := 6, cells := 0, slots := 0, locals := 139 }) s m [.ref (ad 787)].toArray below meth c H locs 0 0 (MQ below (mw_Qi G ad NF TF FF (mw_eqI r0 M0 L0)) [.ref (ad 787)].toArray s 0 0 (mw_fr G)) (F0 m 121 ls []) := by
    intro M L H locs ls hD hw hl
    unfold fX15_microsecond_b121 at hD
    refine lv_iconst (v := 0) C.1.1 C.1.2.1 dX15_microsecond_121 (by decide) ?_
    refine lv_istore_n (lv' := [(2, .int 0), (0, .ref (ad 787))]) C.1.1 C.1.2.1 dX15_microsecond_122 rfl hl (by decide) rfl (fun ls hl => ?_)
    refine lv_iconst (v := 0) C.1.1 C.1.2.1 dX15_microsecond_123 (by decide) ?_
    refine lv_istore_n (lv' := [(3, .int 0), (2, .int 0), (0, .ref (ad 787))]) C.1.1 C.1.2.1 dX15_microsecond_124 rfl hl (by decide) rfl (fun ls hl => ?_)
    exact hh125 fu 0 0 M L _ _ ls hD hw (lv_sub hl [2, 1, 0] rfl)
  have hh42 : ∀ (f : Nat) (v1 : Int32) (M : mwM) (L : mwL) (H : Heap) (locs : List Loc) (ls : Array Slot), fX15_microsecond_h42 fu f (v1, M, L) = some (r0, M0, L0) → mw_W G ad NF TF FF M L H locs → lv_has ls 8 [(0, .ref (ad 787)), (1, .int v1)] → W p l e ({ frames := 6, cells := 0, slots := 0, locals := 139 }) s m [.ref (ad 787)].toArray below meth c H locs 0 0 (MQ below (mw_Qi G ad NF TF FF (mw_eqI r0 M0 L0)) [.ref (ad 787)].toArray s 0 0 (mw_fr G)) (F0 m 42 ls []) := by
    intro f
    induction f with
    | zero => intro v1 M L H locs ls hD; cases hD
    | succ f42 ih42 =>
      intro v1 M L H locs ls hD hw hl
      replace hD : fX15_microsecond_i42 fu (fX15_microsecond_h42 fu f42) v1 M L = some (r0, M0, L0) := hD
      have hh50 : ∀ (f : Nat) (v1 : Int32) (v2 : Int32) (M : mwM) (L : mwL) (H : Heap) (locs : List Loc) (ls : Array Slot), fX15_microsecond_h50 fu (fX15_microsecond_h42 fu f42) f (v1, v2, M, L) = some (r0, M0, L0) → mw_W G ad NF TF FF M L H locs → lv_has ls 8 [(0, .ref (ad 787)), (1, .int v1), (2, .int v2)] → W p l e ({ frames := 6, cells := 0, slots := 0, locals := 139 }) s m [.ref (ad 787)].toArray below meth c H locs 0 0 (MQ below (mw_Qi G ad NF TF FF (mw_eqI r0 M0 L0)) [.ref (ad 787)].toArray s 0 0 (mw_fr G)) (F0 m 50 ls []) := by
        intro f
        induction f with
        | zero => intro v1 v2 M L H locs ls hD; cases hD
        | succ f50 ih50 =>
          intro v1 v2 M L H locs ls hD hw hl
          replace hD : fX15_microsecond_i50 fu (fX15_microsecond_h42 fu f42) (fX15_microsecond_h50 fu (fX15_microsecond_h42 fu f42) f50) v1 v2 M L = some (r0, M0, L0) := hD
          have hh58 : ∀ (f : Nat) (v1 : Int32) (v2 : Int32) (M : mwM) (L : mwL) (H : Heap) (locs : List Loc) (ls : Array Slot), fX15_microsecond_h58 fu (fX15_microsecond_h42 fu f42) (fX15_microsecond_h50 fu (fX15_microsecond_h42 fu f42) f50) f (v1, v2, M, L) = some (r0, M0, L0) → mw_W G ad NF TF FF M L H locs → lv_has ls 8 [(0, .ref (ad 787)), (1, .int v1), (2, .int v2)] → W p l e ({ frames := 6, cells := 0, slots := 0, locals := 139 }) s m [.ref (ad 787)].toArray below meth c H locs 0 0 (MQ below (mw_Qi G ad NF TF FF (mw_eqI r0 M0 L0)) [.ref (ad 787)].toArray s 0 0 (mw_fr G)) (F0 m 58 ls []) := by
            intro f
            induction f with
            | zero => intro v1 v2 M L H locs ls hD; cases hD
            | succ f58 ih58 =>
              intro v1 v2 M L H locs ls hD hw hl
              replace hD : fX15_microsecond_i58 fu (fX15_microsecond_h42 fu f42) (fX15_microsecond_h50 fu (fX15_microsecond_h42 fu f42) f50) (fX15_microsecond_h58 fu (fX15_microsecond_h42 fu f42) (fX15_microsecond_h50 fu (fX15_microsecond_h42 fu f42) f50) f58) v1 v2 M L = some (r0, M0, L0) := hD
              unfold fX15_microsecond_i58 at hD
              refine lv_aload_n C.1.1 C.1.2.1 dX15_microsecond_58 rfl (lv_at hl 0 rfl) ?_
              refine lv_iload_n C.1.1 C.1.2.1 dX15_microsecond_59 rfl (lv_at hl 2 rfl) ?_
              obtain ⟨r18, M16, L17, h1, hD⟩ := g_b3 hD
              refine md_cvI (As := [.int v2]) (rest := []) C hw (tX15_step l G ad fu v2 M L h1) kc_15 (by decide) tf_787 wd_3797 cwX15_step ⟨Nat.le_of_ble_eq_true rfl, Nat.le_of_ble_eq_true rfl⟩ rfl hl.1 (Nat.le_of_ble_eq_true rfl) dX15_microsecond_60 rfl rfl ⟨Nat.zero_le _, Nat.zero_le _⟩ rfl (fun H locs hw => ?_)
              refine lv_if_eq (tgt := 71) C.1.1 C.1.2.1 dX15_microsecond_63 (by decide) (fun c19 => ?_) (fun c19 => ?_)
              · replace hD := g_pos c19 hD
                obtain ⟨x20, ex20, hD⟩ := g_let hD
                refine lv_iinc (v := x20) (lv' := [(2, .int x20), (0, .ref (ad 787)), (1, .int v1)]) C.1.1 C.1.2.1 dX15_microsecond_71 hl (k := 2) rfl (by rw [ex20]; rfl) (by decide) rfl (fun ls hl => ?_)
                refine lv_goto (tgt := 50) C.1.1 C.1.2.1 dX15_microsecond_74 (by decide) ?_
                exact ih50 v1 x20 M16 L17 _ _ ls hD hw (lv_sub hl [1, 2, 0] rfl)
              · replace hD := g_neg c19 hD
                refine lv_iconst (v := 1) C.1.1 C.1.2.1 dX15_microsecond_66 (by decide) ?_
                refine lv_istore_n (lv' := [(1, .int 1), (0, .ref (ad 787)), (2, .int v2)]) C.1.1 C.1.2.1 dX15_microsecond_67 rfl hl (by decide) rfl (fun ls hl => ?_)
                refine lv_goto (tgt := 58) C.1.1 C.1.2.1 dX15_microsecond_68 (by decide) ?_
                exact ih58 1 v2 M16 L17 _ _ ls hD hw (lv_sub hl [1, 0, 2] rfl)
          unfold fX15_microsecond_i50 at hD
          refine lv_iload_n C.1.1 C.1.2.1 dX15_microsecond_50 rfl (lv_at hl 2 rfl) ?_
          refine lv_aload_n C.1.1 C.1.2.1 dX15_microsecond_51 rfl (lv_at hl 0 rfl) ?_
          refine mr_getI C hw kc_15 0 (by decide) tf_787 wd_1955 dX15_microsecond_52 (by decide) rfl ?_
          refine lv_icmp_ge (tgt := 77) C.1.1 C.1.2.1 dX15_microsecond_55 (by decide) (fun c15 => ?_) (fun c15 => ?_)
          · replace hD := g_pos c15 hD
            refine lv_goto (tgt := 42) C.1.1 C.1.2.1 dX15_microsecond_77 (by decide) ?_
            exact ih42 v1 M L _ _ ls hD hw (lv_sub hl [0, 1] rfl)
          · replace hD := g_neg c15 hD
            exact hh58 fu v1 v2 M L _ _ ls hD hw (lv_sub hl [0, 1, 2] rfl)
      unfold fX15_microsecond_i42 at hD
      refine lv_iload_n C.1.1 C.1.2.1 dX15_microsecond_42 rfl (lv_at hl 1 rfl) ?_
      refine lv_if_eq (tgt := 80) C.1.1 C.1.2.1 dX15_microsecond_43 (by decide) (fun c8 => ?_) (fun c8 => ?_)
      · replace hD := g_pos c8 hD
        refine lv_aload_n C.1.1 C.1.2.1 dX15_microsecond_80 rfl (lv_at hl 0 rfl) ?_
        refine mr_getI C hw kc_15 29 (by decide) tf_787 wd_1984 dX15_microsecond_81 (by decide) rfl ?_
        refine lv_if_le (tgt := 121) C.1.1 C.1.2.1 dX15_microsecond_84 (by decide) (fun c9 => ?_) (fun c9 => ?_)
        · replace hD := g_pos c9 hD
          exact hb121 M L _ _ ls hD hw (lv_sub hl [0] rfl)
        · replace hD := g_neg c9 hD
          refine lv_aload_n C.1.1 C.1.2.1 dX15_microsecond_87 rfl (lv_at hl 0 rfl) ?_
          refine mr_getI C hw kc_15 31 (by decide) tf_787 wd_1986 dX15_microsecond_88 (by decide) rfl ?_
          refine lv_if_ne (tgt := 121) C.1.1 C.1.2.1 dX15_microsecond_91 (by decide) (fun c10 => ?_) (fun c10 => ?_)
          · replace hD := g_neg c10 hD
            exact hb121 M L _ _ ls hD hw (lv_sub hl [0] rfl)
          · replace hD := g_pos c10 hD
            refine lv_aload_n C.1.1 C.1.2.1 dX15_microsecond_94 rfl (lv_at hl 0 rfl) ?_
            refine mr_getL C hw kc_15 43 (by decide) tf_787 wd_1998 dX15_microsecond_95 (by decide) rfl ?_
            refine lv_aload_n C.1.1 C.1.2.1 dX15_microsecond_98 rfl (lv_at hl 0 rfl) ?_
            refine mr_getL C hw kc_15 30 (by decide) tf_787 wd_1985 dX15_microsecond_99 (by decide) rfl ?_
            refine W.lcmp C.1.1 C.1.2.1 dX15_microsecond_102 ?_
            refine lv_if_lt (tgt := 121) C.1.1 C.1.2.1 dX15_microsecond_103 (by decide) (fun c11 => ?_) (fun c11 => ?_)
            · replace hD := g_pos c11 hD
              exact hb121 M L _ _ ls hD hw (lv_sub hl [0] rfl)
            · replace hD := g_neg c11 hD
              refine lv_aload_n C.1.1 C.1.2.1 dX15_microsecond_106 rfl (lv_at hl 0 rfl) ?_
              refine lv_bipush (v := 9) C.1.1 C.1.2.1 dX15_microsecond_107 (by decide) ?_
              refine lv_aload_n C.1.1 C.1.2.1 dX15_microsecond_109 rfl (lv_at hl 0 rfl) ?_
              refine mr_getI C hw kc_15 29 (by decide) tf_787 wd_1984 dX15_microsecond_110 (by decide) rfl ?_
              obtain ⟨M12, L13, h1, hD⟩ := g_b2 hD
              refine md_cvV (As := [.int 9, .int (M 787 29)]) (rest := []) C hw (tX15_tell l G ad fu 9 (M 787 29) M L h1) kc_15 (by decide) tf_787 wd_3789 cwX15_tell ⟨Nat.le_of_ble_eq_true rfl, Nat.le_of_ble_eq_true rfl⟩ rfl hl.1 (Nat.le_of_ble_eq_true rfl) dX15_microsecond_113 rfl rfl ⟨Nat.zero_le _, Nat.zero_le _⟩ rfl (fun H locs hw => ?_)
              refine lv_aload_n C.1.1 C.1.2.1 dX15_microsecond_116 rfl (lv_at hl 0 rfl) ?_
              refine lv_iconst (v := 1) C.1.1 C.1.2.1 dX15_microsecond_117 (by decide) ?_
              obtain ⟨M14, eM14, hD⟩ := g_let hD
              refine mr_putI C hw kc_15 31 (by decide) tf_787 wd_1986 dX15_microsecond_118 (by decide) rfl rfl (by decide +kernel) (by decide +kernel) (fun H locs hw => ?_)
              replace hw : mw_W G ad NF TF FF M14 L13 H locs := by rw [eM14]; exact hw
              exact hb121 M14 L13 _ _ ls hD hw (lv_sub hl [0] rfl)
      · replace hD := g_neg c8 hD
        refine lv_iconst (v := 0) C.1.1 C.1.2.1 dX15_microsecond_46 (by decide) ?_
        refine lv_istore_n (lv' := [(1, .int 0), (0, .ref (ad 787))]) C.1.1 C.1.2.1 dX15_microsecond_47 rfl hl (by decide) rfl (fun ls hl => ?_)
        refine lv_iconst (v := 0) C.1.1 C.1.2.1 dX15_microsecond_48 (by decide) ?_
        refine lv_istore_n (lv' := [(2, .int 0), (1, .int 0), (0, .ref (ad 787))]) C.1.1 C.1.2.1 dX15_microsecond_49 rfl hl (by decide) rfl (fun ls hl => ?_)
        exact hh50 fu 0 0 M L _ _ ls hD hw (lv_sub hl [2, 1, 0] rfl)
  have hh2 : ∀ (f : Nat) (v1 : Int32) (M : mwM) (L : mwL) (H : Heap) (locs : List Loc) (ls : Array Slot), fX15_microsecond_h2 fu f (v1, M, L) = some (r0, M0, L0) → mw_W G ad NF TF FF M L H locs → lv_has ls 8 [(0, .ref (ad 787)), (1, .int v1)] → W p l e ({ frames := 6, cells := 0, slots := 0, locals := 139 }) s m [.ref (ad 787)].toArray below meth c H locs 0 0 (MQ below (mw_Qi G ad NF TF FF (mw_eqI r0 M0 L0)) [.ref (ad 787)].toArray s 0 0 (mw_fr G)) (F0 m 2 ls []) := by
    intro f
    induction f with
    | zero => intro v1 M L H locs ls hD; cases hD
    | succ f2 ih2 =>
      intro v1 M L H locs ls hD hw hl
      replace hD : fX15_microsecond_i2 fu (fX15_microsecond_h2 fu f2) v1 M L = some (r0, M0, L0) := hD
      have hb34 : ∀ (v1 : Int32) (M : mwM) (L : mwL) (H : Heap) (locs : List Loc) (ls : Array Slot), fX15_microsecond_b34 fu (fX15_microsecond_h2 fu f2) v1 M L = some (r0, M0, L0) → mw_W G ad NF TF FF M L H locs → lv_has ls 8 [(0, .ref (ad 787)), (1, .int v1)] → W p l e ({ frames := 6, cells := 0, slots := 0, locals := 139 }) s m [.ref (ad 787)].toArray below meth c H locs 0 0 (MQ below (mw_Qi G ad NF TF FF (mw_eqI r0 M0 L0)) [.ref (ad 787)].toArray s 0 0 (mw_fr G)) (F0 m 34 ls []) := by
        intro v1 M L H locs ls hD hw hl
        unfold fX15_microsecond_b34 at hD
        obtain ⟨x7, ex7, hD⟩ := g_let hD
        refine lv_iinc (v := x7) (lv' := [(1, .int x7), (0, .ref (ad 787))]) C.1.1 C.1.2.1 dX15_microsecond_34 hl (k := 1) rfl (by rw [ex7]; rfl) (by decide) rfl (fun ls hl => ?_)
        refine lv_goto (tgt := 2) C.1.1 C.1.2.1 dX15_microsecond_37 (by decide) ?_
        exact ih2 x7 M L _ _ ls hD hw (lv_sub hl [1, 0] rfl)
      unfold fX15_microsecond_i2 at hD
      refine lv_iload_n C.1.1 C.1.2.1 dX15_microsecond_2 rfl (lv_at hl 1 rfl) ?_
      refine lv_aload_n C.1.1 C.1.2.1 dX15_microsecond_3 rfl (lv_at hl 0 rfl) ?_
      refine mr_getI C hw kc_15 32 (by decide) tf_787 wd_1987 dX15_microsecond_4 (by decide) rfl ?_
      refine lv_icmp_ge (tgt := 40) C.1.1 C.1.2.1 dX15_microsecond_7 (by decide) (fun c1 => ?_) (fun c1 => ?_)
      · replace hD := g_pos c1 hD
        refine lv_iconst (v := 1) C.1.1 C.1.2.1 dX15_microsecond_40 (by decide) ?_
        refine lv_istore_n (lv' := [(1, .int 1), (0, .ref (ad 787))]) C.1.1 C.1.2.1 dX15_microsecond_41 rfl hl (by decide) rfl (fun ls hl => ?_)
        exact hh42 fu 1 M L _ _ ls hD hw (lv_sub hl [1, 0] rfl)
      · replace hD := g_neg c1 hD
        refine lv_aload_n C.1.1 C.1.2.1 dX15_microsecond_10 rfl (lv_at hl 0 rfl) ?_
        refine mr_getR C hw kc_15 34 (by decide) tf_787 ff_787_34 wd_1989 dX15_microsecond_11 (by decide) rfl ?_
        refine lv_iload_n C.1.1 C.1.2.1 dX15_microsecond_14 rfl (lv_at hl 1 rfl) ?_
        obtain ⟨q2, hD⟩ := g_ck hD
        refine mr_lald C hw (by decide) tf_813 q2 dX15_microsecond_15 ?_
        refine lv_aload_n C.1.1 C.1.2.1 dX15_microsecond_16 rfl (lv_at hl 0 rfl) ?_
        refine mr_getL C hw kc_15 43 (by decide) tf_787 wd_1998 dX15_microsecond_17 (by decide) rfl ?_
        refine W.lcmp C.1.1 C.1.2.1 dX15_microsecond_20 ?_
        refine lv_if_ne (tgt := 34) C.1.1 C.1.2.1 dX15_microsecond_21 (by decide) (fun c3 => ?_) (fun c3 => ?_)
        · replace hD := g_neg c3 hD
          exact hb34 v1 M L _ _ ls hD hw (lv_sub hl [0, 1] rfl)
        · replace hD := g_pos c3 hD
          refine lv_aload_n C.1.1 C.1.2.1 dX15_microsecond_24 rfl (lv_at hl 0 rfl) ?_
          refine lv_aload_n C.1.1 C.1.2.1 dX15_microsecond_25 rfl (lv_at hl 0 rfl) ?_
          refine mr_getR C hw kc_15 33 (by decide) tf_787 ff_787_33 wd_1988 dX15_microsecond_26 (by decide) rfl ?_
          refine lv_iload_n C.1.1 C.1.2.1 dX15_microsecond_29 rfl (lv_at hl 1 rfl) ?_
          obtain ⟨q4, hD⟩ := g_ck hD
          refine mr_iald C hw (by decide) tf_812 q4 dX15_microsecond_30 ?_
          obtain ⟨M5, L6, h1, hD⟩ := g_b2 hD
          refine md_cvV (As := [.int (M 812 v1.toNatClampNeg)]) (rest := []) C hw (tX15_begin l G ad fu (M 812 v1.toNatClampNeg) M L h1) kc_15 (by decide) tf_787 wd_3785 cwX15_begin ⟨Nat.le_of_ble_eq_true rfl, Nat.le_of_ble_eq_true rfl⟩ rfl hl.1 (Nat.le_of_ble_eq_true rfl) dX15_microsecond_31 rfl rfl ⟨Nat.zero_le _, Nat.zero_le _⟩ rfl (fun H locs hw => ?_)
          exact hb34 v1 M5 L6 _ _ ls hD hw (lv_sub hl [0, 1] rfl)
  unfold DX15_microsecond at hD
  refine lv_iconst (v := 0) C.1.1 C.1.2.1 dX15_microsecond_0 (by decide) ?_
  refine lv_istore_n (lv' := [(1, .int 0), (0, .ref (ad 787))]) C.1.1 C.1.2.1 dX15_microsecond_1 rfl hl (by decide) rfl (fun ls hl => ?_)
  exact hh2 fu 0 M L _ _ ls hD hw (lv_sub hl [1, 0] rfl)

theorem dX15_run_0 : decode cX15_run 0 = .ok (.lload_n 1, 1) := by decide +kernel
theorem dX15_run_1 : decode cX15_run 1 = .ok (.lconst 0, 1) := by decide +kernel
theorem dX15_run_2 : decode cX15_run 2 = .ok (.lcmp, 1) := by decide +kernel
theorem dX15_run_3 : decode cX15_run 3 = .ok (.ifCond .lt 16, 3) := by decide +kernel
theorem dX15_run_6 : decode cX15_run 6 = .ok (.lload_n 1, 1) := by decide +kernel
theorem dX15_run_7 : decode cX15_run 7 = .ok (.ldc2_w 149, 3) := by decide +kernel
theorem dX15_run_10 : decode cX15_run 10 = .ok (.aload_n 0, 1) := by decide +kernel
theorem dX15_run_11 : decode cX15_run 11 = .ok (.getfield 146, 3) := by decide +kernel
theorem dX15_run_14 : decode cX15_run 14 = .ok (.lsub, 1) := by decide +kernel
theorem dX15_run_15 : decode cX15_run 15 = .ok (.lcmp, 1) := by decide +kernel
theorem dX15_run_16 : decode cX15_run 16 = .ok (.ifCond .le 6, 3) := by decide +kernel
theorem dX15_run_19 : decode cX15_run 19 = .ok (.bipush (-2), 2) := by decide +kernel
theorem dX15_run_21 : decode cX15_run 21 = .ok (.ireturn, 1) := by decide +kernel
theorem dX15_run_22 : decode cX15_run 22 = .ok (.aload_n 0, 1) := by decide +kernel
theorem dX15_run_23 : decode cX15_run 23 = .ok (.invokevirtual 238, 3) := by decide +kernel
theorem dX15_run_26 : decode cX15_run 26 = .ok (.iconst 0, 1) := by decide +kernel
theorem dX15_run_27 : decode cX15_run 27 = .ok (.istore_n 3, 1) := by decide +kernel
theorem dX15_run_28 : decode cX15_run 28 = .ok (.lconst 0, 1) := by decide +kernel
theorem dX15_run_29 : decode cX15_run 29 = .ok (.lstore 4, 2) := by decide +kernel
theorem dX15_run_31 : decode cX15_run 31 = .ok (.lload 4, 2) := by decide +kernel
theorem dX15_run_33 : decode cX15_run 33 = .ok (.lload_n 1, 1) := by decide +kernel
theorem dX15_run_34 : decode cX15_run 34 = .ok (.lcmp, 1) := by decide +kernel
theorem dX15_run_35 : decode cX15_run 35 = .ok (.ifCond .ge 19, 3) := by decide +kernel
theorem dX15_run_38 : decode cX15_run 38 = .ok (.iload_n 3, 1) := by decide +kernel
theorem dX15_run_39 : decode cX15_run 39 = .ok (.aload_n 0, 1) := by decide +kernel
theorem dX15_run_40 : decode cX15_run 40 = .ok (.invokevirtual 241, 3) := by decide +kernel
theorem dX15_run_43 : decode cX15_run 43 = .ok (.iadd, 1) := by decide +kernel
theorem dX15_run_44 : decode cX15_run 44 = .ok (.istore_n 3, 1) := by decide +kernel
theorem dX15_run_45 : decode cX15_run 45 = .ok (.lload 4, 2) := by decide +kernel
theorem dX15_run_47 : decode cX15_run 47 = .ok (.lconst 1, 1) := by decide +kernel
theorem dX15_run_48 : decode cX15_run 48 = .ok (.ladd, 1) := by decide +kernel
theorem dX15_run_49 : decode cX15_run 49 = .ok (.lstore 4, 2) := by decide +kernel
theorem dX15_run_51 : decode cX15_run 51 = .ok (.goto (-20), 3) := by decide +kernel
theorem dX15_run_54 : decode cX15_run 54 = .ok (.iload_n 3, 1) := by decide +kernel
theorem dX15_run_55 : decode cX15_run 55 = .ok (.ireturn, 1) := by decide +kernel
theorem cwX15_run : mw_cwV yX15_run cX15_run 6 ((some .int)) 1 := ⟨⟨wd_14, wd_3776, by decide +kernel⟩, wd_3774, wd_3775⟩
set_option maxHeartbeats 4000000 in
set_option maxRecDepth 100000 in
theorem tX15_run (l : Launch) (G : mwG) (ad : Nat → Nat) (fu : Nat) (a1 : Int64) (M : mwM) (L : mwL) {r0 : Int32} {M0 : mwM} {L0 : mwL} (hD : DX15_run fu a1 M L = some (r0, M0, L0)) : Met l yX15_run (Cond.code yX15_run cX15_run 6 ((some .int)) :: GT) ({ frames := 7, cells := 0, slots := 0, locals := 166 }) (mw_Pre G ad NF TF FF M L [.ref (ad 787), .long a1]) (mw_Qi G ad NF TF FF (mw_eqI r0 M0 L0)) 0 0 (mw_fr G) := by
  refine mw_enter (by decide) (Nat.le_of_ble_eq_true rfl) ?_
  intro p e s m below meth c ls C hr hlocks hnm hw hl
  have hl : lv_has ls 6 [(0, .ref (ad 787)), (1, .long a1)] := hl
  have hb19 : ∀ (M : mwM) (L : mwL) (H : Heap) (locs : List Loc) (ls : Array Slot), fX15_run_b19 fu a1 M L = some (r0, M0, L0) → mw_W G ad NF TF FF M L H locs → lv_has ls 6 [] → W p l e ({ frames := 7, cells := 0, slots := 0, locals := 166 }) s m [.ref (ad 787), .long a1].toArray below meth c H locs 0 0 (MQ below (mw_Qi G ad NF TF FF (mw_eqI r0 M0 L0)) [.ref (ad 787), .long a1].toArray s 0 0 (mw_fr G)) (F0 m 19 ls []) := by
    intro M L H locs ls hD hw hl
    unfold fX15_run_b19 at hD
    refine lv_bipush (v := (-2)) C.1.1 C.1.2.1 dX15_run_19 (by decide) ?_
    exact mr_iret C hr hlocks hw rfl (Option.some.inj hD) dX15_run_21
  have hh31 : ∀ (f : Nat) (v3 : Int32) (v4 : Int64) (M : mwM) (L : mwL) (H : Heap) (locs : List Loc) (ls : Array Slot), fX15_run_h31 fu a1 f (v3, v4, M, L) = some (r0, M0, L0) → mw_W G ad NF TF FF M L H locs → lv_has ls 6 [(0, .ref (ad 787)), (1, .long a1), (3, .int v3), (4, .long v4)] → W p l e ({ frames := 7, cells := 0, slots := 0, locals := 166 }) s m [.ref (ad 787), .long a1].toArray below meth c H locs 0 0 (MQ below (mw_Qi G ad NF TF FF (mw_eqI r0 M0 L0)) [.ref (ad 787), .long a1].toArray s 0 0 (mw_fr G)) (F0 m 31 ls []) := by
    intro f
    induction f with
    | zero => intro v3 v4 M L H locs ls hD; cases hD
    | succ f31 ih31 =>
      intro v3 v4 M L H locs ls hD hw hl
      replace hD : fX15_run_i31 fu a1 (fX15_run_h31 fu a1 f31) v3 v4 M L = some (r0, M0, L0) := hD
      unfold fX15_run_i31 at hD
      refine lv_lload C.1.1 C.1.2.1 dX15_run_31 (lv_at hl 3 rfl) ?_
      refine lv_lload_n C.1.1 C.1.2.1 dX15_run_33 rfl (lv_at hl 1 rfl) ?_
      refine W.lcmp C.1.1 C.1.2.1 dX15_run_34 ?_
      refine lv_if_ge (tgt := 54) C.1.1 C.1.2.1 dX15_run_35 (by decide) (fun c1 => ?_) (fun c1 => ?_)
      · replace hD := g_pos c1 hD
        refine lv_iload_n C.1.1 C.1.2.1 dX15_run_54 rfl (lv_at hl 2 rfl) ?_
        exact mr_iret C hr hlocks hw rfl (Option.some.inj hD) dX15_run_55
      · replace hD := g_neg c1 hD
        refine lv_iload_n C.1.1 C.1.2.1 dX15_run_38 rfl (lv_at hl 2 rfl) ?_
        refine lv_aload_n C.1.1 C.1.2.1 dX15_run_39 rfl (lv_at hl 0 rfl) ?_
        obtain ⟨r4, M2, L3, h1, hD⟩ := g_b3 hD
        refine md_cvI (As := []) (rest := [.int v3]) C hw (tX15_microsecond l G ad fu M L h1) kc_15 (by decide) tf_787 wd_3781 cwX15_microsecond ⟨Nat.le_of_ble_eq_true rfl, Nat.le_of_ble_eq_true rfl⟩ rfl hl.1 (Nat.le_of_ble_eq_true rfl) dX15_run_40 rfl rfl ⟨Nat.zero_le _, Nat.zero_le _⟩ rfl (fun H locs hw => ?_)
        refine lv_iadd C.1.1 C.1.2.1 dX15_run_43 ?_
        obtain ⟨x5, ex5, hD⟩ := g_let hD
        refine W.eq (g2 := F0 m 44 ls (.int x5 :: [])) (by rw [ex5]) ?_
        refine lv_istore_n (lv' := [(3, .int x5), (0, .ref (ad 787)), (1, .long a1), (4, .long v4)]) C.1.1 C.1.2.1 dX15_run_44 rfl hl (by decide) rfl (fun ls hl => ?_)
        refine lv_lload C.1.1 C.1.2.1 dX15_run_45 (lv_at hl 3 rfl) ?_
        refine lv_lconst (v := 1) C.1.1 C.1.2.1 dX15_run_47 (by decide) ?_
        refine lv_ladd C.1.1 C.1.2.1 dX15_run_48 ?_
        obtain ⟨x6, ex6, hD⟩ := g_let hD
        refine W.eq (g2 := F0 m 49 ls (.long x6 :: [])) (by rw [ex6]) ?_
        refine lv_lstore (lv' := [(4, .long x6), (3, .int x5), (0, .ref (ad 787)), (1, .long a1)]) C.1.1 C.1.2.1 dX15_run_49 hl (by decide) rfl (fun ls hl => ?_)
        refine lv_goto (tgt := 31) C.1.1 C.1.2.1 dX15_run_51 (by decide) ?_
        exact ih31 x5 x6 M2 L3 _ _ ls hD hw (lv_sub hl [2, 3, 1, 0] rfl)
  unfold DX15_run at hD
  refine lv_lload_n C.1.1 C.1.2.1 dX15_run_0 rfl (lv_at hl 1 rfl) ?_
  refine lv_lconst (v := 0) C.1.1 C.1.2.1 dX15_run_1 (by decide) ?_
  refine W.lcmp C.1.1 C.1.2.1 dX15_run_2 ?_
  refine lv_if_lt (tgt := 19) C.1.1 C.1.2.1 dX15_run_3 (by decide) (fun c7 => ?_) (fun c7 => ?_)
  · replace hD := g_pos c7 hD
    exact hb19 M L _ _ ls hD hw (lv_sub hl [] rfl)
  · replace hD := g_neg c7 hD
    refine lv_lload_n C.1.1 C.1.2.1 dX15_run_6 rfl (lv_at hl 1 rfl) ?_
    refine lv_ldc2 (v := 50000) C.1.1 C.1.2.1 C.1.2.2.2.1 (C.1.2.2.2.2 _ wd_3522) dX15_run_7 ?_
    refine lv_aload_n C.1.1 C.1.2.1 dX15_run_10 rfl (lv_at hl 0 rfl) ?_
    refine mr_getL C hw kc_15 43 (by decide) tf_787 wd_1998 dX15_run_11 (by decide) rfl ?_
    refine lv_lsub C.1.1 C.1.2.1 dX15_run_14 ?_
    refine W.lcmp C.1.1 C.1.2.1 dX15_run_15 ?_
    refine lv_if_le (tgt := 22) C.1.1 C.1.2.1 dX15_run_16 (by decide) (fun c8 => ?_) (fun c8 => ?_)
    · replace hD := g_pos c8 hD
      refine lv_aload_n C.1.1 C.1.2.1 dX15_run_22 rfl (lv_at hl 0 rfl) ?_
      obtain ⟨M9, L10, h1, hD⟩ := g_b2 hD
      refine md_cvV (As := []) (rest := []) C hw (tX15_findCeilings l G ad fu M L h1) kc_15 (by decide) tf_787 wd_3777 cwX15_findCeilings ⟨Nat.le_of_ble_eq_true rfl, Nat.le_of_ble_eq_true rfl⟩ rfl hl.1 (Nat.le_of_ble_eq_true rfl) dX15_run_23 rfl rfl ⟨Nat.zero_le _, Nat.zero_le _⟩ rfl (fun H locs hw => ?_)
      refine lv_iconst (v := 0) C.1.1 C.1.2.1 dX15_run_26 (by decide) ?_
      refine lv_istore_n (lv' := [(3, .int 0), (0, .ref (ad 787)), (1, .long a1)]) C.1.1 C.1.2.1 dX15_run_27 rfl hl (by decide) rfl (fun ls hl => ?_)
      refine lv_lconst (v := 0) C.1.1 C.1.2.1 dX15_run_28 (by decide) ?_
      refine lv_lstore (lv' := [(4, .long 0), (3, .int 0), (0, .ref (ad 787)), (1, .long a1)]) C.1.1 C.1.2.1 dX15_run_29 hl (by decide) rfl (fun ls hl => ?_)
      exact hh31 fu 0 0 M9 L10 _ _ ls hD hw (lv_sub hl [2, 3, 1, 0] rfl)
    · replace hD := g_neg c8 hD
      exact hb19 M L _ _ ls hD hw (lv_sub hl [] rfl)

theorem dX15_running_0 : decode cX15_running 0 = .ok (.iload_n 1, 1) := by decide +kernel
theorem dX15_running_1 : decode cX15_running 1 = .ok (.ifCond .lt 11, 3) := by decide +kernel
theorem dX15_running_4 : decode cX15_running 4 = .ok (.iload_n 1, 1) := by decide +kernel
theorem dX15_running_5 : decode cX15_running 5 = .ok (.aload_n 0, 1) := by decide +kernel
theorem dX15_running_6 : decode cX15_running 6 = .ok (.getfield 113, 3) := by decide +kernel
theorem dX15_running_9 : decode cX15_running 9 = .ok (.if_icmp .lt 5, 3) := by decide +kernel
theorem dX15_running_12 : decode cX15_running 12 = .ok (.iconst (-1), 1) := by decide +kernel
theorem dX15_running_13 : decode cX15_running 13 = .ok (.ireturn, 1) := by decide +kernel
theorem dX15_running_14 : decode cX15_running 14 = .ok (.lload_n 2, 1) := by decide +kernel
theorem dX15_running_15 : decode cX15_running 15 = .ok (.lconst 0, 1) := by decide +kernel
theorem dX15_running_16 : decode cX15_running 16 = .ok (.lcmp, 1) := by decide +kernel
theorem dX15_running_17 : decode cX15_running 17 = .ok (.ifCond .lt 12, 3) := by decide +kernel
theorem dX15_running_20 : decode cX15_running 20 = .ok (.lload_n 2, 1) := by decide +kernel
theorem dX15_running_21 : decode cX15_running 21 = .ok (.aload_n 0, 1) := by decide +kernel
theorem dX15_running_22 : decode cX15_running 22 = .ok (.getfield 146, 3) := by decide +kernel
theorem dX15_running_25 : decode cX15_running 25 = .ok (.lcmp, 1) := by decide +kernel
theorem dX15_running_26 : decode cX15_running 26 = .ok (.ifCond .lt 6, 3) := by decide +kernel
theorem dX15_running_29 : decode cX15_running 29 = .ok (.bipush (-2), 2) := by decide +kernel
theorem dX15_running_31 : decode cX15_running 31 = .ok (.ireturn, 1) := by decide +kernel
theorem dX15_running_32 : decode cX15_running 32 = .ok (.aload_n 0, 1) := by decide +kernel
theorem dX15_running_33 : decode cX15_running 33 = .ok (.getfield 109, 3) := by decide +kernel
theorem dX15_running_36 : decode cX15_running 36 = .ok (.sipush 20000, 3) := by decide +kernel
theorem dX15_running_39 : decode cX15_running 39 = .ok (.iload_n 1, 1) := by decide +kernel
theorem dX15_running_40 : decode cX15_running 40 = .ok (.imul, 1) := by decide +kernel
theorem dX15_running_41 : decode cX15_running 41 = .ok (.lload_n 2, 1) := by decide +kernel
theorem dX15_running_42 : decode cX15_running 42 = .ok (.l2i, 1) := by decide +kernel
theorem dX15_running_43 : decode cX15_running 43 = .ok (.iadd, 1) := by decide +kernel
theorem dX15_running_44 : decode cX15_running 44 = .ok (.saload, 1) := by decide +kernel
theorem dX15_running_45 : decode cX15_running 45 = .ok (.ireturn, 1) := by decide +kernel
theorem cwX15_running : mw_cwV yX15_running cX15_running 4 ((some .int)) 2 := ⟨⟨wd_14, wd_4257, by decide +kernel⟩, wd_4255, wd_4256⟩
set_option maxHeartbeats 4000000 in
set_option maxRecDepth 100000 in
theorem tX15_running (l : Launch) (G : mwG) (ad : Nat → Nat) (fu : Nat) (a1 : Int32) (a2 : Int64) (M : mwM) (L : mwL) {r0 : Int32} {M0 : mwM} {L0 : mwL} (hD : DX15_running fu a1 a2 M L = some (r0, M0, L0)) : Met l yX15_running (Cond.code yX15_running cX15_running 4 ((some .int)) :: GT) ({ frames := 0, cells := 0, slots := 0, locals := 0 }) (mw_Pre G ad NF TF FF M L [.ref (ad 787), .int a1, .long a2]) (mw_Qi G ad NF TF FF (mw_eqI r0 M0 L0)) 0 0 (mw_fr G) := by
  refine mw_enter (by decide) (Nat.le_of_ble_eq_true rfl) ?_
  intro p e s m below meth c ls C hr hlocks hnm hw hl
  have hl : lv_has ls 4 [(0, .ref (ad 787)), (1, .int a1), (2, .long a2)] := hl
  have hb12 : ∀ (M : mwM) (L : mwL) (H : Heap) (locs : List Loc) (ls : Array Slot), fX15_running_b12 fu a1 a2 M L = some (r0, M0, L0) → mw_W G ad NF TF FF M L H locs → lv_has ls 4 [] → W p l e ({ frames := 0, cells := 0, slots := 0, locals := 0 }) s m [.ref (ad 787), .int a1, .long a2].toArray below meth c H locs 0 0 (MQ below (mw_Qi G ad NF TF FF (mw_eqI r0 M0 L0)) [.ref (ad 787), .int a1, .long a2].toArray s 0 0 (mw_fr G)) (F0 m 12 ls []) := by
    intro M L H locs ls hD hw hl
    unfold fX15_running_b12 at hD
    refine lv_iconst (v := (-1)) C.1.1 C.1.2.1 dX15_running_12 (by decide) ?_
    exact mr_iret C hr hlocks hw rfl (Option.some.inj hD) dX15_running_13
  have hb29 : ∀ (M : mwM) (L : mwL) (H : Heap) (locs : List Loc) (ls : Array Slot), fX15_running_b29 fu a1 a2 M L = some (r0, M0, L0) → mw_W G ad NF TF FF M L H locs → lv_has ls 4 [] → W p l e ({ frames := 0, cells := 0, slots := 0, locals := 0 }) s m [.ref (ad 787), .int a1, .long a2].toArray below meth c H locs 0 0 (MQ below (mw_Qi G ad NF TF FF (mw_eqI r0 M0 L0)) [.ref (ad 787), .int a1, .long a2].toArray s 0 0 (mw_fr G)) (F0 m 29 ls []) := by
    intro M L H locs ls hD hw hl
    unfold fX15_running_b29 at hD
    refine lv_bipush (v := (-2)) C.1.1 C.1.2.1 dX15_running_29 (by decide) ?_
    exact mr_iret C hr hlocks hw rfl (Option.some.inj hD) dX15_running_31
  unfold DX15_running at hD
  refine lv_iload_n C.1.1 C.1.2.1 dX15_running_0 rfl (lv_at hl 1 rfl) ?_
  refine lv_if_lt (tgt := 12) C.1.1 C.1.2.1 dX15_running_1 (by decide) (fun c1 => ?_) (fun c1 => ?_)
  · replace hD := g_pos c1 hD
    exact hb12 M L _ _ ls hD hw (lv_sub hl [] rfl)
  · replace hD := g_neg c1 hD
    refine lv_iload_n C.1.1 C.1.2.1 dX15_running_4 rfl (lv_at hl 1 rfl) ?_
    refine lv_aload_n C.1.1 C.1.2.1 dX15_running_5 rfl (lv_at hl 0 rfl) ?_
    refine mr_getI C hw kc_15 0 (by decide) tf_787 wd_1955 dX15_running_6 (by decide) rfl ?_
    refine lv_icmp_lt (tgt := 14) C.1.1 C.1.2.1 dX15_running_9 (by decide) (fun c2 => ?_) (fun c2 => ?_)
    · replace hD := g_pos c2 hD
      refine lv_lload_n C.1.1 C.1.2.1 dX15_running_14 rfl (lv_at hl 2 rfl) ?_
      refine lv_lconst (v := 0) C.1.1 C.1.2.1 dX15_running_15 (by decide) ?_
      refine W.lcmp C.1.1 C.1.2.1 dX15_running_16 ?_
      refine lv_if_lt (tgt := 29) C.1.1 C.1.2.1 dX15_running_17 (by decide) (fun c3 => ?_) (fun c3 => ?_)
      · replace hD := g_pos c3 hD
        exact hb29 M L _ _ ls hD hw (lv_sub hl [] rfl)
      · replace hD := g_neg c3 hD
        refine lv_lload_n C.1.1 C.1.2.1 dX15_running_20 rfl (lv_at hl 2 rfl) ?_
        refine lv_aload_n C.1.1 C.1.2.1 dX15_running_21 rfl (lv_at hl 0 rfl) ?_
        refine mr_getL C hw kc_15 43 (by decide) tf_787 wd_1998 dX15_running_22 (by decide) rfl ?_
        refine W.lcmp C.1.1 C.1.2.1 dX15_running_25 ?_
        refine lv_if_lt (tgt := 32) C.1.1 C.1.2.1 dX15_running_26 (by decide) (fun c4 => ?_) (fun c4 => ?_)
        · replace hD := g_pos c4 hD
          refine lv_aload_n C.1.1 C.1.2.1 dX15_running_32 rfl (lv_at hl 0 rfl) ?_
          refine mr_getR C hw kc_15 44 (by decide) tf_787 ff_787_44 wd_1999 dX15_running_33 (by decide) rfl ?_
          refine lv_sipush (v := 20000) C.1.1 C.1.2.1 dX15_running_36 (by decide) ?_
          refine lv_iload_n C.1.1 C.1.2.1 dX15_running_39 rfl (lv_at hl 1 rfl) ?_
          refine lv_imul C.1.1 C.1.2.1 dX15_running_40 ?_
          refine lv_lload_n C.1.1 C.1.2.1 dX15_running_41 rfl (lv_at hl 2 rfl) ?_
          refine lv_l2i C.1.1 C.1.2.1 dX15_running_42 rfl ?_
          refine lv_iadd C.1.1 C.1.2.1 dX15_running_43 ?_
          obtain ⟨q5, hD⟩ := g_ck hD
          refine mr_sald C hw (by decide) tf_820 q5 dX15_running_44 ?_
          exact mr_iret C hr hlocks hw rfl (Option.some.inj hD) dX15_running_45
        · replace hD := g_neg c4 hD
          exact hb29 M L _ _ ls hD hw (lv_sub hl [] rfl)
    · replace hD := g_neg c2 hD
      exact hb12 M L _ _ ls hD hw (lv_sub hl [] rfl)

theorem dX15_used_0 : decode cX15_used 0 = .ok (.aload_n 0, 1) := by decide +kernel
theorem dX15_used_1 : decode cX15_used 1 = .ok (.iload_n 1, 1) := by decide +kernel
theorem dX15_used_2 : decode cX15_used 2 = .ok (.invokevirtual 165, 3) := by decide +kernel
theorem dX15_used_5 : decode cX15_used 5 = .ok (.ifCond .eq 9, 3) := by decide +kernel
theorem dX15_used_8 : decode cX15_used 8 = .ok (.ldc2_w 230, 3) := by decide +kernel
theorem dX15_used_11 : decode cX15_used 11 = .ok (.goto 9, 3) := by decide +kernel
theorem dX15_used_14 : decode cX15_used 14 = .ok (.aload_n 0, 1) := by decide +kernel
theorem dX15_used_15 : decode cX15_used 15 = .ok (.getfield 63, 3) := by decide +kernel
theorem dX15_used_18 : decode cX15_used 18 = .ok (.iload_n 1, 1) := by decide +kernel
theorem dX15_used_19 : decode cX15_used 19 = .ok (.laload, 1) := by decide +kernel
theorem dX15_used_20 : decode cX15_used 20 = .ok (.lreturn, 1) := by decide +kernel
theorem cwX15_used : mw_cwV yX15_used cX15_used 2 ((some .long)) 1 := ⟨⟨wd_14, wd_3771, by decide +kernel⟩, wd_3769, wd_3770⟩
set_option maxHeartbeats 4000000 in
set_option maxRecDepth 100000 in
theorem tX15_used (l : Launch) (G : mwG) (ad : Nat → Nat) (fu : Nat) (a1 : Int32) (M : mwM) (L : mwL) {r0 : Int64} {M0 : mwM} {L0 : mwL} (hD : DX15_used fu a1 M L = some (r0, M0, L0)) : Met l yX15_used (Cond.code yX15_used cX15_used 2 ((some .long)) :: GT) ({ frames := 1, cells := 0, slots := 0, locals := 21 }) (mw_Pre G ad NF TF FF M L [.ref (ad 787), .int a1]) (mw_Ql G ad NF TF FF (mw_eqL r0 M0 L0)) 0 0 (mw_fr G) := by
  refine mw_enter (by decide) (Nat.le_of_ble_eq_true rfl) ?_
  intro p e s m below meth c ls C hr hlocks hnm hw hl
  have hl : lv_has ls 2 [(0, .ref (ad 787)), (1, .int a1)] := hl
  have hb20 : ∀ (s0 : Int64) (M : mwM) (L : mwL) (H : Heap) (locs : List Loc) (ls : Array Slot), fX15_used_b20 fu a1 s0 M L = some (r0, M0, L0) → mw_W G ad NF TF FF M L H locs → lv_has ls 2 [] → W p l e ({ frames := 1, cells := 0, slots := 0, locals := 21 }) s m [.ref (ad 787), .int a1].toArray below meth c H locs 0 0 (MQ below (mw_Ql G ad NF TF FF (mw_eqL r0 M0 L0)) [.ref (ad 787), .int a1].toArray s 0 0 (mw_fr G)) (F0 m 20 ls [.long s0]) := by
    intro s0 M L H locs ls hD hw hl
    unfold fX15_used_b20 at hD
    exact mr_lret C hr hlocks hw (Option.some.inj hD) dX15_used_20
  unfold DX15_used at hD
  refine lv_aload_n C.1.1 C.1.2.1 dX15_used_0 rfl (lv_at hl 0 rfl) ?_
  refine lv_iload_n C.1.1 C.1.2.1 dX15_used_1 rfl (lv_at hl 1 rfl) ?_
  obtain ⟨r3, M1, L2, h1, hD⟩ := g_b3 hD
  refine md_cvI (As := [.int a1]) (rest := []) C hw (tX15_no l G ad fu a1 M L h1) kc_15 (by decide) tf_787 wd_3515 cwX15_no ⟨Nat.le_of_ble_eq_true rfl, Nat.le_of_ble_eq_true rfl⟩ rfl hl.1 (Nat.le_of_ble_eq_true rfl) dX15_used_2 rfl rfl ⟨Nat.zero_le _, Nat.zero_le _⟩ rfl (fun H locs hw => ?_)
  refine lv_if_eq (tgt := 14) C.1.1 C.1.2.1 dX15_used_5 (by decide) (fun c4 => ?_) (fun c4 => ?_)
  · replace hD := g_pos c4 hD
    refine lv_aload_n C.1.1 C.1.2.1 dX15_used_14 rfl (lv_at hl 0 rfl) ?_
    refine mr_getR C hw kc_15 20 (by decide) tf_787 ff_787_20 wd_1975 dX15_used_15 (by decide) rfl ?_
    refine lv_iload_n C.1.1 C.1.2.1 dX15_used_18 rfl (lv_at hl 1 rfl) ?_
    obtain ⟨q5, hD⟩ := g_ck hD
    refine mr_lald C hw (by decide) tf_805 q5 dX15_used_19 ?_
    exact hb20 (L2 805 a1.toNatClampNeg) M1 L2 _ _ ls hD hw (lv_sub hl [] rfl)
  · replace hD := g_neg c4 hD
    refine lv_ldc2 (v := (-1)) C.1.1 C.1.2.1 C.1.2.2.2.1 (C.1.2.2.2.2 _ wd_3772) dX15_used_8 ?_
    refine lv_goto (tgt := 20) C.1.1 C.1.2.1 dX15_used_11 (by decide) ?_
    exact hb20 ((-1)) M1 L2 _ _ ls hD hw (lv_sub hl [] rfl)

theorem dX15_state_0 : decode cX15_state 0 = .ok (.aload_n 0, 1) := by decide +kernel
theorem dX15_state_1 : decode cX15_state 1 = .ok (.iload_n 1, 1) := by decide +kernel
theorem dX15_state_2 : decode cX15_state 2 = .ok (.invokevirtual 165, 3) := by decide +kernel
theorem dX15_state_5 : decode cX15_state 5 = .ok (.ifCond .eq 7, 3) := by decide +kernel
theorem dX15_state_8 : decode cX15_state 8 = .ok (.iconst (-1), 1) := by decide +kernel
theorem dX15_state_9 : decode cX15_state 9 = .ok (.goto 9, 3) := by decide +kernel
theorem dX15_state_12 : decode cX15_state 12 = .ok (.aload_n 0, 1) := by decide +kernel
theorem dX15_state_13 : decode cX15_state 13 = .ok (.getfield 36, 3) := by decide +kernel
theorem dX15_state_16 : decode cX15_state 16 = .ok (.iload_n 1, 1) := by decide +kernel
theorem dX15_state_17 : decode cX15_state 17 = .ok (.iaload, 1) := by decide +kernel
theorem dX15_state_18 : decode cX15_state 18 = .ok (.ireturn, 1) := by decide +kernel
theorem cwX15_state : mw_cwV yX15_state cX15_state 2 ((some .int)) 1 := ⟨⟨wd_14, wd_4265, by decide +kernel⟩, wd_4263, wd_4264⟩
set_option maxHeartbeats 4000000 in
set_option maxRecDepth 100000 in
theorem tX15_state (l : Launch) (G : mwG) (ad : Nat → Nat) (fu : Nat) (a1 : Int32) (M : mwM) (L : mwL) {r0 : Int32} {M0 : mwM} {L0 : mwL} (hD : DX15_state fu a1 M L = some (r0, M0, L0)) : Met l yX15_state (Cond.code yX15_state cX15_state 2 ((some .int)) :: GT) ({ frames := 1, cells := 0, slots := 0, locals := 21 }) (mw_Pre G ad NF TF FF M L [.ref (ad 787), .int a1]) (mw_Qi G ad NF TF FF (mw_eqI r0 M0 L0)) 0 0 (mw_fr G) := by
  refine mw_enter (by decide) (Nat.le_of_ble_eq_true rfl) ?_
  intro p e s m below meth c ls C hr hlocks hnm hw hl
  have hl : lv_has ls 2 [(0, .ref (ad 787)), (1, .int a1)] := hl
  have hb18 : ∀ (s0 : Int32) (M : mwM) (L : mwL) (H : Heap) (locs : List Loc) (ls : Array Slot), fX15_state_b18 fu a1 s0 M L = some (r0, M0, L0) → mw_W G ad NF TF FF M L H locs → lv_has ls 2 [] → W p l e ({ frames := 1, cells := 0, slots := 0, locals := 21 }) s m [.ref (ad 787), .int a1].toArray below meth c H locs 0 0 (MQ below (mw_Qi G ad NF TF FF (mw_eqI r0 M0 L0)) [.ref (ad 787), .int a1].toArray s 0 0 (mw_fr G)) (F0 m 18 ls [.int s0]) := by
    intro s0 M L H locs ls hD hw hl
    unfold fX15_state_b18 at hD
    exact mr_iret C hr hlocks hw rfl (Option.some.inj hD) dX15_state_18
  unfold DX15_state at hD
  refine lv_aload_n C.1.1 C.1.2.1 dX15_state_0 rfl (lv_at hl 0 rfl) ?_
  refine lv_iload_n C.1.1 C.1.2.1 dX15_state_1 rfl (lv_at hl 1 rfl) ?_
  obtain ⟨r3, M1, L2, h1, hD⟩ := g_b3 hD
  refine md_cvI (As := [.int a1]) (rest := []) C hw (tX15_no l G ad fu a1 M L h1) kc_15 (by decide) tf_787 wd_3515 cwX15_no ⟨Nat.le_of_ble_eq_true rfl, Nat.le_of_ble_eq_true rfl⟩ rfl hl.1 (Nat.le_of_ble_eq_true rfl) dX15_state_2 rfl rfl ⟨Nat.zero_le _, Nat.zero_le _⟩ rfl (fun H locs hw => ?_)
  refine lv_if_eq (tgt := 12) C.1.1 C.1.2.1 dX15_state_5 (by decide) (fun c4 => ?_) (fun c4 => ?_)
  · replace hD := g_pos c4 hD
    refine lv_aload_n C.1.1 C.1.2.1 dX15_state_12 rfl (lv_at hl 0 rfl) ?_
    refine mr_getR C hw kc_15 11 (by decide) tf_787 ff_787_11 wd_1966 dX15_state_13 (by decide) rfl ?_
    refine lv_iload_n C.1.1 C.1.2.1 dX15_state_16 rfl (lv_at hl 1 rfl) ?_
    obtain ⟨q5, hD⟩ := g_ck hD
    refine mr_iald C hw (by decide) tf_796 q5 dX15_state_17 ?_
    exact hb18 (M1 796 a1.toNatClampNeg) M1 L2 _ _ ls hD hw (lv_sub hl [] rfl)
  · replace hD := g_neg c4 hD
    refine lv_iconst (v := (-1)) C.1.1 C.1.2.1 dX15_state_8 (by decide) ?_
    refine lv_goto (tgt := 18) C.1.1 C.1.2.1 dX15_state_9 (by decide) ?_
    exact hb18 ((-1)) M1 L2 _ _ ls hD hw (lv_sub hl [] rfl)
