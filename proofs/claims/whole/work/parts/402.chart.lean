theorem dX2_putReady_0 : decode cX2_putReady 0 = .ok (.aload_n 0, 1) := by decide +kernel
theorem dX2_putReady_1 : decode cX2_putReady 1 = .ok (.getfield 13, 3) := by decide +kernel
theorem dX2_putReady_4 : decode cX2_putReady 4 = .ok (.iconst 2, 1) := by decide +kernel
theorem dX2_putReady_5 : decode cX2_putReady 5 = .ok (.aaload, 1) := by decide +kernel
theorem dX2_putReady_6 : decode cX2_putReady 6 = .ok (.aload_n 0, 1) := by decide +kernel
theorem dX2_putReady_7 : decode cX2_putReady 7 = .ok (.getfield 16, 3) := by decide +kernel
theorem dX2_putReady_10 : decode cX2_putReady 10 = .ok (.iconst 0, 1) := by decide +kernel
theorem dX2_putReady_11 : decode cX2_putReady 11 = .ok (.aaload, 1) := by decide +kernel
theorem dX2_putReady_12 : decode cX2_putReady 12 = .ok (.iload_n 1, 1) := by decide +kernel
theorem dX2_putReady_13 : decode cX2_putReady 13 = .ok (.iaload, 1) := by decide +kernel
theorem dX2_putReady_14 : decode cX2_putReady 14 = .ok (.iaload, 1) := by decide +kernel
theorem dX2_putReady_15 : decode cX2_putReady 15 = .ok (.istore_n 3, 1) := by decide +kernel
theorem dX2_putReady_16 : decode cX2_putReady 16 = .ok (.iload_n 2, 1) := by decide +kernel
theorem dX2_putReady_17 : decode cX2_putReady 17 = .ok (.istore 4, 2) := by decide +kernel
theorem dX2_putReady_19 : decode cX2_putReady 19 = .ok (.iload 4, 2) := by decide +kernel
theorem dX2_putReady_21 : decode cX2_putReady 21 = .ok (.ifCond .le 61, 3) := by decide +kernel
theorem dX2_putReady_24 : decode cX2_putReady 24 = .ok (.aload_n 0, 1) := by decide +kernel
theorem dX2_putReady_25 : decode cX2_putReady 25 = .ok (.getfield 13, 3) := by decide +kernel
theorem dX2_putReady_28 : decode cX2_putReady 28 = .ok (.iconst 2, 1) := by decide +kernel
theorem dX2_putReady_29 : decode cX2_putReady 29 = .ok (.aaload, 1) := by decide +kernel
theorem dX2_putReady_30 : decode cX2_putReady 30 = .ok (.aload_n 0, 1) := by decide +kernel
theorem dX2_putReady_31 : decode cX2_putReady 31 = .ok (.getfield 16, 3) := by decide +kernel
theorem dX2_putReady_34 : decode cX2_putReady 34 = .ok (.iconst 0, 1) := by decide +kernel
theorem dX2_putReady_35 : decode cX2_putReady 35 = .ok (.aaload, 1) := by decide +kernel
theorem dX2_putReady_36 : decode cX2_putReady 36 = .ok (.aload_n 0, 1) := by decide +kernel
theorem dX2_putReady_37 : decode cX2_putReady 37 = .ok (.getfield 16, 3) := by decide +kernel
theorem dX2_putReady_40 : decode cX2_putReady 40 = .ok (.bipush 6, 2) := by decide +kernel
theorem dX2_putReady_42 : decode cX2_putReady 42 = .ok (.aaload, 1) := by decide +kernel
theorem dX2_putReady_43 : decode cX2_putReady 43 = .ok (.iload 4, 2) := by decide +kernel
theorem dX2_putReady_45 : decode cX2_putReady 45 = .ok (.iconst 1, 1) := by decide +kernel
theorem dX2_putReady_46 : decode cX2_putReady 46 = .ok (.isub, 1) := by decide +kernel
theorem dX2_putReady_47 : decode cX2_putReady 47 = .ok (.iaload, 1) := by decide +kernel
theorem dX2_putReady_48 : decode cX2_putReady 48 = .ok (.iaload, 1) := by decide +kernel
theorem dX2_putReady_49 : decode cX2_putReady 49 = .ok (.iaload, 1) := by decide +kernel
theorem dX2_putReady_50 : decode cX2_putReady 50 = .ok (.iload_n 3, 1) := by decide +kernel
theorem dX2_putReady_51 : decode cX2_putReady 51 = .ok (.if_icmp .ge 31, 3) := by decide +kernel
theorem dX2_putReady_54 : decode cX2_putReady 54 = .ok (.aload_n 0, 1) := by decide +kernel
theorem dX2_putReady_55 : decode cX2_putReady 55 = .ok (.getfield 16, 3) := by decide +kernel
theorem dX2_putReady_58 : decode cX2_putReady 58 = .ok (.bipush 6, 2) := by decide +kernel
theorem dX2_putReady_60 : decode cX2_putReady 60 = .ok (.aaload, 1) := by decide +kernel
theorem dX2_putReady_61 : decode cX2_putReady 61 = .ok (.iload 4, 2) := by decide +kernel
theorem dX2_putReady_63 : decode cX2_putReady 63 = .ok (.aload_n 0, 1) := by decide +kernel
theorem dX2_putReady_64 : decode cX2_putReady 64 = .ok (.getfield 16, 3) := by decide +kernel
theorem dX2_putReady_67 : decode cX2_putReady 67 = .ok (.bipush 6, 2) := by decide +kernel
theorem dX2_putReady_69 : decode cX2_putReady 69 = .ok (.aaload, 1) := by decide +kernel
theorem dX2_putReady_70 : decode cX2_putReady 70 = .ok (.iload 4, 2) := by decide +kernel
theorem dX2_putReady_72 : decode cX2_putReady 72 = .ok (.iconst 1, 1) := by decide +kernel
theorem dX2_putReady_73 : decode cX2_putReady 73 = .ok (.isub, 1) := by decide +kernel
theorem dX2_putReady_74 : decode cX2_putReady 74 = .ok (.iaload, 1) := by decide +kernel
theorem dX2_putReady_75 : decode cX2_putReady 75 = .ok (.iastore, 1) := by decide +kernel
theorem dX2_putReady_76 : decode cX2_putReady 76 = .ok (.iinc 4 (-1), 3) := by decide +kernel
theorem dX2_putReady_79 : decode cX2_putReady 79 = .ok (.goto (-60), 3) := by decide +kernel
theorem dX2_putReady_82 : decode cX2_putReady 82 = .ok (.aload_n 0, 1) := by decide +kernel
theorem dX2_putReady_83 : decode cX2_putReady 83 = .ok (.getfield 16, 3) := by decide +kernel
theorem dX2_putReady_86 : decode cX2_putReady 86 = .ok (.bipush 6, 2) := by decide +kernel
theorem dX2_putReady_88 : decode cX2_putReady 88 = .ok (.aaload, 1) := by decide +kernel
theorem dX2_putReady_89 : decode cX2_putReady 89 = .ok (.iload 4, 2) := by decide +kernel
theorem dX2_putReady_91 : decode cX2_putReady 91 = .ok (.iload_n 1, 1) := by decide +kernel
theorem dX2_putReady_92 : decode cX2_putReady 92 = .ok (.iastore, 1) := by decide +kernel
theorem dX2_putReady_93 : decode cX2_putReady 93 = .ok (.iload_n 2, 1) := by decide +kernel
theorem dX2_putReady_94 : decode cX2_putReady 94 = .ok (.iconst 1, 1) := by decide +kernel
theorem dX2_putReady_95 : decode cX2_putReady 95 = .ok (.iadd, 1) := by decide +kernel
theorem dX2_putReady_96 : decode cX2_putReady 96 = .ok (.ireturn, 1) := by decide +kernel
theorem cwX2_putReady : mw_cwV yX2_putReady cX2_putReady 5 ((some .int)) 2 := ⟨⟨wd_12, wd_1702, by decide +kernel⟩, wd_1701, sl_128⟩
set_option maxHeartbeats 4000000 in
set_option maxRecDepth 100000 in
theorem tX2_putReady (l : Launch) (G : mwG) (ad : Nat → Nat) (fu : Nat) (k : Nat) (a1 : Int32) (a2 : Int32) (M : mwM) (L : mwL) {r0 : Int32} {M0 : mwM} {L0 : mwL} (hD : DX2_putReady fu k a1 a2 M L = some (r0, M0, L0)) (hk0 : isCh k) : Met l yX2_putReady (Cond.code yX2_putReady cX2_putReady 5 ((some .int)) :: GT) ({ frames := 0, cells := 0, slots := 0, locals := 0 }) (mw_Pre G ad NF TF FF M L [.ref (ad k), .int a1, .int a2]) (mw_Qi G ad NF TF FF (mw_eqI r0 M0 L0)) 0 0 (mw_fr G) := by
  refine mw_enter (by decide) (Nat.le_of_ble_eq_true rfl) ?_
  intro p e s m below meth c ls C hr hlocks hnm hw hl
  have hl : lv_has ls 5 [(0, .ref (ad k)), (1, .int a1), (2, .int a2)] := hl
  have hb82 : ∀ (v4 : Int32) (M : mwM) (L : mwL) (H : Heap) (locs : List Loc) (ls : Array Slot), fX2_putReady_b82 fu k a1 a2 v4 M L = some (r0, M0, L0) → mw_W G ad NF TF FF M L H locs → lv_has ls 5 [(0, .ref (ad k)), (1, .int a1), (2, .int a2), (4, .int v4)] → W p l e ({ frames := 0, cells := 0, slots := 0, locals := 0 }) s m [.ref (ad k), .int a1, .int a2].toArray below meth c H locs 0 0 (MQ below (mw_Qi G ad NF TF FF (mw_eqI r0 M0 L0)) [.ref (ad k), .int a1, .int a2].toArray s 0 0 (mw_fr G)) (F0 m 82 ls []) := by
    intro v4 M L H locs ls hD hw hl
    unfold fX2_putReady_b82 at hD
    refine lv_aload_n C.1.1 C.1.2.1 dX2_putReady_82 rfl (lv_at hl 0 rfl) ?_
    refine mr_getR C hw kc_2 1 (Ch_N0 hk0) (Ch_T0 hk0) (Ch_F0_1 hk0) wd_445 dX2_putReady_83 (by decide) rfl ?_
    refine lv_bipush (v := 6) C.1.1 C.1.2.1 dX2_putReady_86 (by decide) ?_
    refine mr_aald C hw (Ch_N20 hk0) (Ch_T20 hk0) (by decide) (by decide) rfl rfl (show vp_in 6 7 from by unfold vp_in; decide) (Ch_R20 hk0 _ (by decide : 6 < 7)).1 dX2_putReady_88 ?_
    refine lv_iload C.1.1 C.1.2.1 dX2_putReady_89 (lv_at hl 3 rfl) ?_
    refine lv_iload_n C.1.1 C.1.2.1 dX2_putReady_91 rfl (lv_at hl 1 rfl) ?_
    obtain ⟨q16, hD⟩ := g_ck hD
    obtain ⟨M17, eM17, hD⟩ := g_let hD
    refine mr_iast C hw (Ch_N27 hk0) (Ch_T27 hk0) q16 dX2_putReady_92 (fun H locs hw => ?_)
    replace hw : mw_W G ad NF TF FF M17 L H locs := by rw [eM17]; exact hw
    refine lv_iload_n C.1.1 C.1.2.1 dX2_putReady_93 rfl (lv_at hl 2 rfl) ?_
    refine lv_iconst (v := 1) C.1.1 C.1.2.1 dX2_putReady_94 (by decide) ?_
    refine lv_iadd C.1.1 C.1.2.1 dX2_putReady_95 ?_
    exact mr_iret C hr hlocks hw rfl (Option.some.inj hD) dX2_putReady_96
  have hh19 : ∀ (f : Nat) (v3 : Int32) (v4 : Int32) (M : mwM) (L : mwL) (H : Heap) (locs : List Loc) (ls : Array Slot), fX2_putReady_h19 fu k a1 a2 f (v3, v4, M, L) = some (r0, M0, L0) → mw_W G ad NF TF FF M L H locs → lv_has ls 5 [(0, .ref (ad k)), (1, .int a1), (2, .int a2), (3, .int v3), (4, .int v4)] → W p l e ({ frames := 0, cells := 0, slots := 0, locals := 0 }) s m [.ref (ad k), .int a1, .int a2].toArray below meth c H locs 0 0 (MQ below (mw_Qi G ad NF TF FF (mw_eqI r0 M0 L0)) [.ref (ad k), .int a1, .int a2].toArray s 0 0 (mw_fr G)) (F0 m 19 ls []) := by
    intro f
    induction f with
    | zero => intro v3 v4 M L H locs ls hD; cases hD
    | succ f19 ih19 =>
      intro v3 v4 M L H locs ls hD hw hl
      replace hD : fX2_putReady_i19 fu k a1 a2 (fX2_putReady_h19 fu k a1 a2 f19) v3 v4 M L = some (r0, M0, L0) := hD
      unfold fX2_putReady_i19 at hD
      refine lv_iload C.1.1 C.1.2.1 dX2_putReady_19 (lv_at hl 4 rfl) ?_
      refine lv_if_le (tgt := 82) C.1.1 C.1.2.1 dX2_putReady_21 (by decide) (fun c1 => ?_) (fun c1 => ?_)
      · replace hD := g_pos c1 hD
        exact hb82 v4 M L _ _ ls hD hw (lv_sub hl [0, 1, 2, 4] rfl)
      · replace hD := g_neg c1 hD
        refine lv_aload_n C.1.1 C.1.2.1 dX2_putReady_24 rfl (lv_at hl 0 rfl) ?_
        refine mr_getR C hw kc_2 0 (Ch_N0 hk0) (Ch_T0 hk0) (Ch_F0_0 hk0) wd_444 dX2_putReady_25 (by decide) rfl ?_
        refine lv_iconst (v := 2) C.1.1 C.1.2.1 dX2_putReady_28 (by decide) ?_
        refine mr_aald C hw (Ch_N1 hk0) (Ch_T1 hk0) (by decide) (by decide) rfl rfl (show vp_in 2 18 from by unfold vp_in; decide) (Ch_R1 hk0 _ (by decide : 2 < 18)).1 dX2_putReady_29 ?_
        refine lv_aload_n C.1.1 C.1.2.1 dX2_putReady_30 rfl (lv_at hl 0 rfl) ?_
        refine mr_getR C hw kc_2 1 (Ch_N0 hk0) (Ch_T0 hk0) (Ch_F0_1 hk0) wd_445 dX2_putReady_31 (by decide) rfl ?_
        refine lv_iconst (v := 0) C.1.1 C.1.2.1 dX2_putReady_34 (by decide) ?_
        refine mr_aald C hw (Ch_N20 hk0) (Ch_T20 hk0) (by decide) (by decide) rfl rfl (show vp_in 0 7 from by unfold vp_in; decide) (Ch_R20 hk0 _ (by decide : 0 < 7)).1 dX2_putReady_35 ?_
        refine lv_aload_n C.1.1 C.1.2.1 dX2_putReady_36 rfl (lv_at hl 0 rfl) ?_
        refine mr_getR C hw kc_2 1 (Ch_N0 hk0) (Ch_T0 hk0) (Ch_F0_1 hk0) wd_445 dX2_putReady_37 (by decide) rfl ?_
        refine lv_bipush (v := 6) C.1.1 C.1.2.1 dX2_putReady_40 (by decide) ?_
        refine mr_aald C hw (Ch_N20 hk0) (Ch_T20 hk0) (by decide) (by decide) rfl rfl (show vp_in 6 7 from by unfold vp_in; decide) (Ch_R20 hk0 _ (by decide : 6 < 7)).1 dX2_putReady_42 ?_
        refine lv_iload C.1.1 C.1.2.1 dX2_putReady_43 (lv_at hl 4 rfl) ?_
        refine lv_iconst (v := 1) C.1.1 C.1.2.1 dX2_putReady_45 (by decide) ?_
        refine lv_isub C.1.1 C.1.2.1 dX2_putReady_46 ?_
        obtain ⟨q5, hD⟩ := g_ck hD
        refine mr_iald C hw (Ch_N27 hk0) (Ch_T27 hk0) q5 dX2_putReady_47 ?_
        obtain ⟨q6, hD⟩ := g_ck hD
        refine mr_iald C hw (Ch_N21 hk0) (Ch_T21 hk0) q6 dX2_putReady_48 ?_
        obtain ⟨q7, hD⟩ := g_ck hD
        refine mr_iald C hw (Ch_N4 hk0) (Ch_T4 hk0) q7 dX2_putReady_49 ?_
        refine lv_iload_n C.1.1 C.1.2.1 dX2_putReady_50 rfl (lv_at hl 3 rfl) ?_
        refine lv_icmp_ge (tgt := 82) C.1.1 C.1.2.1 dX2_putReady_51 (by decide) (fun c8 => ?_) (fun c8 => ?_)
        · replace hD := g_pos c8 hD
          exact hb82 v4 M L _ _ ls hD hw (lv_sub hl [0, 1, 2, 4] rfl)
        · replace hD := g_neg c8 hD
          refine lv_aload_n C.1.1 C.1.2.1 dX2_putReady_54 rfl (lv_at hl 0 rfl) ?_
          refine mr_getR C hw kc_2 1 (Ch_N0 hk0) (Ch_T0 hk0) (Ch_F0_1 hk0) wd_445 dX2_putReady_55 (by decide) rfl ?_
          refine lv_bipush (v := 6) C.1.1 C.1.2.1 dX2_putReady_58 (by decide) ?_
          refine mr_aald C hw (Ch_N20 hk0) (Ch_T20 hk0) (by decide) (by decide) rfl rfl (show vp_in 6 7 from by unfold vp_in; decide) (Ch_R20 hk0 _ (by decide : 6 < 7)).1 dX2_putReady_60 ?_
          refine lv_iload C.1.1 C.1.2.1 dX2_putReady_61 (lv_at hl 4 rfl) ?_
          refine lv_aload_n C.1.1 C.1.2.1 dX2_putReady_63 rfl (lv_at hl 0 rfl) ?_
          refine mr_getR C hw kc_2 1 (Ch_N0 hk0) (Ch_T0 hk0) (Ch_F0_1 hk0) wd_445 dX2_putReady_64 (by decide) rfl ?_
          refine lv_bipush (v := 6) C.1.1 C.1.2.1 dX2_putReady_67 (by decide) ?_
          refine mr_aald C hw (Ch_N20 hk0) (Ch_T20 hk0) (by decide) (by decide) rfl rfl (show vp_in 6 7 from by unfold vp_in; decide) (Ch_R20 hk0 _ (by decide : 6 < 7)).1 dX2_putReady_69 ?_
          refine lv_iload C.1.1 C.1.2.1 dX2_putReady_70 (lv_at hl 4 rfl) ?_
          refine lv_iconst (v := 1) C.1.1 C.1.2.1 dX2_putReady_72 (by decide) ?_
          refine lv_isub C.1.1 C.1.2.1 dX2_putReady_73 ?_
          obtain ⟨q11, hD⟩ := g_ck hD
          refine mr_iald C hw (Ch_N27 hk0) (Ch_T27 hk0) q11 dX2_putReady_74 ?_
          obtain ⟨q12, hD⟩ := g_ck hD
          obtain ⟨M13, eM13, hD⟩ := g_let hD
          refine mr_iast C hw (Ch_N27 hk0) (Ch_T27 hk0) q12 dX2_putReady_75 (fun H locs hw => ?_)
          replace hw : mw_W G ad NF TF FF M13 L H locs := by rw [eM13]; exact hw
          obtain ⟨x14, ex14, hD⟩ := g_let hD
          refine lv_iinc (v := x14) (lv' := [(4, .int x14), (0, .ref (ad k)), (1, .int a1), (2, .int a2), (3, .int v3)]) C.1.1 C.1.2.1 dX2_putReady_76 hl (k := 4) rfl (by rw [ex14]; rfl) (by decide) rfl (fun ls hl => ?_)
          refine lv_goto (tgt := 19) C.1.1 C.1.2.1 dX2_putReady_79 (by decide) ?_
          exact ih19 v3 x14 M13 L _ _ ls hD hw (lv_sub hl [1, 2, 3, 4, 0] rfl)
  unfold DX2_putReady at hD
  refine lv_aload_n C.1.1 C.1.2.1 dX2_putReady_0 rfl (lv_at hl 0 rfl) ?_
  refine mr_getR C hw kc_2 0 (Ch_N0 hk0) (Ch_T0 hk0) (Ch_F0_0 hk0) wd_444 dX2_putReady_1 (by decide) rfl ?_
  refine lv_iconst (v := 2) C.1.1 C.1.2.1 dX2_putReady_4 (by decide) ?_
  refine mr_aald C hw (Ch_N1 hk0) (Ch_T1 hk0) (by decide) (by decide) rfl rfl (show vp_in 2 18 from by unfold vp_in; decide) (Ch_R1 hk0 _ (by decide : 2 < 18)).1 dX2_putReady_5 ?_
  refine lv_aload_n C.1.1 C.1.2.1 dX2_putReady_6 rfl (lv_at hl 0 rfl) ?_
  refine mr_getR C hw kc_2 1 (Ch_N0 hk0) (Ch_T0 hk0) (Ch_F0_1 hk0) wd_445 dX2_putReady_7 (by decide) rfl ?_
  refine lv_iconst (v := 0) C.1.1 C.1.2.1 dX2_putReady_10 (by decide) ?_
  refine mr_aald C hw (Ch_N20 hk0) (Ch_T20 hk0) (by decide) (by decide) rfl rfl (show vp_in 0 7 from by unfold vp_in; decide) (Ch_R20 hk0 _ (by decide : 0 < 7)).1 dX2_putReady_11 ?_
  refine lv_iload_n C.1.1 C.1.2.1 dX2_putReady_12 rfl (lv_at hl 1 rfl) ?_
  obtain ⟨q20, hD⟩ := g_ck hD
  refine mr_iald C hw (Ch_N21 hk0) (Ch_T21 hk0) q20 dX2_putReady_13 ?_
  obtain ⟨q21, hD⟩ := g_ck hD
  refine mr_iald C hw (Ch_N4 hk0) (Ch_T4 hk0) q21 dX2_putReady_14 ?_
  obtain ⟨x22, ex22, hD⟩ := g_let hD
  refine W.eq (g2 := F0 m 15 ls (.int x22 :: [])) (by rw [ex22]) ?_
  refine lv_istore_n (lv' := [(3, .int x22), (0, .ref (ad k)), (1, .int a1), (2, .int a2)]) C.1.1 C.1.2.1 dX2_putReady_15 rfl hl (by decide) rfl (fun ls hl => ?_)
  refine lv_iload_n C.1.1 C.1.2.1 dX2_putReady_16 rfl (lv_at hl 3 rfl) ?_
  refine lv_istore (lv' := [(4, .int a2), (3, .int x22), (0, .ref (ad k)), (1, .int a1), (2, .int a2)]) C.1.1 C.1.2.1 dX2_putReady_17 hl (by decide) rfl (fun ls hl => ?_)
  exact hh19 fu x22 a2 M L _ _ ls hD hw (lv_sub hl [2, 3, 4, 1, 0] rfl)

theorem dX2_markInside_0 : decode cX2_markInside 0 = .ok (.aload_n 0, 1) := by decide +kernel
theorem dX2_markInside_1 : decode cX2_markInside 1 = .ok (.getfield 13, 3) := by decide +kernel
theorem dX2_markInside_4 : decode cX2_markInside 4 = .ok (.bipush 14, 2) := by decide +kernel
theorem dX2_markInside_6 : decode cX2_markInside 6 = .ok (.aaload, 1) := by decide +kernel
theorem dX2_markInside_7 : decode cX2_markInside 7 = .ok (.iconst 0, 1) := by decide +kernel
theorem dX2_markInside_8 : decode cX2_markInside 8 = .ok (.iconst 0, 1) := by decide +kernel
theorem dX2_markInside_9 : decode cX2_markInside 9 = .ok (.iastore, 1) := by decide +kernel
theorem dX2_markInside_10 : decode cX2_markInside 10 = .ok (.iconst 1, 1) := by decide +kernel
theorem dX2_markInside_11 : decode cX2_markInside 11 = .ok (.istore_n 2, 1) := by decide +kernel
theorem dX2_markInside_12 : decode cX2_markInside 12 = .ok (.iload_n 2, 1) := by decide +kernel
theorem dX2_markInside_13 : decode cX2_markInside 13 = .ok (.aload_n 0, 1) := by decide +kernel
theorem dX2_markInside_14 : decode cX2_markInside 14 = .ok (.getfield 37, 3) := by decide +kernel
theorem dX2_markInside_17 : decode cX2_markInside 17 = .ok (.if_icmp .gt 50, 3) := by decide +kernel
theorem dX2_markInside_20 : decode cX2_markInside 20 = .ok (.aload_n 0, 1) := by decide +kernel
theorem dX2_markInside_21 : decode cX2_markInside 21 = .ok (.getfield 13, 3) := by decide +kernel
theorem dX2_markInside_24 : decode cX2_markInside 24 = .ok (.iconst 0, 1) := by decide +kernel
theorem dX2_markInside_25 : decode cX2_markInside 25 = .ok (.aaload, 1) := by decide +kernel
theorem dX2_markInside_26 : decode cX2_markInside 26 = .ok (.iload_n 2, 1) := by decide +kernel
theorem dX2_markInside_27 : decode cX2_markInside 27 = .ok (.iaload, 1) := by decide +kernel
theorem dX2_markInside_28 : decode cX2_markInside 28 = .ok (.istore_n 3, 1) := by decide +kernel
theorem dX2_markInside_29 : decode cX2_markInside 29 = .ok (.aload_n 0, 1) := by decide +kernel
theorem dX2_markInside_30 : decode cX2_markInside 30 = .ok (.getfield 13, 3) := by decide +kernel
theorem dX2_markInside_33 : decode cX2_markInside 33 = .ok (.bipush 14, 2) := by decide +kernel
theorem dX2_markInside_35 : decode cX2_markInside 35 = .ok (.aaload, 1) := by decide +kernel
theorem dX2_markInside_36 : decode cX2_markInside 36 = .ok (.iload_n 2, 1) := by decide +kernel
theorem dX2_markInside_37 : decode cX2_markInside 37 = .ok (.iload_n 3, 1) := by decide +kernel
theorem dX2_markInside_38 : decode cX2_markInside 38 = .ok (.iload_n 1, 1) := by decide +kernel
theorem dX2_markInside_39 : decode cX2_markInside 39 = .ok (.if_icmp .eq 16, 3) := by decide +kernel
theorem dX2_markInside_42 : decode cX2_markInside 42 = .ok (.aload_n 0, 1) := by decide +kernel
theorem dX2_markInside_43 : decode cX2_markInside 43 = .ok (.getfield 13, 3) := by decide +kernel
theorem dX2_markInside_46 : decode cX2_markInside 46 = .ok (.bipush 14, 2) := by decide +kernel
theorem dX2_markInside_48 : decode cX2_markInside 48 = .ok (.aaload, 1) := by decide +kernel
theorem dX2_markInside_49 : decode cX2_markInside 49 = .ok (.iload_n 3, 1) := by decide +kernel
theorem dX2_markInside_50 : decode cX2_markInside 50 = .ok (.iaload, 1) := by decide +kernel
theorem dX2_markInside_51 : decode cX2_markInside 51 = .ok (.iconst 1, 1) := by decide +kernel
theorem dX2_markInside_52 : decode cX2_markInside 52 = .ok (.if_icmp .ne 7, 3) := by decide +kernel
theorem dX2_markInside_55 : decode cX2_markInside 55 = .ok (.iconst 1, 1) := by decide +kernel
theorem dX2_markInside_56 : decode cX2_markInside 56 = .ok (.goto 4, 3) := by decide +kernel
theorem dX2_markInside_59 : decode cX2_markInside 59 = .ok (.iconst 0, 1) := by decide +kernel
theorem dX2_markInside_60 : decode cX2_markInside 60 = .ok (.iastore, 1) := by decide +kernel
theorem dX2_markInside_61 : decode cX2_markInside 61 = .ok (.iinc 2 1, 3) := by decide +kernel
theorem dX2_markInside_64 : decode cX2_markInside 64 = .ok (.goto (-52), 3) := by decide +kernel
theorem dX2_markInside_67 : decode cX2_markInside 67 = .ok (.return_, 1) := by decide +kernel
theorem cwX2_markInside : mw_cwV yX2_markInside cX2_markInside 4 (none) 1 := ⟨⟨wd_12, wd_1710, by decide +kernel⟩, wd_1709, sl_130⟩
set_option maxHeartbeats 4000000 in
set_option maxRecDepth 100000 in
theorem tX2_markInside (l : Launch) (G : mwG) (ad : Nat → Nat) (fu : Nat) (k : Nat) (a1 : Int32) (M : mwM) (L : mwL) {M0 : mwM} {L0 : mwL} (hD : DX2_markInside fu k a1 M L = some (M0, L0)) (hk0 : isCh k) : Met l yX2_markInside (Cond.code yX2_markInside cX2_markInside 4 (none) :: GT) ({ frames := 0, cells := 0, slots := 0, locals := 0 }) (mw_Pre G ad NF TF FF M L [.ref (ad k), .int a1]) (mw_Qv G ad NF TF FF (mw_eqV M0 L0)) 0 0 (mw_fr G) := by
  refine mw_enter (by decide) (Nat.le_of_ble_eq_true rfl) ?_
  intro p e s m below meth c ls C hr hlocks hnm hw hl
  have hl : lv_has ls 4 [(0, .ref (ad k)), (1, .int a1)] := hl
  have hh12 : ∀ (f : Nat) (v2 : Int32) (M : mwM) (L : mwL) (H : Heap) (locs : List Loc) (ls : Array Slot), fX2_markInside_h12 fu k a1 f (v2, M, L) = some (M0, L0) → mw_W G ad NF TF FF M L H locs → lv_has ls 4 [(0, .ref (ad k)), (1, .int a1), (2, .int v2)] → W p l e ({ frames := 0, cells := 0, slots := 0, locals := 0 }) s m [.ref (ad k), .int a1].toArray below meth c H locs 0 0 (MQ below (mw_Qv G ad NF TF FF (mw_eqV M0 L0)) [.ref (ad k), .int a1].toArray s 0 0 (mw_fr G)) (F0 m 12 ls []) := by
    intro f
    induction f with
    | zero => intro v2 M L H locs ls hD; cases hD
    | succ f12 ih12 =>
      intro v2 M L H locs ls hD hw hl
      replace hD : fX2_markInside_i12 fu k a1 (fX2_markInside_h12 fu k a1 f12) v2 M L = some (M0, L0) := hD
      have hb60 : ∀ (v2 : Int32) (s1 : Int32) (s2 : Int32) (M : mwM) (L : mwL) (H : Heap) (locs : List Loc) (ls : Array Slot), fX2_markInside_b60 fu k a1 (fX2_markInside_h12 fu k a1 f12) v2 s1 s2 M L = some (M0, L0) → mw_W G ad NF TF FF M L H locs → lv_has ls 4 [(0, .ref (ad k)), (1, .int a1), (2, .int v2)] → W p l e ({ frames := 0, cells := 0, slots := 0, locals := 0 }) s m [.ref (ad k), .int a1].toArray below meth c H locs 0 0 (MQ below (mw_Qv G ad NF TF FF (mw_eqV M0 L0)) [.ref (ad k), .int a1].toArray s 0 0 (mw_fr G)) (F0 m 60 ls [.int s2, .int s1, .ref (ad (k + 16))]) := by
        intro v2 s1 s2 M L H locs ls hD hw hl
        unfold fX2_markInside_b60 at hD
        obtain ⟨q10, hD⟩ := g_ck hD
        obtain ⟨M11, eM11, hD⟩ := g_let hD
        refine mr_iast C hw (Ch_N16 hk0) (Ch_T16 hk0) q10 dX2_markInside_60 (fun H locs hw => ?_)
        replace hw : mw_W G ad NF TF FF M11 L H locs := by rw [eM11]; exact hw
        obtain ⟨x12, ex12, hD⟩ := g_let hD
        refine lv_iinc (v := x12) (lv' := [(2, .int x12), (0, .ref (ad k)), (1, .int a1)]) C.1.1 C.1.2.1 dX2_markInside_61 hl (k := 2) rfl (by rw [ex12]; rfl) (by decide) rfl (fun ls hl => ?_)
        refine lv_goto (tgt := 12) C.1.1 C.1.2.1 dX2_markInside_64 (by decide) ?_
        exact ih12 x12 M11 L _ _ ls hD hw (lv_sub hl [1, 2, 0] rfl)
      have hb55 : ∀ (v2 : Int32) (s1 : Int32) (M : mwM) (L : mwL) (H : Heap) (locs : List Loc) (ls : Array Slot), fX2_markInside_b55 fu k a1 (fX2_markInside_h12 fu k a1 f12) v2 s1 M L = some (M0, L0) → mw_W G ad NF TF FF M L H locs → lv_has ls 4 [(0, .ref (ad k)), (1, .int a1), (2, .int v2)] → W p l e ({ frames := 0, cells := 0, slots := 0, locals := 0 }) s m [.ref (ad k), .int a1].toArray below meth c H locs 0 0 (MQ below (mw_Qv G ad NF TF FF (mw_eqV M0 L0)) [.ref (ad k), .int a1].toArray s 0 0 (mw_fr G)) (F0 m 55 ls [.int s1, .ref (ad (k + 16))]) := by
        intro v2 s1 M L H locs ls hD hw hl
        unfold fX2_markInside_b55 at hD
        refine lv_iconst (v := 1) C.1.1 C.1.2.1 dX2_markInside_55 (by decide) ?_
        refine lv_goto (tgt := 60) C.1.1 C.1.2.1 dX2_markInside_56 (by decide) ?_
        exact hb60 v2 s1 1 M L _ _ ls hD hw (lv_sub hl [0, 1, 2] rfl)
      unfold fX2_markInside_i12 at hD
      refine lv_iload_n C.1.1 C.1.2.1 dX2_markInside_12 rfl (lv_at hl 2 rfl) ?_
      refine lv_aload_n C.1.1 C.1.2.1 dX2_markInside_13 rfl (lv_at hl 0 rfl) ?_
      refine mr_getI C hw kc_2 7 (Ch_N0 hk0) (Ch_T0 hk0) wd_458 dX2_markInside_14 (by decide) rfl ?_
      refine lv_icmp_gt (tgt := 67) C.1.1 C.1.2.1 dX2_markInside_17 (by decide) (fun c1 => ?_) (fun c1 => ?_)
      · replace hD := g_pos c1 hD
        exact mr_vret C hr hlocks hw (Option.some.inj hD) dX2_markInside_67
      · replace hD := g_neg c1 hD
        refine lv_aload_n C.1.1 C.1.2.1 dX2_markInside_20 rfl (lv_at hl 0 rfl) ?_
        refine mr_getR C hw kc_2 0 (Ch_N0 hk0) (Ch_T0 hk0) (Ch_F0_0 hk0) wd_444 dX2_markInside_21 (by decide) rfl ?_
        refine lv_iconst (v := 0) C.1.1 C.1.2.1 dX2_markInside_24 (by decide) ?_
        refine mr_aald C hw (Ch_N1 hk0) (Ch_T1 hk0) (by decide) (by decide) rfl rfl (show vp_in 0 18 from by unfold vp_in; decide) (Ch_R1 hk0 _ (by decide : 0 < 18)).1 dX2_markInside_25 ?_
        refine lv_iload_n C.1.1 C.1.2.1 dX2_markInside_26 rfl (lv_at hl 2 rfl) ?_
        obtain ⟨q3, hD⟩ := g_ck hD
        refine mr_iald C hw (Ch_N2 hk0) (Ch_T2 hk0) q3 dX2_markInside_27 ?_
        obtain ⟨x4, ex4, hD⟩ := g_let hD
        refine W.eq (g2 := F0 m 28 ls (.int x4 :: [])) (by rw [ex4]) ?_
        refine lv_istore_n (lv' := [(3, .int x4), (0, .ref (ad k)), (1, .int a1), (2, .int v2)]) C.1.1 C.1.2.1 dX2_markInside_28 rfl hl (by decide) rfl (fun ls hl => ?_)
        refine lv_aload_n C.1.1 C.1.2.1 dX2_markInside_29 rfl (lv_at hl 1 rfl) ?_
        refine mr_getR C hw kc_2 0 (Ch_N0 hk0) (Ch_T0 hk0) (Ch_F0_0 hk0) wd_444 dX2_markInside_30 (by decide) rfl ?_
        refine lv_bipush (v := 14) C.1.1 C.1.2.1 dX2_markInside_33 (by decide) ?_
        refine mr_aald C hw (Ch_N1 hk0) (Ch_T1 hk0) (by decide) (by decide) rfl rfl (show vp_in 14 18 from by unfold vp_in; decide) (Ch_R1 hk0 _ (by decide : 14 < 18)).1 dX2_markInside_35 ?_
        refine lv_iload_n C.1.1 C.1.2.1 dX2_markInside_36 rfl (lv_at hl 3 rfl) ?_
        refine lv_iload_n C.1.1 C.1.2.1 dX2_markInside_37 rfl (lv_at hl 0 rfl) ?_
        refine lv_iload_n C.1.1 C.1.2.1 dX2_markInside_38 rfl (lv_at hl 2 rfl) ?_
        refine lv_icmp_eq (tgt := 55) C.1.1 C.1.2.1 dX2_markInside_39 (by decide) (fun c6 => ?_) (fun c6 => ?_)
        · replace hD := g_pos c6 hD
          exact hb55 v2 v2 M L _ _ ls hD hw (lv_sub hl [1, 2, 3] rfl)
        · replace hD := g_neg c6 hD
          refine lv_aload_n C.1.1 C.1.2.1 dX2_markInside_42 rfl (lv_at hl 1 rfl) ?_
          refine mr_getR C hw kc_2 0 (Ch_N0 hk0) (Ch_T0 hk0) (Ch_F0_0 hk0) wd_444 dX2_markInside_43 (by decide) rfl ?_
          refine lv_bipush (v := 14) C.1.1 C.1.2.1 dX2_markInside_46 (by decide) ?_
          refine mr_aald C hw (Ch_N1 hk0) (Ch_T1 hk0) (by decide) (by decide) rfl rfl (show vp_in 14 18 from by unfold vp_in; decide) (Ch_R1 hk0 _ (by decide : 14 < 18)).1 dX2_markInside_48 ?_
          refine lv_iload_n C.1.1 C.1.2.1 dX2_markInside_49 rfl (lv_at hl 0 rfl) ?_
          obtain ⟨q8, hD⟩ := g_ck hD
          refine mr_iald C hw (Ch_N16 hk0) (Ch_T16 hk0) q8 dX2_markInside_50 ?_
          refine lv_iconst (v := 1) C.1.1 C.1.2.1 dX2_markInside_51 (by decide) ?_
          refine lv_icmp_ne (tgt := 59) C.1.1 C.1.2.1 dX2_markInside_52 (by decide) (fun c9 => ?_) (fun c9 => ?_)
          · replace hD := g_neg c9 hD
            refine lv_iconst (v := 0) C.1.1 C.1.2.1 dX2_markInside_59 (by decide) ?_
            exact hb60 v2 v2 0 M L _ _ ls hD hw (lv_sub hl [1, 2, 3] rfl)
          · replace hD := g_pos c9 hD
            exact hb55 v2 v2 M L _ _ ls hD hw (lv_sub hl [1, 2, 3] rfl)
  unfold DX2_markInside at hD
  refine lv_aload_n C.1.1 C.1.2.1 dX2_markInside_0 rfl (lv_at hl 0 rfl) ?_
  refine mr_getR C hw kc_2 0 (Ch_N0 hk0) (Ch_T0 hk0) (Ch_F0_0 hk0) wd_444 dX2_markInside_1 (by decide) rfl ?_
  refine lv_bipush (v := 14) C.1.1 C.1.2.1 dX2_markInside_4 (by decide) ?_
  refine mr_aald C hw (Ch_N1 hk0) (Ch_T1 hk0) (by decide) (by decide) rfl rfl (show vp_in 14 18 from by unfold vp_in; decide) (Ch_R1 hk0 _ (by decide : 14 < 18)).1 dX2_markInside_6 ?_
  refine lv_iconst (v := 0) C.1.1 C.1.2.1 dX2_markInside_7 (by decide) ?_
  refine lv_iconst (v := 0) C.1.1 C.1.2.1 dX2_markInside_8 (by decide) ?_
  obtain ⟨M15, eM15, hD⟩ := g_let hD
  refine mr_iast C hw (Ch_N16 hk0) (Ch_T16 hk0) (show vp_in 0 201 from by unfold vp_in; decide) dX2_markInside_9 (fun H locs hw => ?_)
  replace hw : mw_W G ad NF TF FF M15 L H locs := by rw [eM15]; exact hw
  refine lv_iconst (v := 1) C.1.1 C.1.2.1 dX2_markInside_10 (by decide) ?_
  refine lv_istore_n (lv' := [(2, .int 1), (0, .ref (ad k)), (1, .int a1)]) C.1.1 C.1.2.1 dX2_markInside_11 rfl hl (by decide) rfl (fun ls hl => ?_)
  exact hh12 fu 1 M15 L _ _ ls hD hw (lv_sub hl [1, 2, 0] rfl)

theorem dX2_claim_0 : decode cX2_claim 0 = .ok (.aload_n 0, 1) := by decide +kernel
theorem dX2_claim_1 : decode cX2_claim 1 = .ok (.iload_n 1, 1) := by decide +kernel
theorem dX2_claim_2 : decode cX2_claim 2 = .ok (.invokevirtual 136, 3) := by decide +kernel
theorem dX2_claim_5 : decode cX2_claim 5 = .ok (.iconst 1, 1) := by decide +kernel
theorem dX2_claim_6 : decode cX2_claim 6 = .ok (.istore_n 2, 1) := by decide +kernel
theorem dX2_claim_7 : decode cX2_claim 7 = .ok (.iload_n 2, 1) := by decide +kernel
theorem dX2_claim_8 : decode cX2_claim 8 = .ok (.aload_n 0, 1) := by decide +kernel
theorem dX2_claim_9 : decode cX2_claim 9 = .ok (.getfield 37, 3) := by decide +kernel
theorem dX2_claim_12 : decode cX2_claim 12 = .ok (.if_icmp .gt 49, 3) := by decide +kernel
theorem dX2_claim_15 : decode cX2_claim 15 = .ok (.aload_n 0, 1) := by decide +kernel
theorem dX2_claim_16 : decode cX2_claim 16 = .ok (.getfield 13, 3) := by decide +kernel
theorem dX2_claim_19 : decode cX2_claim 19 = .ok (.bipush 14, 2) := by decide +kernel
theorem dX2_claim_21 : decode cX2_claim 21 = .ok (.aaload, 1) := by decide +kernel
theorem dX2_claim_22 : decode cX2_claim 22 = .ok (.iload_n 2, 1) := by decide +kernel
theorem dX2_claim_23 : decode cX2_claim 23 = .ok (.iaload, 1) := by decide +kernel
theorem dX2_claim_24 : decode cX2_claim 24 = .ok (.iconst 1, 1) := by decide +kernel
theorem dX2_claim_25 : decode cX2_claim 25 = .ok (.if_icmp .ne 30, 3) := by decide +kernel
theorem dX2_claim_28 : decode cX2_claim 28 = .ok (.aload_n 0, 1) := by decide +kernel
theorem dX2_claim_29 : decode cX2_claim 29 = .ok (.getfield 13, 3) := by decide +kernel
theorem dX2_claim_32 : decode cX2_claim 32 = .ok (.iconst 5, 1) := by decide +kernel
theorem dX2_claim_33 : decode cX2_claim 33 = .ok (.aaload, 1) := by decide +kernel
theorem dX2_claim_34 : decode cX2_claim 34 = .ok (.iload_n 2, 1) := by decide +kernel
theorem dX2_claim_35 : decode cX2_claim 35 = .ok (.iaload, 1) := by decide +kernel
theorem dX2_claim_36 : decode cX2_claim 36 = .ok (.iconst 1, 1) := by decide +kernel
theorem dX2_claim_37 : decode cX2_claim 37 = .ok (.if_icmp .ne 18, 3) := by decide +kernel
theorem dX2_claim_40 : decode cX2_claim 40 = .ok (.aload_n 0, 1) := by decide +kernel
theorem dX2_claim_41 : decode cX2_claim 41 = .ok (.getfield 13, 3) := by decide +kernel
theorem dX2_claim_44 : decode cX2_claim 44 = .ok (.bipush 13, 2) := by decide +kernel
theorem dX2_claim_46 : decode cX2_claim 46 = .ok (.aaload, 1) := by decide +kernel
theorem dX2_claim_47 : decode cX2_claim 47 = .ok (.iload_n 2, 1) := by decide +kernel
theorem dX2_claim_48 : decode cX2_claim 48 = .ok (.iaload, 1) := by decide +kernel
theorem dX2_claim_49 : decode cX2_claim 49 = .ok (.iconst 1, 1) := by decide +kernel
theorem dX2_claim_50 : decode cX2_claim 50 = .ok (.if_icmp .ne 5, 3) := by decide +kernel
theorem dX2_claim_53 : decode cX2_claim 53 = .ok (.iconst 0, 1) := by decide +kernel
theorem dX2_claim_54 : decode cX2_claim 54 = .ok (.ireturn, 1) := by decide +kernel
theorem dX2_claim_55 : decode cX2_claim 55 = .ok (.iinc 2 1, 3) := by decide +kernel
theorem dX2_claim_58 : decode cX2_claim 58 = .ok (.goto (-51), 3) := by decide +kernel
theorem dX2_claim_61 : decode cX2_claim 61 = .ok (.iconst 1, 1) := by decide +kernel
theorem dX2_claim_62 : decode cX2_claim 62 = .ok (.istore_n 2, 1) := by decide +kernel
theorem dX2_claim_63 : decode cX2_claim 63 = .ok (.iload_n 2, 1) := by decide +kernel
theorem dX2_claim_64 : decode cX2_claim 64 = .ok (.aload_n 0, 1) := by decide +kernel
theorem dX2_claim_65 : decode cX2_claim 65 = .ok (.getfield 37, 3) := by decide +kernel
theorem dX2_claim_68 : decode cX2_claim 68 = .ok (.if_icmp .gt 44, 3) := by decide +kernel
theorem dX2_claim_71 : decode cX2_claim 71 = .ok (.aload_n 0, 1) := by decide +kernel
theorem dX2_claim_72 : decode cX2_claim 72 = .ok (.getfield 13, 3) := by decide +kernel
theorem dX2_claim_75 : decode cX2_claim 75 = .ok (.bipush 14, 2) := by decide +kernel
theorem dX2_claim_77 : decode cX2_claim 77 = .ok (.aaload, 1) := by decide +kernel
theorem dX2_claim_78 : decode cX2_claim 78 = .ok (.iload_n 2, 1) := by decide +kernel
theorem dX2_claim_79 : decode cX2_claim 79 = .ok (.iaload, 1) := by decide +kernel
theorem dX2_claim_80 : decode cX2_claim 80 = .ok (.iconst 1, 1) := by decide +kernel
theorem dX2_claim_81 : decode cX2_claim 81 = .ok (.if_icmp .ne 25, 3) := by decide +kernel
theorem dX2_claim_84 : decode cX2_claim 84 = .ok (.aload_n 0, 1) := by decide +kernel
theorem dX2_claim_85 : decode cX2_claim 85 = .ok (.getfield 13, 3) := by decide +kernel
theorem dX2_claim_88 : decode cX2_claim 88 = .ok (.iconst 5, 1) := by decide +kernel
theorem dX2_claim_89 : decode cX2_claim 89 = .ok (.aaload, 1) := by decide +kernel
theorem dX2_claim_90 : decode cX2_claim 90 = .ok (.iload_n 2, 1) := by decide +kernel
theorem dX2_claim_91 : decode cX2_claim 91 = .ok (.iaload, 1) := by decide +kernel
theorem dX2_claim_92 : decode cX2_claim 92 = .ok (.iconst 1, 1) := by decide +kernel
theorem dX2_claim_93 : decode cX2_claim 93 = .ok (.if_icmp .ne 13, 3) := by decide +kernel
theorem dX2_claim_96 : decode cX2_claim 96 = .ok (.aload_n 0, 1) := by decide +kernel
theorem dX2_claim_97 : decode cX2_claim 97 = .ok (.getfield 13, 3) := by decide +kernel
theorem dX2_claim_100 : decode cX2_claim 100 = .ok (.bipush 13, 2) := by decide +kernel
theorem dX2_claim_102 : decode cX2_claim 102 = .ok (.aaload, 1) := by decide +kernel
theorem dX2_claim_103 : decode cX2_claim 103 = .ok (.iload_n 2, 1) := by decide +kernel
theorem dX2_claim_104 : decode cX2_claim 104 = .ok (.iconst 1, 1) := by decide +kernel
theorem dX2_claim_105 : decode cX2_claim 105 = .ok (.iastore, 1) := by decide +kernel
theorem dX2_claim_106 : decode cX2_claim 106 = .ok (.iinc 2 1, 3) := by decide +kernel
theorem dX2_claim_109 : decode cX2_claim 109 = .ok (.goto (-46), 3) := by decide +kernel
theorem dX2_claim_112 : decode cX2_claim 112 = .ok (.iconst 1, 1) := by decide +kernel
theorem dX2_claim_113 : decode cX2_claim 113 = .ok (.ireturn, 1) := by decide +kernel
theorem cwX2_claim : mw_cwV yX2_claim cX2_claim 3 ((some .boolean)) 1 := ⟨⟨wd_12, wd_1706, by decide +kernel⟩, wd_1705, sl_129⟩
set_option maxHeartbeats 4000000 in
set_option maxRecDepth 100000 in
theorem tX2_claim (l : Launch) (G : mwG) (ad : Nat → Nat) (fu : Nat) (k : Nat) (a1 : Int32) (M : mwM) (L : mwL) {r0 : Int32} {M0 : mwM} {L0 : mwL} (hD : DX2_claim fu k a1 M L = some (r0, M0, L0)) (hk0 : isCh k) : Met l yX2_claim (Cond.code yX2_claim cX2_claim 3 ((some .boolean)) :: GT) ({ frames := 1, cells := 0, slots := 0, locals := 23 }) (mw_Pre G ad NF TF FF M L [.ref (ad k), .int a1]) (mw_Qi G ad NF TF FF (mw_eqI r0 M0 L0)) 0 0 (mw_fr G) := by
  refine mw_enter (by decide) (Nat.le_of_ble_eq_true rfl) ?_
  intro p e s m below meth c ls C hr hlocks hnm hw hl
  have hl : lv_has ls 3 [(0, .ref (ad k)), (1, .int a1)] := hl
  have hh63 : ∀ (f : Nat) (v2 : Int32) (M : mwM) (L : mwL) (H : Heap) (locs : List Loc) (ls : Array Slot), fX2_claim_h63 fu k a1 f (v2, M, L) = some (r0, M0, L0) → mw_W G ad NF TF FF M L H locs → lv_has ls 3 [(0, .ref (ad k)), (2, .int v2)] → W p l e ({ frames := 1, cells := 0, slots := 0, locals := 23 }) s m [.ref (ad k), .int a1].toArray below meth c H locs 0 0 (MQ below (mw_Qi G ad NF TF FF (mw_eqI r0 M0 L0)) [.ref (ad k), .int a1].toArray s 0 0 (mw_fr G)) (F0 m 63 ls []) := by
    intro f
    induction f with
    | zero => intro v2 M L H locs ls hD; cases hD
    | succ f63 ih63 =>
      intro v2 M L H locs ls hD hw hl
      replace hD : fX2_claim_i63 fu k a1 (fX2_claim_h63 fu k a1 f63) v2 M L = some (r0, M0, L0) := hD
      have hb106 : ∀ (v2 : Int32) (M : mwM) (L : mwL) (H : Heap) (locs : List Loc) (ls : Array Slot), fX2_claim_b106 fu k a1 (fX2_claim_h63 fu k a1 f63) v2 M L = some (r0, M0, L0) → mw_W G ad NF TF FF M L H locs → lv_has ls 3 [(0, .ref (ad k)), (2, .int v2)] → W p l e ({ frames := 1, cells := 0, slots := 0, locals := 23 }) s m [.ref (ad k), .int a1].toArray below meth c H locs 0 0 (MQ below (mw_Qi G ad NF TF FF (mw_eqI r0 M0 L0)) [.ref (ad k), .int a1].toArray s 0 0 (mw_fr G)) (F0 m 106 ls []) := by
        intro v2 M L H locs ls hD hw hl
        unfold fX2_claim_b106 at hD
        obtain ⟨x22, ex22, hD⟩ := g_let hD
        refine lv_iinc (v := x22) (lv' := [(2, .int x22), (0, .ref (ad k))]) C.1.1 C.1.2.1 dX2_claim_106 hl (k := 1) rfl (by rw [ex22]; rfl) (by decide) rfl (fun ls hl => ?_)
        refine lv_goto (tgt := 63) C.1.1 C.1.2.1 dX2_claim_109 (by decide) ?_
        exact ih63 x22 M L _ _ ls hD hw (lv_sub hl [1, 0] rfl)
      unfold fX2_claim_i63 at hD
      refine lv_iload_n C.1.1 C.1.2.1 dX2_claim_63 rfl (lv_at hl 1 rfl) ?_
      refine lv_aload_n C.1.1 C.1.2.1 dX2_claim_64 rfl (lv_at hl 0 rfl) ?_
      refine mr_getI C hw kc_2 7 (Ch_N0 hk0) (Ch_T0 hk0) wd_458 dX2_claim_65 (by decide) rfl ?_
      refine lv_icmp_gt (tgt := 112) C.1.1 C.1.2.1 dX2_claim_68 (by decide) (fun c12 => ?_) (fun c12 => ?_)
      · replace hD := g_pos c12 hD
        refine lv_iconst (v := 1) C.1.1 C.1.2.1 dX2_claim_112 (by decide) ?_
        exact mr_iret C hr hlocks hw (by decide +kernel) (Option.some.inj hD) dX2_claim_113
      · replace hD := g_neg c12 hD
        refine lv_aload_n C.1.1 C.1.2.1 dX2_claim_71 rfl (lv_at hl 0 rfl) ?_
        refine mr_getR C hw kc_2 0 (Ch_N0 hk0) (Ch_T0 hk0) (Ch_F0_0 hk0) wd_444 dX2_claim_72 (by decide) rfl ?_
        refine lv_bipush (v := 14) C.1.1 C.1.2.1 dX2_claim_75 (by decide) ?_
        refine mr_aald C hw (Ch_N1 hk0) (Ch_T1 hk0) (by decide) (by decide) rfl rfl (show vp_in 14 18 from by unfold vp_in; decide) (Ch_R1 hk0 _ (by decide : 14 < 18)).1 dX2_claim_77 ?_
        refine lv_iload_n C.1.1 C.1.2.1 dX2_claim_78 rfl (lv_at hl 1 rfl) ?_
        obtain ⟨q14, hD⟩ := g_ck hD
        refine mr_iald C hw (Ch_N16 hk0) (Ch_T16 hk0) q14 dX2_claim_79 ?_
        refine lv_iconst (v := 1) C.1.1 C.1.2.1 dX2_claim_80 (by decide) ?_
        refine lv_icmp_ne (tgt := 106) C.1.1 C.1.2.1 dX2_claim_81 (by decide) (fun c15 => ?_) (fun c15 => ?_)
        · replace hD := g_neg c15 hD
          exact hb106 v2 M L _ _ ls hD hw (lv_sub hl [0, 1] rfl)
        · replace hD := g_pos c15 hD
          refine lv_aload_n C.1.1 C.1.2.1 dX2_claim_84 rfl (lv_at hl 0 rfl) ?_
          refine mr_getR C hw kc_2 0 (Ch_N0 hk0) (Ch_T0 hk0) (Ch_F0_0 hk0) wd_444 dX2_claim_85 (by decide) rfl ?_
          refine lv_iconst (v := 5) C.1.1 C.1.2.1 dX2_claim_88 (by decide) ?_
          refine mr_aald C hw (Ch_N1 hk0) (Ch_T1 hk0) (by decide) (by decide) rfl rfl (show vp_in 5 18 from by unfold vp_in; decide) (Ch_R1 hk0 _ (by decide : 5 < 18)).1 dX2_claim_89 ?_
          refine lv_iload_n C.1.1 C.1.2.1 dX2_claim_90 rfl (lv_at hl 1 rfl) ?_
          obtain ⟨q17, hD⟩ := g_ck hD
          refine mr_iald C hw (Ch_N7 hk0) (Ch_T7 hk0) q17 dX2_claim_91 ?_
          refine lv_iconst (v := 1) C.1.1 C.1.2.1 dX2_claim_92 (by decide) ?_
          refine lv_icmp_ne (tgt := 106) C.1.1 C.1.2.1 dX2_claim_93 (by decide) (fun c18 => ?_) (fun c18 => ?_)
          · replace hD := g_neg c18 hD
            exact hb106 v2 M L _ _ ls hD hw (lv_sub hl [0, 1] rfl)
          · replace hD := g_pos c18 hD
            refine lv_aload_n C.1.1 C.1.2.1 dX2_claim_96 rfl (lv_at hl 0 rfl) ?_
            refine mr_getR C hw kc_2 0 (Ch_N0 hk0) (Ch_T0 hk0) (Ch_F0_0 hk0) wd_444 dX2_claim_97 (by decide) rfl ?_
            refine lv_bipush (v := 13) C.1.1 C.1.2.1 dX2_claim_100 (by decide) ?_
            refine mr_aald C hw (Ch_N1 hk0) (Ch_T1 hk0) (by decide) (by decide) rfl rfl (show vp_in 13 18 from by unfold vp_in; decide) (Ch_R1 hk0 _ (by decide : 13 < 18)).1 dX2_claim_102 ?_
            refine lv_iload_n C.1.1 C.1.2.1 dX2_claim_103 rfl (lv_at hl 1 rfl) ?_
            refine lv_iconst (v := 1) C.1.1 C.1.2.1 dX2_claim_104 (by decide) ?_
            obtain ⟨q20, hD⟩ := g_ck hD
            obtain ⟨M21, eM21, hD⟩ := g_let hD
            refine mr_iast C hw (Ch_N15 hk0) (Ch_T15 hk0) q20 dX2_claim_105 (fun H locs hw => ?_)
            replace hw : mw_W G ad NF TF FF M21 L H locs := by rw [eM21]; exact hw
            exact hb106 v2 M21 L _ _ ls hD hw (lv_sub hl [0, 1] rfl)
  have hh7 : ∀ (f : Nat) (v2 : Int32) (M : mwM) (L : mwL) (H : Heap) (locs : List Loc) (ls : Array Slot), fX2_claim_h7 fu k a1 f (v2, M, L) = some (r0, M0, L0) → mw_W G ad NF TF FF M L H locs → lv_has ls 3 [(0, .ref (ad k)), (2, .int v2)] → W p l e ({ frames := 1, cells := 0, slots := 0, locals := 23 }) s m [.ref (ad k), .int a1].toArray below meth c H locs 0 0 (MQ below (mw_Qi G ad NF TF FF (mw_eqI r0 M0 L0)) [.ref (ad k), .int a1].toArray s 0 0 (mw_fr G)) (F0 m 7 ls []) := by
    intro f
    induction f with
    | zero => intro v2 M L H locs ls hD; cases hD
    | succ f7 ih7 =>
      intro v2 M L H locs ls hD hw hl
      replace hD : fX2_claim_i7 fu k a1 (fX2_claim_h7 fu k a1 f7) v2 M L = some (r0, M0, L0) := hD
      have hb55 : ∀ (v2 : Int32) (M : mwM) (L : mwL) (H : Heap) (locs : List Loc) (ls : Array Slot), fX2_claim_b55 fu k a1 (fX2_claim_h7 fu k a1 f7) v2 M L = some (r0, M0, L0) → mw_W G ad NF TF FF M L H locs → lv_has ls 3 [(0, .ref (ad k)), (2, .int v2)] → W p l e ({ frames := 1, cells := 0, slots := 0, locals := 23 }) s m [.ref (ad k), .int a1].toArray below meth c H locs 0 0 (MQ below (mw_Qi G ad NF TF FF (mw_eqI r0 M0 L0)) [.ref (ad k), .int a1].toArray s 0 0 (mw_fr G)) (F0 m 55 ls []) := by
        intro v2 M L H locs ls hD hw hl
        unfold fX2_claim_b55 at hD
        obtain ⟨x11, ex11, hD⟩ := g_let hD
        refine lv_iinc (v := x11) (lv' := [(2, .int x11), (0, .ref (ad k))]) C.1.1 C.1.2.1 dX2_claim_55 hl (k := 1) rfl (by rw [ex11]; rfl) (by decide) rfl (fun ls hl => ?_)
        refine lv_goto (tgt := 7) C.1.1 C.1.2.1 dX2_claim_58 (by decide) ?_
        exact ih7 x11 M L _ _ ls hD hw (lv_sub hl [1, 0] rfl)
      unfold fX2_claim_i7 at hD
      refine lv_iload_n C.1.1 C.1.2.1 dX2_claim_7 rfl (lv_at hl 1 rfl) ?_
      refine lv_aload_n C.1.1 C.1.2.1 dX2_claim_8 rfl (lv_at hl 0 rfl) ?_
      refine mr_getI C hw kc_2 7 (Ch_N0 hk0) (Ch_T0 hk0) wd_458 dX2_claim_9 (by decide) rfl ?_
      refine lv_icmp_gt (tgt := 61) C.1.1 C.1.2.1 dX2_claim_12 (by decide) (fun c1 => ?_) (fun c1 => ?_)
      · replace hD := g_pos c1 hD
        refine lv_iconst (v := 1) C.1.1 C.1.2.1 dX2_claim_61 (by decide) ?_
        refine lv_istore_n (lv' := [(2, .int 1), (0, .ref (ad k))]) C.1.1 C.1.2.1 dX2_claim_62 rfl hl (by decide) rfl (fun ls hl => ?_)
        exact hh63 fu 1 M L _ _ ls hD hw (lv_sub hl [1, 0] rfl)
      · replace hD := g_neg c1 hD
        refine lv_aload_n C.1.1 C.1.2.1 dX2_claim_15 rfl (lv_at hl 0 rfl) ?_
        refine mr_getR C hw kc_2 0 (Ch_N0 hk0) (Ch_T0 hk0) (Ch_F0_0 hk0) wd_444 dX2_claim_16 (by decide) rfl ?_
        refine lv_bipush (v := 14) C.1.1 C.1.2.1 dX2_claim_19 (by decide) ?_
        refine mr_aald C hw (Ch_N1 hk0) (Ch_T1 hk0) (by decide) (by decide) rfl rfl (show vp_in 14 18 from by unfold vp_in; decide) (Ch_R1 hk0 _ (by decide : 14 < 18)).1 dX2_claim_21 ?_
        refine lv_iload_n C.1.1 C.1.2.1 dX2_claim_22 rfl (lv_at hl 1 rfl) ?_
        obtain ⟨q3, hD⟩ := g_ck hD
        refine mr_iald C hw (Ch_N16 hk0) (Ch_T16 hk0) q3 dX2_claim_23 ?_
        refine lv_iconst (v := 1) C.1.1 C.1.2.1 dX2_claim_24 (by decide) ?_
        refine lv_icmp_ne (tgt := 55) C.1.1 C.1.2.1 dX2_claim_25 (by decide) (fun c4 => ?_) (fun c4 => ?_)
        · replace hD := g_neg c4 hD
          exact hb55 v2 M L _ _ ls hD hw (lv_sub hl [0, 1] rfl)
        · replace hD := g_pos c4 hD
          refine lv_aload_n C.1.1 C.1.2.1 dX2_claim_28 rfl (lv_at hl 0 rfl) ?_
          refine mr_getR C hw kc_2 0 (Ch_N0 hk0) (Ch_T0 hk0) (Ch_F0_0 hk0) wd_444 dX2_claim_29 (by decide) rfl ?_
          refine lv_iconst (v := 5) C.1.1 C.1.2.1 dX2_claim_32 (by decide) ?_
          refine mr_aald C hw (Ch_N1 hk0) (Ch_T1 hk0) (by decide) (by decide) rfl rfl (show vp_in 5 18 from by unfold vp_in; decide) (Ch_R1 hk0 _ (by decide : 5 < 18)).1 dX2_claim_33 ?_
          refine lv_iload_n C.1.1 C.1.2.1 dX2_claim_34 rfl (lv_at hl 1 rfl) ?_
          obtain ⟨q6, hD⟩ := g_ck hD
          refine mr_iald C hw (Ch_N7 hk0) (Ch_T7 hk0) q6 dX2_claim_35 ?_
          refine lv_iconst (v := 1) C.1.1 C.1.2.1 dX2_claim_36 (by decide) ?_
          refine lv_icmp_ne (tgt := 55) C.1.1 C.1.2.1 dX2_claim_37 (by decide) (fun c7 => ?_) (fun c7 => ?_)
          · replace hD := g_neg c7 hD
            exact hb55 v2 M L _ _ ls hD hw (lv_sub hl [0, 1] rfl)
          · replace hD := g_pos c7 hD
            refine lv_aload_n C.1.1 C.1.2.1 dX2_claim_40 rfl (lv_at hl 0 rfl) ?_
            refine mr_getR C hw kc_2 0 (Ch_N0 hk0) (Ch_T0 hk0) (Ch_F0_0 hk0) wd_444 dX2_claim_41 (by decide) rfl ?_
            refine lv_bipush (v := 13) C.1.1 C.1.2.1 dX2_claim_44 (by decide) ?_
            refine mr_aald C hw (Ch_N1 hk0) (Ch_T1 hk0) (by decide) (by decide) rfl rfl (show vp_in 13 18 from by unfold vp_in; decide) (Ch_R1 hk0 _ (by decide : 13 < 18)).1 dX2_claim_46 ?_
            refine lv_iload_n C.1.1 C.1.2.1 dX2_claim_47 rfl (lv_at hl 1 rfl) ?_
            obtain ⟨q9, hD⟩ := g_ck hD
            refine mr_iald C hw (Ch_N15 hk0) (Ch_T15 hk0) q9 dX2_claim_48 ?_
            refine lv_iconst (v := 1) C.1.1 C.1.2.1 dX2_claim_49 (by decide) ?_
            refine lv_icmp_ne (tgt := 55) C.1.1 C.1.2.1 dX2_claim_50 (by decide) (fun c10 => ?_) (fun c10 => ?_)
            · replace hD := g_neg c10 hD
              exact hb55 v2 M L _ _ ls hD hw (lv_sub hl [0, 1] rfl)
            · replace hD := g_pos c10 hD
              refine lv_iconst (v := 0) C.1.1 C.1.2.1 dX2_claim_53 (by decide) ?_
              exact mr_iret C hr hlocks hw (by decide +kernel) (Option.some.inj hD) dX2_claim_54
  unfold DX2_claim at hD
  refine lv_aload_n C.1.1 C.1.2.1 dX2_claim_0 rfl (lv_at hl 0 rfl) ?_
  refine lv_iload_n C.1.1 C.1.2.1 dX2_claim_1 rfl (lv_at hl 1 rfl) ?_
  obtain ⟨M23, L24, h1, hD⟩ := g_b2 hD
  refine md_cvV (As := [.int a1]) (rest := []) C hw (tX2_markInside l G ad fu k a1 M L h1 hk0) kc_2 (Ch_N0 hk0) (Ch_T0 hk0) wd_1707 cwX2_markInside ⟨Nat.le_of_ble_eq_true rfl, Nat.le_of_ble_eq_true rfl⟩ rfl hl.1 (Nat.le_of_ble_eq_true rfl) dX2_claim_2 rfl rfl ⟨Nat.zero_le _, Nat.zero_le _⟩ rfl (fun H locs hw => ?_)
  refine lv_iconst (v := 1) C.1.1 C.1.2.1 dX2_claim_5 (by decide) ?_
  refine lv_istore_n (lv' := [(2, .int 1), (0, .ref (ad k)), (1, .int a1)]) C.1.1 C.1.2.1 dX2_claim_6 rfl hl (by decide) rfl (fun ls hl => ?_)
  exact hh7 fu 1 M23 L24 _ _ ls hD hw (lv_sub hl [1, 0] rfl)

theorem dX2_select_0 : decode cX2_select 0 = .ok (.iconst 0, 1) := by decide +kernel
theorem dX2_select_1 : decode cX2_select 1 = .ok (.istore_n 2, 1) := by decide +kernel
theorem dX2_select_2 : decode cX2_select 2 = .ok (.iconst 1, 1) := by decide +kernel
theorem dX2_select_3 : decode cX2_select 3 = .ok (.istore_n 3, 1) := by decide +kernel
theorem dX2_select_4 : decode cX2_select 4 = .ok (.iload_n 3, 1) := by decide +kernel
theorem dX2_select_5 : decode cX2_select 5 = .ok (.aload_n 0, 1) := by decide +kernel
theorem dX2_select_6 : decode cX2_select 6 = .ok (.getfield 40, 3) := by decide +kernel
theorem dX2_select_9 : decode cX2_select 9 = .ok (.if_icmp .gt 44, 3) := by decide +kernel
theorem dX2_select_12 : decode cX2_select 12 = .ok (.aload_n 0, 1) := by decide +kernel
theorem dX2_select_13 : decode cX2_select 13 = .ok (.getfield 16, 3) := by decide +kernel
theorem dX2_select_16 : decode cX2_select 16 = .ok (.iconst 2, 1) := by decide +kernel
theorem dX2_select_17 : decode cX2_select 17 = .ok (.aaload, 1) := by decide +kernel
theorem dX2_select_18 : decode cX2_select 18 = .ok (.iload_n 3, 1) := by decide +kernel
theorem dX2_select_19 : decode cX2_select 19 = .ok (.iaload, 1) := by decide +kernel
theorem dX2_select_20 : decode cX2_select 20 = .ok (.iload_n 1, 1) := by decide +kernel
theorem dX2_select_21 : decode cX2_select 21 = .ok (.if_icmp .ne 26, 3) := by decide +kernel
theorem dX2_select_24 : decode cX2_select 24 = .ok (.aload_n 0, 1) := by decide +kernel
theorem dX2_select_25 : decode cX2_select 25 = .ok (.iload_n 3, 1) := by decide +kernel
theorem dX2_select_26 : decode cX2_select 26 = .ok (.invokevirtual 116, 3) := by decide +kernel
theorem dX2_select_29 : decode cX2_select 29 = .ok (.ifCond .eq 18, 3) := by decide +kernel
theorem dX2_select_32 : decode cX2_select 32 = .ok (.aload_n 0, 1) := by decide +kernel
theorem dX2_select_33 : decode cX2_select 33 = .ok (.iload_n 3, 1) := by decide +kernel
theorem dX2_select_34 : decode cX2_select 34 = .ok (.invokevirtual 119, 3) := by decide +kernel
theorem dX2_select_37 : decode cX2_select 37 = .ok (.ifCond .eq 10, 3) := by decide +kernel
theorem dX2_select_40 : decode cX2_select 40 = .ok (.aload_n 0, 1) := by decide +kernel
theorem dX2_select_41 : decode cX2_select 41 = .ok (.iload_n 3, 1) := by decide +kernel
theorem dX2_select_42 : decode cX2_select 42 = .ok (.iload_n 2, 1) := by decide +kernel
theorem dX2_select_43 : decode cX2_select 43 = .ok (.invokevirtual 122, 3) := by decide +kernel
theorem dX2_select_46 : decode cX2_select 46 = .ok (.istore_n 2, 1) := by decide +kernel
theorem dX2_select_47 : decode cX2_select 47 = .ok (.iinc 3 1, 3) := by decide +kernel
theorem dX2_select_50 : decode cX2_select 50 = .ok (.goto (-46), 3) := by decide +kernel
theorem dX2_select_53 : decode cX2_select 53 = .ok (.iload_n 2, 1) := by decide +kernel
theorem dX2_select_54 : decode cX2_select 54 = .ok (.ifCond .ne 5, 3) := by decide +kernel
theorem dX2_select_57 : decode cX2_select 57 = .ok (.iconst 0, 1) := by decide +kernel
theorem dX2_select_58 : decode cX2_select 58 = .ok (.ireturn, 1) := by decide +kernel
theorem dX2_select_59 : decode cX2_select 59 = .ok (.iconst 1, 1) := by decide +kernel
theorem dX2_select_60 : decode cX2_select 60 = .ok (.istore_n 3, 1) := by decide +kernel
theorem dX2_select_61 : decode cX2_select 61 = .ok (.iload_n 3, 1) := by decide +kernel
theorem dX2_select_62 : decode cX2_select 62 = .ok (.aload_n 0, 1) := by decide +kernel
theorem dX2_select_63 : decode cX2_select 63 = .ok (.getfield 37, 3) := by decide +kernel
theorem dX2_select_66 : decode cX2_select 66 = .ok (.if_icmp .gt 19, 3) := by decide +kernel
theorem dX2_select_69 : decode cX2_select 69 = .ok (.aload_n 0, 1) := by decide +kernel
theorem dX2_select_70 : decode cX2_select 70 = .ok (.getfield 13, 3) := by decide +kernel
theorem dX2_select_73 : decode cX2_select 73 = .ok (.bipush 13, 2) := by decide +kernel
theorem dX2_select_75 : decode cX2_select 75 = .ok (.aaload, 1) := by decide +kernel
theorem dX2_select_76 : decode cX2_select 76 = .ok (.iload_n 3, 1) := by decide +kernel
theorem dX2_select_77 : decode cX2_select 77 = .ok (.iconst 0, 1) := by decide +kernel
theorem dX2_select_78 : decode cX2_select 78 = .ok (.iastore, 1) := by decide +kernel
theorem dX2_select_79 : decode cX2_select 79 = .ok (.iinc 3 1, 3) := by decide +kernel
theorem dX2_select_82 : decode cX2_select 82 = .ok (.goto (-21), 3) := by decide +kernel
theorem dX2_select_85 : decode cX2_select 85 = .ok (.iconst 0, 1) := by decide +kernel
theorem dX2_select_86 : decode cX2_select 86 = .ok (.istore_n 3, 1) := by decide +kernel
theorem dX2_select_87 : decode cX2_select 87 = .ok (.iconst 0, 1) := by decide +kernel
theorem dX2_select_88 : decode cX2_select 88 = .ok (.istore 4, 2) := by decide +kernel
theorem dX2_select_90 : decode cX2_select 90 = .ok (.iload 4, 2) := by decide +kernel
theorem dX2_select_92 : decode cX2_select 92 = .ok (.iload_n 2, 1) := by decide +kernel
theorem dX2_select_93 : decode cX2_select 93 = .ok (.if_icmp .ge 51, 3) := by decide +kernel
theorem dX2_select_96 : decode cX2_select 96 = .ok (.aload_n 0, 1) := by decide +kernel
theorem dX2_select_97 : decode cX2_select 97 = .ok (.getfield 16, 3) := by decide +kernel
theorem dX2_select_100 : decode cX2_select 100 = .ok (.bipush 6, 2) := by decide +kernel
theorem dX2_select_102 : decode cX2_select 102 = .ok (.aaload, 1) := by decide +kernel
theorem dX2_select_103 : decode cX2_select 103 = .ok (.iload 4, 2) := by decide +kernel
theorem dX2_select_105 : decode cX2_select 105 = .ok (.iaload, 1) := by decide +kernel
theorem dX2_select_106 : decode cX2_select 106 = .ok (.istore 5, 2) := by decide +kernel
theorem dX2_select_108 : decode cX2_select 108 = .ok (.aload_n 0, 1) := by decide +kernel
theorem dX2_select_109 : decode cX2_select 109 = .ok (.aload_n 0, 1) := by decide +kernel
theorem dX2_select_110 : decode cX2_select 110 = .ok (.getfield 16, 3) := by decide +kernel
theorem dX2_select_113 : decode cX2_select 113 = .ok (.iconst 4, 1) := by decide +kernel
theorem dX2_select_114 : decode cX2_select 114 = .ok (.aaload, 1) := by decide +kernel
theorem dX2_select_115 : decode cX2_select 115 = .ok (.iload 5, 2) := by decide +kernel
theorem dX2_select_117 : decode cX2_select 117 = .ok (.iaload, 1) := by decide +kernel
theorem dX2_select_118 : decode cX2_select 118 = .ok (.invokevirtual 126, 3) := by decide +kernel
theorem dX2_select_121 : decode cX2_select 121 = .ok (.ifCond .eq 17, 3) := by decide +kernel
theorem dX2_select_124 : decode cX2_select 124 = .ok (.aload_n 0, 1) := by decide +kernel
theorem dX2_select_125 : decode cX2_select 125 = .ok (.getfield 16, 3) := by decide +kernel
theorem dX2_select_128 : decode cX2_select 128 = .ok (.bipush 6, 2) := by decide +kernel
theorem dX2_select_130 : decode cX2_select 130 = .ok (.aaload, 1) := by decide +kernel
theorem dX2_select_131 : decode cX2_select 131 = .ok (.iload_n 3, 1) := by decide +kernel
theorem dX2_select_132 : decode cX2_select 132 = .ok (.iload 5, 2) := by decide +kernel
theorem dX2_select_134 : decode cX2_select 134 = .ok (.iastore, 1) := by decide +kernel
theorem dX2_select_135 : decode cX2_select 135 = .ok (.iinc 3 1, 3) := by decide +kernel
theorem dX2_select_138 : decode cX2_select 138 = .ok (.iinc 4 1, 3) := by decide +kernel
theorem dX2_select_141 : decode cX2_select 141 = .ok (.goto (-51), 3) := by decide +kernel
theorem dX2_select_144 : decode cX2_select 144 = .ok (.iload_n 3, 1) := by decide +kernel
theorem dX2_select_145 : decode cX2_select 145 = .ok (.ireturn, 1) := by decide +kernel
theorem cwX2_select : mw_cwV yX2_select cX2_select 6 ((some .int)) 1 := ⟨⟨wd_12, wd_1682, by decide +kernel⟩, wd_1681, sl_123⟩
set_option maxHeartbeats 4000000 in
set_option maxRecDepth 100000 in
theorem tX2_select (l : Launch) (G : mwG) (ad : Nat → Nat) (fu : Nat) (k : Nat) (a1 : Int32) (M : mwM) (L : mwL) {r0 : Int32} {M0 : mwM} {L0 : mwL} (hD : DX2_select fu k a1 M L = some (r0, M0, L0)) (hk0 : isCh k) : Met l yX2_select (Cond.code yX2_select cX2_select 6 ((some .int)) :: GT) ({ frames := 2, cells := 0, slots := 0, locals := 49 }) (mw_Pre G ad NF TF FF M L [.ref (ad k), .int a1]) (mw_Qi G ad NF TF FF (mw_eqI r0 M0 L0)) 0 0 (mw_fr G) := by
  refine mw_enter (by decide) (Nat.le_of_ble_eq_true rfl) ?_
  intro p e s m below meth c ls C hr hlocks hnm hw hl
  have hl : lv_has ls 6 [(0, .ref (ad k)), (1, .int a1)] := hl
  have hh90 : ∀ (f : Nat) (v2 : Int32) (v3 : Int32) (v4 : Int32) (M : mwM) (L : mwL) (H : Heap) (locs : List Loc) (ls : Array Slot), fX2_select_h90 fu k a1 f (v2, v3, v4, M, L) = some (r0, M0, L0) → mw_W G ad NF TF FF M L H locs → lv_has ls 6 [(0, .ref (ad k)), (2, .int v2), (3, .int v3), (4, .int v4)] → W p l e ({ frames := 2, cells := 0, slots := 0, locals := 49 }) s m [.ref (ad k), .int a1].toArray below meth c H locs 0 0 (MQ below (mw_Qi G ad NF TF FF (mw_eqI r0 M0 L0)) [.ref (ad k), .int a1].toArray s 0 0 (mw_fr G)) (F0 m 90 ls []) := by
    intro f
    induction f with
    | zero => intro v2 v3 v4 M L H locs ls hD; cases hD
    | succ f90 ih90 =>
      intro v2 v3 v4 M L H locs ls hD hw hl
      replace hD : fX2_select_i90 fu k a1 (fX2_select_h90 fu k a1 f90) v2 v3 v4 M L = some (r0, M0, L0) := hD
      have hb138 : ∀ (v2 : Int32) (v3 : Int32) (v4 : Int32) (M : mwM) (L : mwL) (H : Heap) (locs : List Loc) (ls : Array Slot), fX2_select_b138 fu k a1 (fX2_select_h90 fu k a1 f90) v2 v3 v4 M L = some (r0, M0, L0) → mw_W G ad NF TF FF M L H locs → lv_has ls 6 [(0, .ref (ad k)), (2, .int v2), (3, .int v3), (4, .int v4)] → W p l e ({ frames := 2, cells := 0, slots := 0, locals := 49 }) s m [.ref (ad k), .int a1].toArray below meth c H locs 0 0 (MQ below (mw_Qi G ad NF TF FF (mw_eqI r0 M0 L0)) [.ref (ad k), .int a1].toArray s 0 0 (mw_fr G)) (F0 m 138 ls []) := by
        intro v2 v3 v4 M L H locs ls hD hw hl
        unfold fX2_select_b138 at hD
        obtain ⟨x37, ex37, hD⟩ := g_let hD
        refine lv_iinc (v := x37) (lv' := [(4, .int x37), (0, .ref (ad k)), (2, .int v2), (3, .int v3)]) C.1.1 C.1.2.1 dX2_select_138 hl (k := 3) rfl (by rw [ex37]; rfl) (by decide) rfl (fun ls hl => ?_)
        refine lv_goto (tgt := 90) C.1.1 C.1.2.1 dX2_select_141 (by decide) ?_
        exact ih90 v2 v3 x37 M L _ _ ls hD hw (lv_sub hl [1, 2, 3, 0] rfl)
      unfold fX2_select_i90 at hD
      refine lv_iload C.1.1 C.1.2.1 dX2_select_90 (lv_at hl 3 rfl) ?_
      refine lv_iload_n C.1.1 C.1.2.1 dX2_select_92 rfl (lv_at hl 1 rfl) ?_
      refine lv_icmp_ge (tgt := 144) C.1.1 C.1.2.1 dX2_select_93 (by decide) (fun c23 => ?_) (fun c23 => ?_)
      · replace hD := g_pos c23 hD
        refine lv_iload_n C.1.1 C.1.2.1 dX2_select_144 rfl (lv_at hl 2 rfl) ?_
        exact mr_iret C hr hlocks hw rfl (Option.some.inj hD) dX2_select_145
      · replace hD := g_neg c23 hD
        refine lv_aload_n C.1.1 C.1.2.1 dX2_select_96 rfl (lv_at hl 0 rfl) ?_
        refine mr_getR C hw kc_2 1 (Ch_N0 hk0) (Ch_T0 hk0) (Ch_F0_1 hk0) wd_445 dX2_select_97 (by decide) rfl ?_
        refine lv_bipush (v := 6) C.1.1 C.1.2.1 dX2_select_100 (by decide) ?_
        refine mr_aald C hw (Ch_N20 hk0) (Ch_T20 hk0) (by decide) (by decide) rfl rfl (show vp_in 6 7 from by unfold vp_in; decide) (Ch_R20 hk0 _ (by decide : 6 < 7)).1 dX2_select_102 ?_
        refine lv_iload C.1.1 C.1.2.1 dX2_select_103 (lv_at hl 3 rfl) ?_
        obtain ⟨q25, hD⟩ := g_ck hD
        refine mr_iald C hw (Ch_N27 hk0) (Ch_T27 hk0) q25 dX2_select_105 ?_
        obtain ⟨x26, ex26, hD⟩ := g_let hD
        refine W.eq (g2 := F0 m 106 ls (.int x26 :: [])) (by rw [ex26]) ?_
        refine lv_istore (lv' := [(5, .int x26), (0, .ref (ad k)), (2, .int v2), (3, .int v3), (4, .int v4)]) C.1.1 C.1.2.1 dX2_select_106 hl (by decide) rfl (fun ls hl => ?_)
        refine lv_aload_n C.1.1 C.1.2.1 dX2_select_108 rfl (lv_at hl 1 rfl) ?_
        refine lv_aload_n C.1.1 C.1.2.1 dX2_select_109 rfl (lv_at hl 1 rfl) ?_
        refine mr_getR C hw kc_2 1 (Ch_N0 hk0) (Ch_T0 hk0) (Ch_F0_1 hk0) wd_445 dX2_select_110 (by decide) rfl ?_
        refine lv_iconst (v := 4) C.1.1 C.1.2.1 dX2_select_113 (by decide) ?_
        refine mr_aald C hw (Ch_N20 hk0) (Ch_T20 hk0) (by decide) (by decide) rfl rfl (show vp_in 4 7 from by unfold vp_in; decide) (Ch_R20 hk0 _ (by decide : 4 < 7)).1 dX2_select_114 ?_
        refine lv_iload C.1.1 C.1.2.1 dX2_select_115 (lv_at hl 0 rfl) ?_
        obtain ⟨q28, hD⟩ := g_ck hD
        refine mr_iald C hw (Ch_N25 hk0) (Ch_T25 hk0) q28 dX2_select_117 ?_
        obtain ⟨r31, M29, L30, h1, hD⟩ := g_b3 hD
        refine md_cvI (As := [.int (M (k + 25) x26.toNatClampNeg)]) (rest := []) C hw (tX2_claim l G ad fu k (M (k + 25) x26.toNatClampNeg) M L h1 hk0) kc_2 (Ch_N0 hk0) (Ch_T0 hk0) wd_1703 cwX2_claim ⟨Nat.le_of_ble_eq_true rfl, Nat.le_of_ble_eq_true rfl⟩ rfl hl.1 (Nat.le_of_ble_eq_true rfl) dX2_select_118 rfl rfl ⟨Nat.zero_le _, Nat.zero_le _⟩ rfl (fun H locs hw => ?_)
        refine lv_if_eq (tgt := 138) C.1.1 C.1.2.1 dX2_select_121 (by decide) (fun c32 => ?_) (fun c32 => ?_)
        · replace hD := g_pos c32 hD
          exact hb138 v2 v3 v4 M29 L30 _ _ ls hD hw (lv_sub hl [1, 2, 3, 4] rfl)
        · replace hD := g_neg c32 hD
          refine lv_aload_n C.1.1 C.1.2.1 dX2_select_124 rfl (lv_at hl 1 rfl) ?_
          refine mr_getR C hw kc_2 1 (Ch_N0 hk0) (Ch_T0 hk0) (Ch_F0_1 hk0) wd_445 dX2_select_125 (by decide) rfl ?_
          refine lv_bipush (v := 6) C.1.1 C.1.2.1 dX2_select_128 (by decide) ?_
          refine mr_aald C hw (Ch_N20 hk0) (Ch_T20 hk0) (by decide) (by decide) rfl rfl (show vp_in 6 7 from by unfold vp_in; decide) (Ch_R20 hk0 _ (by decide : 6 < 7)).1 dX2_select_130 ?_
          refine lv_iload_n C.1.1 C.1.2.1 dX2_select_131 rfl (lv_at hl 3 rfl) ?_
          refine lv_iload C.1.1 C.1.2.1 dX2_select_132 (lv_at hl 0 rfl) ?_
          obtain ⟨q34, hD⟩ := g_ck hD
          obtain ⟨M35, eM35, hD⟩ := g_let hD
          refine mr_iast C hw (Ch_N27 hk0) (Ch_T27 hk0) q34 dX2_select_134 (fun H locs hw => ?_)
          replace hw : mw_W G ad NF TF FF M35 L30 H locs := by rw [eM35]; exact hw
          obtain ⟨x36, ex36, hD⟩ := g_let hD
          refine lv_iinc (v := x36) (lv' := [(3, .int x36), (5, .int x26), (0, .ref (ad k)), (2, .int v2), (4, .int v4)]) C.1.1 C.1.2.1 dX2_select_135 hl (k := 3) rfl (by rw [ex36]; rfl) (by decide) rfl (fun ls hl => ?_)
          exact hb138 v2 x36 v4 M35 L30 _ _ ls hD hw (lv_sub hl [2, 3, 0, 4] rfl)
  have hh61 : ∀ (f : Nat) (v2 : Int32) (v3 : Int32) (M : mwM) (L : mwL) (H : Heap) (locs : List Loc) (ls : Array Slot), fX2_select_h61 fu k a1 f (v2, v3, M, L) = some (r0, M0, L0) → mw_W G ad NF TF FF M L H locs → lv_has ls 6 [(0, .ref (ad k)), (2, .int v2), (3, .int v3)] → W p l e ({ frames := 2, cells := 0, slots := 0, locals := 49 }) s m [.ref (ad k), .int a1].toArray below meth c H locs 0 0 (MQ below (mw_Qi G ad NF TF FF (mw_eqI r0 M0 L0)) [.ref (ad k), .int a1].toArray s 0 0 (mw_fr G)) (F0 m 61 ls []) := by
    intro f
    induction f with
    | zero => intro v2 v3 M L H locs ls hD; cases hD
    | succ f61 ih61 =>
      intro v2 v3 M L H locs ls hD hw hl
      replace hD : fX2_select_i61 fu k a1 (fX2_select_h61 fu k a1 f61) v2 v3 M L = some (r0, M0, L0) := hD
      unfold fX2_select_i61 at hD
      refine lv_iload_n C.1.1 C.1.2.1 dX2_select_61 rfl (lv_at hl 2 rfl) ?_
      refine lv_aload_n C.1.1 C.1.2.1 dX2_select_62 rfl (lv_at hl 0 rfl) ?_
      refine mr_getI C hw kc_2 7 (Ch_N0 hk0) (Ch_T0 hk0) wd_458 dX2_select_63 (by decide) rfl ?_
      refine lv_icmp_gt (tgt := 85) C.1.1 C.1.2.1 dX2_select_66 (by decide) (fun c18 => ?_) (fun c18 => ?_)
      · replace hD := g_pos c18 hD
        refine lv_iconst (v := 0) C.1.1 C.1.2.1 dX2_select_85 (by decide) ?_
        refine lv_istore_n (lv' := [(3, .int 0), (0, .ref (ad k)), (2, .int v2)]) C.1.1 C.1.2.1 dX2_select_86 rfl hl (by decide) rfl (fun ls hl => ?_)
        refine lv_iconst (v := 0) C.1.1 C.1.2.1 dX2_select_87 (by decide) ?_
        refine lv_istore (lv' := [(4, .int 0), (3, .int 0), (0, .ref (ad k)), (2, .int v2)]) C.1.1 C.1.2.1 dX2_select_88 hl (by decide) rfl (fun ls hl => ?_)
        exact hh90 fu v2 0 0 M L _ _ ls hD hw (lv_sub hl [2, 3, 1, 0] rfl)
      · replace hD := g_neg c18 hD
        refine lv_aload_n C.1.1 C.1.2.1 dX2_select_69 rfl (lv_at hl 0 rfl) ?_
        refine mr_getR C hw kc_2 0 (Ch_N0 hk0) (Ch_T0 hk0) (Ch_F0_0 hk0) wd_444 dX2_select_70 (by decide) rfl ?_
        refine lv_bipush (v := 13) C.1.1 C.1.2.1 dX2_select_73 (by decide) ?_
        refine mr_aald C hw (Ch_N1 hk0) (Ch_T1 hk0) (by decide) (by decide) rfl rfl (show vp_in 13 18 from by unfold vp_in; decide) (Ch_R1 hk0 _ (by decide : 13 < 18)).1 dX2_select_75 ?_
        refine lv_iload_n C.1.1 C.1.2.1 dX2_select_76 rfl (lv_at hl 2 rfl) ?_
        refine lv_iconst (v := 0) C.1.1 C.1.2.1 dX2_select_77 (by decide) ?_
        obtain ⟨q20, hD⟩ := g_ck hD
        obtain ⟨M21, eM21, hD⟩ := g_let hD
        refine mr_iast C hw (Ch_N15 hk0) (Ch_T15 hk0) q20 dX2_select_78 (fun H locs hw => ?_)
        replace hw : mw_W G ad NF TF FF M21 L H locs := by rw [eM21]; exact hw
        obtain ⟨x22, ex22, hD⟩ := g_let hD
        refine lv_iinc (v := x22) (lv' := [(3, .int x22), (0, .ref (ad k)), (2, .int v2)]) C.1.1 C.1.2.1 dX2_select_79 hl (k := 2) rfl (by rw [ex22]; rfl) (by decide) rfl (fun ls hl => ?_)
        refine lv_goto (tgt := 61) C.1.1 C.1.2.1 dX2_select_82 (by decide) ?_
        exact ih61 v2 x22 M21 L _ _ ls hD hw (lv_sub hl [1, 2, 0] rfl)
  have hh4 : ∀ (f : Nat) (v2 : Int32) (v3 : Int32) (M : mwM) (L : mwL) (H : Heap) (locs : List Loc) (ls : Array Slot), fX2_select_h4 fu k a1 f (v2, v3, M, L) = some (r0, M0, L0) → mw_W G ad NF TF FF M L H locs → lv_has ls 6 [(0, .ref (ad k)), (1, .int a1), (2, .int v2), (3, .int v3)] → W p l e ({ frames := 2, cells := 0, slots := 0, locals := 49 }) s m [.ref (ad k), .int a1].toArray below meth c H locs 0 0 (MQ below (mw_Qi G ad NF TF FF (mw_eqI r0 M0 L0)) [.ref (ad k), .int a1].toArray s 0 0 (mw_fr G)) (F0 m 4 ls []) := by
    intro f
    induction f with
    | zero => intro v2 v3 M L H locs ls hD; cases hD
    | succ f4 ih4 =>
      intro v2 v3 M L H locs ls hD hw hl
      replace hD : fX2_select_i4 fu k a1 (fX2_select_h4 fu k a1 f4) v2 v3 M L = some (r0, M0, L0) := hD
      have hb47 : ∀ (v2 : Int32) (v3 : Int32) (M : mwM) (L : mwL) (H : Heap) (locs : List Loc) (ls : Array Slot), fX2_select_b47 fu k a1 (fX2_select_h4 fu k a1 f4) v2 v3 M L = some (r0, M0, L0) → mw_W G ad NF TF FF M L H locs → lv_has ls 6 [(0, .ref (ad k)), (1, .int a1), (2, .int v2), (3, .int v3)] → W p l e ({ frames := 2, cells := 0, slots := 0, locals := 49 }) s m [.ref (ad k), .int a1].toArray below meth c H locs 0 0 (MQ below (mw_Qi G ad NF TF FF (mw_eqI r0 M0 L0)) [.ref (ad k), .int a1].toArray s 0 0 (mw_fr G)) (F0 m 47 ls []) := by
        intro v2 v3 M L H locs ls hD hw hl
        unfold fX2_select_b47 at hD
        obtain ⟨x17, ex17, hD⟩ := g_let hD
        refine lv_iinc (v := x17) (lv' := [(3, .int x17), (0, .ref (ad k)), (1, .int a1), (2, .int v2)]) C.1.1 C.1.2.1 dX2_select_47 hl (k := 3) rfl (by rw [ex17]; rfl) (by decide) rfl (fun ls hl => ?_)
        refine lv_goto (tgt := 4) C.1.1 C.1.2.1 dX2_select_50 (by decide) ?_
        exact ih4 v2 x17 M L _ _ ls hD hw (lv_sub hl [1, 2, 3, 0] rfl)
      unfold fX2_select_i4 at hD
      refine lv_iload_n C.1.1 C.1.2.1 dX2_select_4 rfl (lv_at hl 3 rfl) ?_
      refine lv_aload_n C.1.1 C.1.2.1 dX2_select_5 rfl (lv_at hl 0 rfl) ?_
      refine mr_getI C hw kc_2 8 (Ch_N0 hk0) (Ch_T0 hk0) wd_460 dX2_select_6 (by decide) rfl ?_
      refine lv_icmp_gt (tgt := 53) C.1.1 C.1.2.1 dX2_select_9 (by decide) (fun c1 => ?_) (fun c1 => ?_)
      · replace hD := g_pos c1 hD
        refine lv_iload_n C.1.1 C.1.2.1 dX2_select_53 rfl (lv_at hl 2 rfl) ?_
        refine lv_if_ne (tgt := 59) C.1.1 C.1.2.1 dX2_select_54 (by decide) (fun c2 => ?_) (fun c2 => ?_)
        · replace hD := g_neg c2 hD
          refine lv_iconst (v := 1) C.1.1 C.1.2.1 dX2_select_59 (by decide) ?_
          refine lv_istore_n (lv' := [(3, .int 1), (0, .ref (ad k)), (1, .int a1), (2, .int v2)]) C.1.1 C.1.2.1 dX2_select_60 rfl hl (by decide) rfl (fun ls hl => ?_)
          exact hh61 fu v2 1 M L _ _ ls hD hw (lv_sub hl [1, 3, 0] rfl)
        · replace hD := g_pos c2 hD
          refine lv_iconst (v := 0) C.1.1 C.1.2.1 dX2_select_57 (by decide) ?_
          exact mr_iret C hr hlocks hw rfl (Option.some.inj hD) dX2_select_58
      · replace hD := g_neg c1 hD
        refine lv_aload_n C.1.1 C.1.2.1 dX2_select_12 rfl (lv_at hl 0 rfl) ?_
        refine mr_getR C hw kc_2 1 (Ch_N0 hk0) (Ch_T0 hk0) (Ch_F0_1 hk0) wd_445 dX2_select_13 (by decide) rfl ?_
        refine lv_iconst (v := 2) C.1.1 C.1.2.1 dX2_select_16 (by decide) ?_
        refine mr_aald C hw (Ch_N20 hk0) (Ch_T20 hk0) (by decide) (by decide) rfl rfl (show vp_in 2 7 from by unfold vp_in; decide) (Ch_R20 hk0 _ (by decide : 2 < 7)).1 dX2_select_17 ?_
        refine lv_iload_n C.1.1 C.1.2.1 dX2_select_18 rfl (lv_at hl 3 rfl) ?_
        obtain ⟨q4, hD⟩ := g_ck hD
        refine mr_iald C hw (Ch_N23 hk0) (Ch_T23 hk0) q4 dX2_select_19 ?_
        refine lv_iload_n C.1.1 C.1.2.1 dX2_select_20 rfl (lv_at hl 1 rfl) ?_
        refine lv_icmp_ne (tgt := 47) C.1.1 C.1.2.1 dX2_select_21 (by decide) (fun c5 => ?_) (fun c5 => ?_)
        · replace hD := g_neg c5 hD
          exact hb47 v2 v3 M L _ _ ls hD hw (lv_sub hl [0, 1, 2, 3] rfl)
        · replace hD := g_pos c5 hD
          refine lv_aload_n C.1.1 C.1.2.1 dX2_select_24 rfl (lv_at hl 0 rfl) ?_
          refine lv_iload_n C.1.1 C.1.2.1 dX2_select_25 rfl (lv_at hl 3 rfl) ?_
          obtain ⟨r8, M6, L7, h1, hD⟩ := g_b3 hD
          refine md_cvI (As := [.int v3]) (rest := []) C hw (tX2_mayGo l G ad fu k v3 M L h1 hk0) kc_2 (Ch_N0 hk0) (Ch_T0 hk0) wd_1683 cwX2_mayGo ⟨Nat.le_of_ble_eq_true rfl, Nat.le_of_ble_eq_true rfl⟩ rfl hl.1 (Nat.le_of_ble_eq_true rfl) dX2_select_26 rfl rfl ⟨Nat.zero_le _, Nat.zero_le _⟩ rfl (fun H locs hw => ?_)
          refine lv_if_eq (tgt := 47) C.1.1 C.1.2.1 dX2_select_29 (by decide) (fun c9 => ?_) (fun c9 => ?_)
          · replace hD := g_pos c9 hD
            exact hb47 v2 v3 M6 L7 _ _ ls hD hw (lv_sub hl [0, 1, 2, 3] rfl)
          · replace hD := g_neg c9 hD
            refine lv_aload_n C.1.1 C.1.2.1 dX2_select_32 rfl (lv_at hl 0 rfl) ?_
            refine lv_iload_n C.1.1 C.1.2.1 dX2_select_33 rfl (lv_at hl 3 rfl) ?_
            obtain ⟨r12, M10, L11, h1, hD⟩ := g_b3 hD
            refine md_cvI (As := [.int v3]) (rest := []) C hw (tX2_holds l G ad fu k v3 M6 L7 h1 hk0) kc_2 (Ch_N0 hk0) (Ch_T0 hk0) wd_1691 cwX2_holds ⟨Nat.le_of_ble_eq_true rfl, Nat.le_of_ble_eq_true rfl⟩ rfl hl.1 (Nat.le_of_ble_eq_true rfl) dX2_select_34 rfl rfl ⟨Nat.zero_le _, Nat.zero_le _⟩ rfl (fun H locs hw => ?_)
            refine lv_if_eq (tgt := 47) C.1.1 C.1.2.1 dX2_select_37 (by decide) (fun c13 => ?_) (fun c13 => ?_)
            · replace hD := g_pos c13 hD
              exact hb47 v2 v3 M10 L11 _ _ ls hD hw (lv_sub hl [0, 1, 2, 3] rfl)
            · replace hD := g_neg c13 hD
              refine lv_aload_n C.1.1 C.1.2.1 dX2_select_40 rfl (lv_at hl 0 rfl) ?_
              refine lv_iload_n C.1.1 C.1.2.1 dX2_select_41 rfl (lv_at hl 3 rfl) ?_
              refine lv_iload_n C.1.1 C.1.2.1 dX2_select_42 rfl (lv_at hl 2 rfl) ?_
              obtain ⟨r16, M14, L15, h1, hD⟩ := g_b3 hD
              refine md_cvI (As := [.int v3, .int v2]) (rest := []) C hw (tX2_putReady l G ad fu k v3 v2 M10 L11 h1 hk0) kc_2 (Ch_N0 hk0) (Ch_T0 hk0) wd_1699 cwX2_putReady ⟨Nat.le_of_ble_eq_true rfl, Nat.le_of_ble_eq_true rfl⟩ rfl hl.1 (Nat.le_of_ble_eq_true rfl) dX2_select_43 rfl rfl ⟨Nat.zero_le _, Nat.zero_le _⟩ rfl (fun H locs hw => ?_)
              refine lv_istore_n (lv' := [(2, .int r16), (0, .ref (ad k)), (1, .int a1), (3, .int v3)]) C.1.1 C.1.2.1 dX2_select_46 rfl hl (by decide) rfl (fun ls hl => ?_)
              exact hb47 r16 v3 M14 L15 _ _ ls hD hw (lv_sub hl [1, 2, 0, 3] rfl)
  unfold DX2_select at hD
  refine lv_iconst (v := 0) C.1.1 C.1.2.1 dX2_select_0 (by decide) ?_
  refine lv_istore_n (lv' := [(2, .int 0), (0, .ref (ad k)), (1, .int a1)]) C.1.1 C.1.2.1 dX2_select_1 rfl hl (by decide) rfl (fun ls hl => ?_)
  refine lv_iconst (v := 1) C.1.1 C.1.2.1 dX2_select_2 (by decide) ?_
  refine lv_istore_n (lv' := [(3, .int 1), (2, .int 0), (0, .ref (ad k)), (1, .int a1)]) C.1.1 C.1.2.1 dX2_select_3 rfl hl (by decide) rfl (fun ls hl => ?_)
  exact hh4 fu 0 1 M L _ _ ls hD hw (lv_sub hl [2, 3, 1, 0] rfl)

theorem dX2_leaveAll_0 : decode cX2_leaveAll 0 = .ok (.aload_n 0, 1) := by decide +kernel
theorem dX2_leaveAll_1 : decode cX2_leaveAll 1 = .ok (.iload_n 1, 1) := by decide +kernel
theorem dX2_leaveAll_2 : decode cX2_leaveAll 2 = .ok (.invokevirtual 136, 3) := by decide +kernel
theorem dX2_leaveAll_5 : decode cX2_leaveAll 5 = .ok (.iconst 1, 1) := by decide +kernel
theorem dX2_leaveAll_6 : decode cX2_leaveAll 6 = .ok (.istore_n 2, 1) := by decide +kernel
theorem dX2_leaveAll_7 : decode cX2_leaveAll 7 = .ok (.iload_n 2, 1) := by decide +kernel
theorem dX2_leaveAll_8 : decode cX2_leaveAll 8 = .ok (.aload_n 0, 1) := by decide +kernel
theorem dX2_leaveAll_9 : decode cX2_leaveAll 9 = .ok (.getfield 37, 3) := by decide +kernel
theorem dX2_leaveAll_12 : decode cX2_leaveAll 12 = .ok (.if_icmp .gt 99, 3) := by decide +kernel
theorem dX2_leaveAll_15 : decode cX2_leaveAll 15 = .ok (.aload_n 0, 1) := by decide +kernel
theorem dX2_leaveAll_16 : decode cX2_leaveAll 16 = .ok (.getfield 13, 3) := by decide +kernel
theorem dX2_leaveAll_19 : decode cX2_leaveAll 19 = .ok (.bipush 17, 2) := by decide +kernel
theorem dX2_leaveAll_21 : decode cX2_leaveAll 21 = .ok (.aaload, 1) := by decide +kernel
theorem dX2_leaveAll_22 : decode cX2_leaveAll 22 = .ok (.iload_n 2, 1) := by decide +kernel
theorem dX2_leaveAll_23 : decode cX2_leaveAll 23 = .ok (.iaload, 1) := by decide +kernel
theorem dX2_leaveAll_24 : decode cX2_leaveAll 24 = .ok (.istore_n 3, 1) := by decide +kernel
theorem dX2_leaveAll_25 : decode cX2_leaveAll 25 = .ok (.aload_n 0, 1) := by decide +kernel
theorem dX2_leaveAll_26 : decode cX2_leaveAll 26 = .ok (.getfield 13, 3) := by decide +kernel
theorem dX2_leaveAll_29 : decode cX2_leaveAll 29 = .ok (.bipush 14, 2) := by decide +kernel
theorem dX2_leaveAll_31 : decode cX2_leaveAll 31 = .ok (.aaload, 1) := by decide +kernel
theorem dX2_leaveAll_32 : decode cX2_leaveAll 32 = .ok (.iload_n 3, 1) := by decide +kernel
theorem dX2_leaveAll_33 : decode cX2_leaveAll 33 = .ok (.iaload, 1) := by decide +kernel
theorem dX2_leaveAll_34 : decode cX2_leaveAll 34 = .ok (.iconst 1, 1) := by decide +kernel
theorem dX2_leaveAll_35 : decode cX2_leaveAll 35 = .ok (.if_icmp .ne 70, 3) := by decide +kernel
theorem dX2_leaveAll_38 : decode cX2_leaveAll 38 = .ok (.aload_n 0, 1) := by decide +kernel
theorem dX2_leaveAll_39 : decode cX2_leaveAll 39 = .ok (.getfield 13, 3) := by decide +kernel
theorem dX2_leaveAll_42 : decode cX2_leaveAll 42 = .ok (.iconst 5, 1) := by decide +kernel
theorem dX2_leaveAll_43 : decode cX2_leaveAll 43 = .ok (.aaload, 1) := by decide +kernel
theorem dX2_leaveAll_44 : decode cX2_leaveAll 44 = .ok (.iload_n 3, 1) := by decide +kernel
theorem dX2_leaveAll_45 : decode cX2_leaveAll 45 = .ok (.iaload, 1) := by decide +kernel
theorem dX2_leaveAll_46 : decode cX2_leaveAll 46 = .ok (.iconst 1, 1) := by decide +kernel
theorem dX2_leaveAll_47 : decode cX2_leaveAll 47 = .ok (.if_icmp .ne 58, 3) := by decide +kernel
theorem dX2_leaveAll_50 : decode cX2_leaveAll 50 = .ok (.aload_n 0, 1) := by decide +kernel
theorem dX2_leaveAll_51 : decode cX2_leaveAll 51 = .ok (.getfield 13, 3) := by decide +kernel
theorem dX2_leaveAll_54 : decode cX2_leaveAll 54 = .ok (.bipush 6, 2) := by decide +kernel
theorem dX2_leaveAll_56 : decode cX2_leaveAll 56 = .ok (.aaload, 1) := by decide +kernel
theorem dX2_leaveAll_57 : decode cX2_leaveAll 57 = .ok (.iload_n 3, 1) := by decide +kernel
theorem dX2_leaveAll_58 : decode cX2_leaveAll 58 = .ok (.iaload, 1) := by decide +kernel
theorem dX2_leaveAll_59 : decode cX2_leaveAll 59 = .ok (.ifCond .eq 21, 3) := by decide +kernel
theorem dX2_leaveAll_62 : decode cX2_leaveAll 62 = .ok (.aload_n 0, 1) := by decide +kernel
theorem dX2_leaveAll_63 : decode cX2_leaveAll 63 = .ok (.getfield 13, 3) := by decide +kernel
theorem dX2_leaveAll_66 : decode cX2_leaveAll 66 = .ok (.bipush 7, 2) := by decide +kernel
theorem dX2_leaveAll_68 : decode cX2_leaveAll 68 = .ok (.aaload, 1) := by decide +kernel
theorem dX2_leaveAll_69 : decode cX2_leaveAll 69 = .ok (.iload_n 3, 1) := by decide +kernel
theorem dX2_leaveAll_70 : decode cX2_leaveAll 70 = .ok (.aload_n 0, 1) := by decide +kernel
theorem dX2_leaveAll_71 : decode cX2_leaveAll 71 = .ok (.getfield 13, 3) := by decide +kernel
theorem dX2_leaveAll_74 : decode cX2_leaveAll 74 = .ok (.bipush 6, 2) := by decide +kernel
theorem dX2_leaveAll_76 : decode cX2_leaveAll 76 = .ok (.aaload, 1) := by decide +kernel
theorem dX2_leaveAll_77 : decode cX2_leaveAll 77 = .ok (.iload_n 3, 1) := by decide +kernel
theorem dX2_leaveAll_78 : decode cX2_leaveAll 78 = .ok (.iaload, 1) := by decide +kernel
theorem dX2_leaveAll_79 : decode cX2_leaveAll 79 = .ok (.iastore, 1) := by decide +kernel
theorem dX2_leaveAll_80 : decode cX2_leaveAll 80 = .ok (.aload_n 0, 1) := by decide +kernel
theorem dX2_leaveAll_81 : decode cX2_leaveAll 81 = .ok (.getfield 13, 3) := by decide +kernel
theorem dX2_leaveAll_84 : decode cX2_leaveAll 84 = .ok (.bipush 6, 2) := by decide +kernel
theorem dX2_leaveAll_86 : decode cX2_leaveAll 86 = .ok (.aaload, 1) := by decide +kernel
theorem dX2_leaveAll_87 : decode cX2_leaveAll 87 = .ok (.iload_n 3, 1) := by decide +kernel
theorem dX2_leaveAll_88 : decode cX2_leaveAll 88 = .ok (.iconst 0, 1) := by decide +kernel
theorem dX2_leaveAll_89 : decode cX2_leaveAll 89 = .ok (.iastore, 1) := by decide +kernel
theorem dX2_leaveAll_90 : decode cX2_leaveAll 90 = .ok (.aload_n 0, 1) := by decide +kernel
theorem dX2_leaveAll_91 : decode cX2_leaveAll 91 = .ok (.getfield 13, 3) := by decide +kernel
theorem dX2_leaveAll_94 : decode cX2_leaveAll 94 = .ok (.iconst 5, 1) := by decide +kernel
theorem dX2_leaveAll_95 : decode cX2_leaveAll 95 = .ok (.aaload, 1) := by decide +kernel
theorem dX2_leaveAll_96 : decode cX2_leaveAll 96 = .ok (.iload_n 3, 1) := by decide +kernel
theorem dX2_leaveAll_97 : decode cX2_leaveAll 97 = .ok (.iconst 0, 1) := by decide +kernel
theorem dX2_leaveAll_98 : decode cX2_leaveAll 98 = .ok (.iastore, 1) := by decide +kernel
theorem dX2_leaveAll_99 : decode cX2_leaveAll 99 = .ok (.aload_n 0, 1) := by decide +kernel
theorem dX2_leaveAll_100 : decode cX2_leaveAll 100 = .ok (.iconst 1, 1) := by decide +kernel
theorem dX2_leaveAll_101 : decode cX2_leaveAll 101 = .ok (.iload_n 3, 1) := by decide +kernel
theorem dX2_leaveAll_102 : decode cX2_leaveAll 102 = .ok (.invokevirtual 142, 3) := by decide +kernel
theorem dX2_leaveAll_105 : decode cX2_leaveAll 105 = .ok (.iinc 2 1, 3) := by decide +kernel
theorem dX2_leaveAll_108 : decode cX2_leaveAll 108 = .ok (.goto (-101), 3) := by decide +kernel
theorem dX2_leaveAll_111 : decode cX2_leaveAll 111 = .ok (.return_, 1) := by decide +kernel
theorem cwX2_leaveAll : mw_cwV yX2_leaveAll cX2_leaveAll 4 (none) 1 := ⟨⟨wd_12, wd_1718, by decide +kernel⟩, wd_1717, sl_132⟩
set_option maxHeartbeats 4000000 in
set_option maxRecDepth 100000 in
theorem tX2_leaveAll (l : Launch) (G : mwG) (ad : Nat → Nat) (fu : Nat) (k : Nat) (a1 : Int32) (M : mwM) (L : mwL) {M0 : mwM} {L0 : mwL} (hD : DX2_leaveAll fu k a1 M L = some (M0, L0)) (hk0 : isCh k) : Met l yX2_leaveAll (Cond.code yX2_leaveAll cX2_leaveAll 4 (none) :: GT) ({ frames := 1, cells := 0, slots := 0, locals := 24 }) (mw_Pre G ad NF TF FF M L [.ref (ad k), .int a1]) (mw_Qv G ad NF TF FF (mw_eqV M0 L0)) 0 0 (mw_fr G) := by
  refine mw_enter (by decide) (Nat.le_of_ble_eq_true rfl) ?_
  intro p e s m below meth c ls C hr hlocks hnm hw hl
  have hl : lv_has ls 4 [(0, .ref (ad k)), (1, .int a1)] := hl
  have hh7 : ∀ (f : Nat) (v2 : Int32) (M : mwM) (L : mwL) (H : Heap) (locs : List Loc) (ls : Array Slot), fX2_leaveAll_h7 fu k a1 f (v2, M, L) = some (M0, L0) → mw_W G ad NF TF FF M L H locs → lv_has ls 4 [(0, .ref (ad k)), (2, .int v2)] → W p l e ({ frames := 1, cells := 0, slots := 0, locals := 24 }) s m [.ref (ad k), .int a1].toArray below meth c H locs 0 0 (MQ below (mw_Qv G ad NF TF FF (mw_eqV M0 L0)) [.ref (ad k), .int a1].toArray s 0 0 (mw_fr G)) (F0 m 7 ls []) := by
    intro f
    induction f with
    | zero => intro v2 M L H locs ls hD; cases hD
    | succ f7 ih7 =>
      intro v2 M L H locs ls hD hw hl
      replace hD : fX2_leaveAll_i7 fu k a1 (fX2_leaveAll_h7 fu k a1 f7) v2 M L = some (M0, L0) := hD
      have hb105 : ∀ (v2 : Int32) (M : mwM) (L : mwL) (H : Heap) (locs : List Loc) (ls : Array Slot), fX2_leaveAll_b105 fu k a1 (fX2_leaveAll_h7 fu k a1 f7) v2 M L = some (M0, L0) → mw_W G ad NF TF FF M L H locs → lv_has ls 4 [(0, .ref (ad k)), (2, .int v2)] → W p l e ({ frames := 1, cells := 0, slots := 0, locals := 24 }) s m [.ref (ad k), .int a1].toArray below meth c H locs 0 0 (MQ below (mw_Qv G ad NF TF FF (mw_eqV M0 L0)) [.ref (ad k), .int a1].toArray s 0 0 (mw_fr G)) (F0 m 105 ls []) := by
        intro v2 M L H locs ls hD hw hl
        unfold fX2_leaveAll_b105 at hD
        obtain ⟨x27, ex27, hD⟩ := g_let hD
        refine lv_iinc (v := x27) (lv' := [(2, .int x27), (0, .ref (ad k))]) C.1.1 C.1.2.1 dX2_leaveAll_105 hl (k := 1) rfl (by rw [ex27]; rfl) (by decide) rfl (fun ls hl => ?_)
        refine lv_goto (tgt := 7) C.1.1 C.1.2.1 dX2_leaveAll_108 (by decide) ?_
        exact ih7 x27 M L _ _ ls hD hw (lv_sub hl [1, 0] rfl)
      have hb80 : ∀ (v2 : Int32) (v3 : Int32) (M : mwM) (L : mwL) (H : Heap) (locs : List Loc) (ls : Array Slot), fX2_leaveAll_b80 fu k a1 (fX2_leaveAll_h7 fu k a1 f7) v2 v3 M L = some (M0, L0) → mw_W G ad NF TF FF M L H locs → lv_has ls 4 [(0, .ref (ad k)), (2, .int v2), (3, .int v3)] → W p l e ({ frames := 1, cells := 0, slots := 0, locals := 24 }) s m [.ref (ad k), .int a1].toArray below meth c H locs 0 0 (MQ below (mw_Qv G ad NF TF FF (mw_eqV M0 L0)) [.ref (ad k), .int a1].toArray s 0 0 (mw_fr G)) (F0 m 80 ls []) := by
        intro v2 v3 M L H locs ls hD hw hl
        unfold fX2_leaveAll_b80 at hD
        refine lv_aload_n C.1.1 C.1.2.1 dX2_leaveAll_80 rfl (lv_at hl 0 rfl) ?_
        refine mr_getR C hw kc_2 0 (Ch_N0 hk0) (Ch_T0 hk0) (Ch_F0_0 hk0) wd_444 dX2_leaveAll_81 (by decide) rfl ?_
        refine lv_bipush (v := 6) C.1.1 C.1.2.1 dX2_leaveAll_84 (by decide) ?_
        refine mr_aald C hw (Ch_N1 hk0) (Ch_T1 hk0) (by decide) (by decide) rfl rfl (show vp_in 6 18 from by unfold vp_in; decide) (Ch_R1 hk0 _ (by decide : 6 < 18)).1 dX2_leaveAll_86 ?_
        refine lv_iload_n C.1.1 C.1.2.1 dX2_leaveAll_87 rfl (lv_at hl 2 rfl) ?_
        refine lv_iconst (v := 0) C.1.1 C.1.2.1 dX2_leaveAll_88 (by decide) ?_
        obtain ⟨q20, hD⟩ := g_ck hD
        obtain ⟨M21, eM21, hD⟩ := g_let hD
        refine mr_iast C hw (Ch_N8 hk0) (Ch_T8 hk0) q20 dX2_leaveAll_89 (fun H locs hw => ?_)
        replace hw : mw_W G ad NF TF FF M21 L H locs := by rw [eM21]; exact hw
        refine lv_aload_n C.1.1 C.1.2.1 dX2_leaveAll_90 rfl (lv_at hl 0 rfl) ?_
        refine mr_getR C hw kc_2 0 (Ch_N0 hk0) (Ch_T0 hk0) (Ch_F0_0 hk0) wd_444 dX2_leaveAll_91 (by decide) rfl ?_
        refine lv_iconst (v := 5) C.1.1 C.1.2.1 dX2_leaveAll_94 (by decide) ?_
        refine mr_aald C hw (Ch_N1 hk0) (Ch_T1 hk0) (by decide) (by decide) rfl rfl (show vp_in 5 18 from by unfold vp_in; decide) (Ch_R1 hk0 _ (by decide : 5 < 18)).1 dX2_leaveAll_95 ?_
        refine lv_iload_n C.1.1 C.1.2.1 dX2_leaveAll_96 rfl (lv_at hl 2 rfl) ?_
        refine lv_iconst (v := 0) C.1.1 C.1.2.1 dX2_leaveAll_97 (by decide) ?_
        obtain ⟨q23, hD⟩ := g_ck hD
        obtain ⟨M24, eM24, hD⟩ := g_let hD
        refine mr_iast C hw (Ch_N7 hk0) (Ch_T7 hk0) q23 dX2_leaveAll_98 (fun H locs hw => ?_)
        replace hw : mw_W G ad NF TF FF M24 L H locs := by rw [eM24]; exact hw
        refine lv_aload_n C.1.1 C.1.2.1 dX2_leaveAll_99 rfl (lv_at hl 0 rfl) ?_
        refine lv_iconst (v := 1) C.1.1 C.1.2.1 dX2_leaveAll_100 (by decide) ?_
        refine lv_iload_n C.1.1 C.1.2.1 dX2_leaveAll_101 rfl (lv_at hl 2 rfl) ?_
        obtain ⟨M25, L26, h1, hD⟩ := g_b2 hD
        refine md_cvV (As := [.int 1, .int v3]) (rest := []) C hw (tX2_doActs l G ad fu k 1 v3 M24 L h1 hk0) kc_2 (Ch_N0 hk0) (Ch_T0 hk0) wd_1671 cwX2_doActs ⟨Nat.le_of_ble_eq_true rfl, Nat.le_of_ble_eq_true rfl⟩ rfl hl.1 (Nat.le_of_ble_eq_true rfl) dX2_leaveAll_102 rfl rfl ⟨Nat.zero_le _, Nat.zero_le _⟩ rfl (fun H locs hw => ?_)
        exact hb105 v2 M25 L26 _ _ ls hD hw (lv_sub hl [0, 1] rfl)
      unfold fX2_leaveAll_i7 at hD
      refine lv_iload_n C.1.1 C.1.2.1 dX2_leaveAll_7 rfl (lv_at hl 1 rfl) ?_
      refine lv_aload_n C.1.1 C.1.2.1 dX2_leaveAll_8 rfl (lv_at hl 0 rfl) ?_
      refine mr_getI C hw kc_2 7 (Ch_N0 hk0) (Ch_T0 hk0) wd_458 dX2_leaveAll_9 (by decide) rfl ?_
      refine lv_icmp_gt (tgt := 111) C.1.1 C.1.2.1 dX2_leaveAll_12 (by decide) (fun c1 => ?_) (fun c1 => ?_)
      · replace hD := g_pos c1 hD
        exact mr_vret C hr hlocks hw (Option.some.inj hD) dX2_leaveAll_111
      · replace hD := g_neg c1 hD
        refine lv_aload_n C.1.1 C.1.2.1 dX2_leaveAll_15 rfl (lv_at hl 0 rfl) ?_
        refine mr_getR C hw kc_2 0 (Ch_N0 hk0) (Ch_T0 hk0) (Ch_F0_0 hk0) wd_444 dX2_leaveAll_16 (by decide) rfl ?_
        refine lv_bipush (v := 17) C.1.1 C.1.2.1 dX2_leaveAll_19 (by decide) ?_
        refine mr_aald C hw (Ch_N1 hk0) (Ch_T1 hk0) (by decide) (by decide) rfl rfl (show vp_in 17 18 from by unfold vp_in; decide) (Ch_R1 hk0 _ (by decide : 17 < 18)).1 dX2_leaveAll_21 ?_
        refine lv_iload_n C.1.1 C.1.2.1 dX2_leaveAll_22 rfl (lv_at hl 1 rfl) ?_
        obtain ⟨q3, hD⟩ := g_ck hD
        refine mr_iald C hw (Ch_N19 hk0) (Ch_T19 hk0) q3 dX2_leaveAll_23 ?_
        obtain ⟨x4, ex4, hD⟩ := g_let hD
        refine W.eq (g2 := F0 m 24 ls (.int x4 :: [])) (by rw [ex4]) ?_
        refine lv_istore_n (lv' := [(3, .int x4), (0, .ref (ad k)), (2, .int v2)]) C.1.1 C.1.2.1 dX2_leaveAll_24 rfl hl (by decide) rfl (fun ls hl => ?_)
        refine lv_aload_n C.1.1 C.1.2.1 dX2_leaveAll_25 rfl (lv_at hl 1 rfl) ?_
        refine mr_getR C hw kc_2 0 (Ch_N0 hk0) (Ch_T0 hk0) (Ch_F0_0 hk0) wd_444 dX2_leaveAll_26 (by decide) rfl ?_
        refine lv_bipush (v := 14) C.1.1 C.1.2.1 dX2_leaveAll_29 (by decide) ?_
        refine mr_aald C hw (Ch_N1 hk0) (Ch_T1 hk0) (by decide) (by decide) rfl rfl (show vp_in 14 18 from by unfold vp_in; decide) (Ch_R1 hk0 _ (by decide : 14 < 18)).1 dX2_leaveAll_31 ?_
        refine lv_iload_n C.1.1 C.1.2.1 dX2_leaveAll_32 rfl (lv_at hl 0 rfl) ?_
        obtain ⟨q6, hD⟩ := g_ck hD
        refine mr_iald C hw (Ch_N16 hk0) (Ch_T16 hk0) q6 dX2_leaveAll_33 ?_
        refine lv_iconst (v := 1) C.1.1 C.1.2.1 dX2_leaveAll_34 (by decide) ?_
        refine lv_icmp_ne (tgt := 105) C.1.1 C.1.2.1 dX2_leaveAll_35 (by decide) (fun c7 => ?_) (fun c7 => ?_)
        · replace hD := g_neg c7 hD
          exact hb105 v2 M L _ _ ls hD hw (lv_sub hl [1, 2] rfl)
        · replace hD := g_pos c7 hD
          refine lv_aload_n C.1.1 C.1.2.1 dX2_leaveAll_38 rfl (lv_at hl 1 rfl) ?_
          refine mr_getR C hw kc_2 0 (Ch_N0 hk0) (Ch_T0 hk0) (Ch_F0_0 hk0) wd_444 dX2_leaveAll_39 (by decide) rfl ?_
          refine lv_iconst (v := 5) C.1.1 C.1.2.1 dX2_leaveAll_42 (by decide) ?_
          refine mr_aald C hw (Ch_N1 hk0) (Ch_T1 hk0) (by decide) (by decide) rfl rfl (show vp_in 5 18 from by unfold vp_in; decide) (Ch_R1 hk0 _ (by decide : 5 < 18)).1 dX2_leaveAll_43 ?_
          refine lv_iload_n C.1.1 C.1.2.1 dX2_leaveAll_44 rfl (lv_at hl 0 rfl) ?_
          obtain ⟨q9, hD⟩ := g_ck hD
          refine mr_iald C hw (Ch_N7 hk0) (Ch_T7 hk0) q9 dX2_leaveAll_45 ?_
          refine lv_iconst (v := 1) C.1.1 C.1.2.1 dX2_leaveAll_46 (by decide) ?_
          refine lv_icmp_ne (tgt := 105) C.1.1 C.1.2.1 dX2_leaveAll_47 (by decide) (fun c10 => ?_) (fun c10 => ?_)
          · replace hD := g_neg c10 hD
            exact hb105 v2 M L _ _ ls hD hw (lv_sub hl [1, 2] rfl)
          · replace hD := g_pos c10 hD
            refine lv_aload_n C.1.1 C.1.2.1 dX2_leaveAll_50 rfl (lv_at hl 1 rfl) ?_
            refine mr_getR C hw kc_2 0 (Ch_N0 hk0) (Ch_T0 hk0) (Ch_F0_0 hk0) wd_444 dX2_leaveAll_51 (by decide) rfl ?_
            refine lv_bipush (v := 6) C.1.1 C.1.2.1 dX2_leaveAll_54 (by decide) ?_
            refine mr_aald C hw (Ch_N1 hk0) (Ch_T1 hk0) (by decide) (by decide) rfl rfl (show vp_in 6 18 from by unfold vp_in; decide) (Ch_R1 hk0 _ (by decide : 6 < 18)).1 dX2_leaveAll_56 ?_
            refine lv_iload_n C.1.1 C.1.2.1 dX2_leaveAll_57 rfl (lv_at hl 0 rfl) ?_
            obtain ⟨q12, hD⟩ := g_ck hD
            refine mr_iald C hw (Ch_N8 hk0) (Ch_T8 hk0) q12 dX2_leaveAll_58 ?_
            refine lv_if_eq (tgt := 80) C.1.1 C.1.2.1 dX2_leaveAll_59 (by decide) (fun c13 => ?_) (fun c13 => ?_)
            · replace hD := g_pos c13 hD
              exact hb80 v2 x4 M L _ _ ls hD hw (lv_sub hl [1, 2, 0] rfl)
            · replace hD := g_neg c13 hD
              refine lv_aload_n C.1.1 C.1.2.1 dX2_leaveAll_62 rfl (lv_at hl 1 rfl) ?_
              refine mr_getR C hw kc_2 0 (Ch_N0 hk0) (Ch_T0 hk0) (Ch_F0_0 hk0) wd_444 dX2_leaveAll_63 (by decide) rfl ?_
              refine lv_bipush (v := 7) C.1.1 C.1.2.1 dX2_leaveAll_66 (by decide) ?_
              refine mr_aald C hw (Ch_N1 hk0) (Ch_T1 hk0) (by decide) (by decide) rfl rfl (show vp_in 7 18 from by unfold vp_in; decide) (Ch_R1 hk0 _ (by decide : 7 < 18)).1 dX2_leaveAll_68 ?_
              refine lv_iload_n C.1.1 C.1.2.1 dX2_leaveAll_69 rfl (lv_at hl 0 rfl) ?_
              refine lv_aload_n C.1.1 C.1.2.1 dX2_leaveAll_70 rfl (lv_at hl 1 rfl) ?_
              refine mr_getR C hw kc_2 0 (Ch_N0 hk0) (Ch_T0 hk0) (Ch_F0_0 hk0) wd_444 dX2_leaveAll_71 (by decide) rfl ?_
              refine lv_bipush (v := 6) C.1.1 C.1.2.1 dX2_leaveAll_74 (by decide) ?_
              refine mr_aald C hw (Ch_N1 hk0) (Ch_T1 hk0) (by decide) (by decide) rfl rfl (show vp_in 6 18 from by unfold vp_in; decide) (Ch_R1 hk0 _ (by decide : 6 < 18)).1 dX2_leaveAll_76 ?_
              refine lv_iload_n C.1.1 C.1.2.1 dX2_leaveAll_77 rfl (lv_at hl 0 rfl) ?_
              obtain ⟨q16, hD⟩ := g_ck hD
              refine mr_iald C hw (Ch_N8 hk0) (Ch_T8 hk0) q16 dX2_leaveAll_78 ?_
              obtain ⟨q17, hD⟩ := g_ck hD
              obtain ⟨M18, eM18, hD⟩ := g_let hD
              refine mr_iast C hw (Ch_N9 hk0) (Ch_T9 hk0) q17 dX2_leaveAll_79 (fun H locs hw => ?_)
              replace hw : mw_W G ad NF TF FF M18 L H locs := by rw [eM18]; exact hw
              exact hb80 v2 x4 M18 L _ _ ls hD hw (lv_sub hl [1, 2, 0] rfl)
  unfold DX2_leaveAll at hD
  refine lv_aload_n C.1.1 C.1.2.1 dX2_leaveAll_0 rfl (lv_at hl 0 rfl) ?_
  refine lv_iload_n C.1.1 C.1.2.1 dX2_leaveAll_1 rfl (lv_at hl 1 rfl) ?_
  obtain ⟨M28, L29, h1, hD⟩ := g_b2 hD
  refine md_cvV (As := [.int a1]) (rest := []) C hw (tX2_markInside l G ad fu k a1 M L h1 hk0) kc_2 (Ch_N0 hk0) (Ch_T0 hk0) wd_1707 cwX2_markInside ⟨Nat.le_of_ble_eq_true rfl, Nat.le_of_ble_eq_true rfl⟩ rfl hl.1 (Nat.le_of_ble_eq_true rfl) dX2_leaveAll_2 rfl rfl ⟨Nat.zero_le _, Nat.zero_le _⟩ rfl (fun H locs hw => ?_)
  refine lv_iconst (v := 1) C.1.1 C.1.2.1 dX2_leaveAll_5 (by decide) ?_
  refine lv_istore_n (lv' := [(2, .int 1), (0, .ref (ad k)), (1, .int a1)]) C.1.1 C.1.2.1 dX2_leaveAll_6 rfl hl (by decide) rfl (fun ls hl => ?_)
  exact hh7 fu 1 M28 L29 _ _ ls hD hw (lv_sub hl [1, 0] rfl)

theorem dX2_goOn_0 : decode cX2_goOn 0 = .ok (.iconst 0, 1) := by decide +kernel
theorem dX2_goOn_1 : decode cX2_goOn 1 = .ok (.istore_n 2, 1) := by decide +kernel
theorem dX2_goOn_2 : decode cX2_goOn 2 = .ok (.iload_n 2, 1) := by decide +kernel
theorem dX2_goOn_3 : decode cX2_goOn 3 = .ok (.iload_n 1, 1) := by decide +kernel
theorem dX2_goOn_4 : decode cX2_goOn 4 = .ok (.if_icmp .ge 66, 3) := by decide +kernel
theorem dX2_goOn_7 : decode cX2_goOn 7 = .ok (.aload_n 0, 1) := by decide +kernel
theorem dX2_goOn_8 : decode cX2_goOn 8 = .ok (.getfield 16, 3) := by decide +kernel
theorem dX2_goOn_11 : decode cX2_goOn 11 = .ok (.bipush 6, 2) := by decide +kernel
theorem dX2_goOn_13 : decode cX2_goOn 13 = .ok (.aaload, 1) := by decide +kernel
theorem dX2_goOn_14 : decode cX2_goOn 14 = .ok (.iload_n 2, 1) := by decide +kernel
theorem dX2_goOn_15 : decode cX2_goOn 15 = .ok (.iaload, 1) := by decide +kernel
theorem dX2_goOn_16 : decode cX2_goOn 16 = .ok (.istore_n 3, 1) := by decide +kernel
theorem dX2_goOn_17 : decode cX2_goOn 17 = .ok (.aload_n 0, 1) := by decide +kernel
theorem dX2_goOn_18 : decode cX2_goOn 18 = .ok (.getfield 16, 3) := by decide +kernel
theorem dX2_goOn_21 : decode cX2_goOn 21 = .ok (.iconst 4, 1) := by decide +kernel
theorem dX2_goOn_22 : decode cX2_goOn 22 = .ok (.aaload, 1) := by decide +kernel
theorem dX2_goOn_23 : decode cX2_goOn 23 = .ok (.iload_n 3, 1) := by decide +kernel
theorem dX2_goOn_24 : decode cX2_goOn 24 = .ok (.iaload, 1) := by decide +kernel
theorem dX2_goOn_25 : decode cX2_goOn 25 = .ok (.istore 4, 2) := by decide +kernel
theorem dX2_goOn_27 : decode cX2_goOn 27 = .ok (.aload_n 0, 1) := by decide +kernel
theorem dX2_goOn_28 : decode cX2_goOn 28 = .ok (.getfield 16, 3) := by decide +kernel
theorem dX2_goOn_31 : decode cX2_goOn 31 = .ok (.iconst 5, 1) := by decide +kernel
theorem dX2_goOn_32 : decode cX2_goOn 32 = .ok (.aaload, 1) := by decide +kernel
theorem dX2_goOn_33 : decode cX2_goOn 33 = .ok (.iload_n 3, 1) := by decide +kernel
theorem dX2_goOn_34 : decode cX2_goOn 34 = .ok (.dup2, 1) := by decide +kernel
theorem dX2_goOn_35 : decode cX2_goOn 35 = .ok (.iaload, 1) := by decide +kernel
theorem dX2_goOn_36 : decode cX2_goOn 36 = .ok (.iconst 1, 1) := by decide +kernel
theorem dX2_goOn_37 : decode cX2_goOn 37 = .ok (.ior, 1) := by decide +kernel
theorem dX2_goOn_38 : decode cX2_goOn 38 = .ok (.iastore, 1) := by decide +kernel
theorem dX2_goOn_39 : decode cX2_goOn 39 = .ok (.aload_n 0, 1) := by decide +kernel
theorem dX2_goOn_40 : decode cX2_goOn 40 = .ok (.iload 4, 2) := by decide +kernel
theorem dX2_goOn_42 : decode cX2_goOn 42 = .ok (.invokevirtual 139, 3) := by decide +kernel
theorem dX2_goOn_45 : decode cX2_goOn 45 = .ok (.aload_n 0, 1) := by decide +kernel
theorem dX2_goOn_46 : decode cX2_goOn 46 = .ok (.iconst 2, 1) := by decide +kernel
theorem dX2_goOn_47 : decode cX2_goOn 47 = .ok (.iload_n 3, 1) := by decide +kernel
theorem dX2_goOn_48 : decode cX2_goOn 48 = .ok (.invokevirtual 142, 3) := by decide +kernel
theorem dX2_goOn_51 : decode cX2_goOn 51 = .ok (.aload_n 0, 1) := by decide +kernel
theorem dX2_goOn_52 : decode cX2_goOn 52 = .ok (.iload_n 3, 1) := by decide +kernel
theorem dX2_goOn_53 : decode cX2_goOn 53 = .ok (.iload 4, 2) := by decide +kernel
theorem dX2_goOn_55 : decode cX2_goOn 55 = .ok (.invokevirtual 97, 3) := by decide +kernel
theorem dX2_goOn_58 : decode cX2_goOn 58 = .ok (.aload_n 0, 1) := by decide +kernel
theorem dX2_goOn_59 : decode cX2_goOn 59 = .ok (.iload 4, 2) := by decide +kernel
theorem dX2_goOn_61 : decode cX2_goOn 61 = .ok (.invokevirtual 100, 3) := by decide +kernel
theorem dX2_goOn_64 : decode cX2_goOn 64 = .ok (.iinc 2 1, 3) := by decide +kernel
theorem dX2_goOn_67 : decode cX2_goOn 67 = .ok (.goto (-65), 3) := by decide +kernel
theorem dX2_goOn_70 : decode cX2_goOn 70 = .ok (.return_, 1) := by decide +kernel
theorem cwX2_goOn : mw_cwV yX2_goOn cX2_goOn 5 (none) 1 := ⟨⟨wd_12, wd_1714, by decide +kernel⟩, wd_1713, sl_131⟩
set_option maxHeartbeats 4000000 in
set_option maxRecDepth 100000 in
theorem tX2_goOn (l : Launch) (G : mwG) (ad : Nat → Nat) (fu : Nat) (k : Nat) (a1 : Int32) (M : mwM) (L : mwL) {M0 : mwM} {L0 : mwL} (hD : DX2_goOn fu k a1 M L = some (M0, L0)) (hk0 : isCh k) : Met l yX2_goOn (Cond.code yX2_goOn cX2_goOn 5 (none) :: GT) ({ frames := 2, cells := 0, slots := 0, locals := 51 }) (mw_Pre G ad NF TF FF M L [.ref (ad k), .int a1]) (mw_Qv G ad NF TF FF (mw_eqV M0 L0)) 0 0 (mw_fr G) := by
  refine mw_enter (by decide) (Nat.le_of_ble_eq_true rfl) ?_
  intro p e s m below meth c ls C hr hlocks hnm hw hl
  have hl : lv_has ls 5 [(0, .ref (ad k)), (1, .int a1)] := hl
  have hh2 : ∀ (f : Nat) (v2 : Int32) (M : mwM) (L : mwL) (H : Heap) (locs : List Loc) (ls : Array Slot), fX2_goOn_h2 fu k a1 f (v2, M, L) = some (M0, L0) → mw_W G ad NF TF FF M L H locs → lv_has ls 5 [(0, .ref (ad k)), (1, .int a1), (2, .int v2)] → W p l e ({ frames := 2, cells := 0, slots := 0, locals := 51 }) s m [.ref (ad k), .int a1].toArray below meth c H locs 0 0 (MQ below (mw_Qv G ad NF TF FF (mw_eqV M0 L0)) [.ref (ad k), .int a1].toArray s 0 0 (mw_fr G)) (F0 m 2 ls []) := by
    intro f
    induction f with
    | zero => intro v2 M L H locs ls hD; cases hD
    | succ f2 ih2 =>
      intro v2 M L H locs ls hD hw hl
      replace hD : fX2_goOn_i2 fu k a1 (fX2_goOn_h2 fu k a1 f2) v2 M L = some (M0, L0) := hD
      unfold fX2_goOn_i2 at hD
      refine lv_iload_n C.1.1 C.1.2.1 dX2_goOn_2 rfl (lv_at hl 2 rfl) ?_
      refine lv_iload_n C.1.1 C.1.2.1 dX2_goOn_3 rfl (lv_at hl 1 rfl) ?_
      refine lv_icmp_ge (tgt := 70) C.1.1 C.1.2.1 dX2_goOn_4 (by decide) (fun c1 => ?_) (fun c1 => ?_)
      · replace hD := g_pos c1 hD
        exact mr_vret C hr hlocks hw (Option.some.inj hD) dX2_goOn_70
      · replace hD := g_neg c1 hD
        refine lv_aload_n C.1.1 C.1.2.1 dX2_goOn_7 rfl (lv_at hl 0 rfl) ?_
        refine mr_getR C hw kc_2 1 (Ch_N0 hk0) (Ch_T0 hk0) (Ch_F0_1 hk0) wd_445 dX2_goOn_8 (by decide) rfl ?_
        refine lv_bipush (v := 6) C.1.1 C.1.2.1 dX2_goOn_11 (by decide) ?_
        refine mr_aald C hw (Ch_N20 hk0) (Ch_T20 hk0) (by decide) (by decide) rfl rfl (show vp_in 6 7 from by unfold vp_in; decide) (Ch_R20 hk0 _ (by decide : 6 < 7)).1 dX2_goOn_13 ?_
        refine lv_iload_n C.1.1 C.1.2.1 dX2_goOn_14 rfl (lv_at hl 2 rfl) ?_
        obtain ⟨q3, hD⟩ := g_ck hD
        refine mr_iald C hw (Ch_N27 hk0) (Ch_T27 hk0) q3 dX2_goOn_15 ?_
        obtain ⟨x4, ex4, hD⟩ := g_let hD
        refine W.eq (g2 := F0 m 16 ls (.int x4 :: [])) (by rw [ex4]) ?_
        refine lv_istore_n (lv' := [(3, .int x4), (0, .ref (ad k)), (1, .int a1), (2, .int v2)]) C.1.1 C.1.2.1 dX2_goOn_16 rfl hl (by decide) rfl (fun ls hl => ?_)
        refine lv_aload_n C.1.1 C.1.2.1 dX2_goOn_17 rfl (lv_at hl 1 rfl) ?_
        refine mr_getR C hw kc_2 1 (Ch_N0 hk0) (Ch_T0 hk0) (Ch_F0_1 hk0) wd_445 dX2_goOn_18 (by decide) rfl ?_
        refine lv_iconst (v := 4) C.1.1 C.1.2.1 dX2_goOn_21 (by decide) ?_
        refine mr_aald C hw (Ch_N20 hk0) (Ch_T20 hk0) (by decide) (by decide) rfl rfl (show vp_in 4 7 from by unfold vp_in; decide) (Ch_R20 hk0 _ (by decide : 4 < 7)).1 dX2_goOn_22 ?_
        refine lv_iload_n C.1.1 C.1.2.1 dX2_goOn_23 rfl (lv_at hl 0 rfl) ?_
        obtain ⟨q6, hD⟩ := g_ck hD
        refine mr_iald C hw (Ch_N25 hk0) (Ch_T25 hk0) q6 dX2_goOn_24 ?_
        obtain ⟨x7, ex7, hD⟩ := g_let hD
        refine W.eq (g2 := F0 m 25 ls (.int x7 :: [])) (by rw [ex7]) ?_
        refine lv_istore (lv' := [(4, .int x7), (3, .int x4), (0, .ref (ad k)), (1, .int a1), (2, .int v2)]) C.1.1 C.1.2.1 dX2_goOn_25 hl (by decide) rfl (fun ls hl => ?_)
        refine lv_aload_n C.1.1 C.1.2.1 dX2_goOn_27 rfl (lv_at hl 2 rfl) ?_
        refine mr_getR C hw kc_2 1 (Ch_N0 hk0) (Ch_T0 hk0) (Ch_F0_1 hk0) wd_445 dX2_goOn_28 (by decide) rfl ?_
        refine lv_iconst (v := 5) C.1.1 C.1.2.1 dX2_goOn_31 (by decide) ?_
        refine mr_aald C hw (Ch_N20 hk0) (Ch_T20 hk0) (by decide) (by decide) rfl rfl (show vp_in 5 7 from by unfold vp_in; decide) (Ch_R20 hk0 _ (by decide : 5 < 7)).1 dX2_goOn_32 ?_
        refine lv_iload_n C.1.1 C.1.2.1 dX2_goOn_33 rfl (lv_at hl 1 rfl) ?_
        refine lv_dup2_11 C.1.1 C.1.2.1 dX2_goOn_34 rfl rfl ?_
        obtain ⟨q9, hD⟩ := g_ck hD
        refine mr_iald C hw (Ch_N26 hk0) (Ch_T26 hk0) q9 dX2_goOn_35 ?_
        refine lv_iconst (v := 1) C.1.1 C.1.2.1 dX2_goOn_36 (by decide) ?_
        refine lv_ior C.1.1 C.1.2.1 dX2_goOn_37 ?_
        obtain ⟨q10, hD⟩ := g_ck hD
        obtain ⟨M11, eM11, hD⟩ := g_let hD
        refine mr_iast C hw (Ch_N26 hk0) (Ch_T26 hk0) q10 dX2_goOn_38 (fun H locs hw => ?_)
        replace hw : mw_W G ad NF TF FF M11 L H locs := by rw [eM11]; exact hw
        refine lv_aload_n C.1.1 C.1.2.1 dX2_goOn_39 rfl (lv_at hl 2 rfl) ?_
        refine lv_iload C.1.1 C.1.2.1 dX2_goOn_40 (lv_at hl 0 rfl) ?_
        obtain ⟨M12, L13, h1, hD⟩ := g_b2 hD
        refine md_cvV (As := [.int x7]) (rest := []) C hw (tX2_leaveAll l G ad fu k x7 M11 L h1 hk0) kc_2 (Ch_N0 hk0) (Ch_T0 hk0) wd_1715 cwX2_leaveAll ⟨Nat.le_of_ble_eq_true rfl, Nat.le_of_ble_eq_true rfl⟩ rfl hl.1 (Nat.le_of_ble_eq_true rfl) dX2_goOn_42 rfl rfl ⟨Nat.zero_le _, Nat.zero_le _⟩ rfl (fun H locs hw => ?_)
        refine lv_aload_n C.1.1 C.1.2.1 dX2_goOn_45 rfl (lv_at hl 2 rfl) ?_
        refine lv_iconst (v := 2) C.1.1 C.1.2.1 dX2_goOn_46 (by decide) ?_
        refine lv_iload_n C.1.1 C.1.2.1 dX2_goOn_47 rfl (lv_at hl 1 rfl) ?_
        obtain ⟨M14, L15, h1, hD⟩ := g_b2 hD
        refine md_cvV (As := [.int 2, .int x4]) (rest := []) C hw (tX2_doActs l G ad fu k 2 x4 M12 L13 h1 hk0) kc_2 (Ch_N0 hk0) (Ch_T0 hk0) wd_1671 cwX2_doActs ⟨Nat.le_of_ble_eq_true rfl, Nat.le_of_ble_eq_true rfl⟩ rfl hl.1 (Nat.le_of_ble_eq_true rfl) dX2_goOn_48 rfl rfl ⟨Nat.zero_le _, Nat.zero_le _⟩ rfl (fun H locs hw => ?_)
        refine lv_aload_n C.1.1 C.1.2.1 dX2_goOn_51 rfl (lv_at hl 2 rfl) ?_
        refine lv_iload_n C.1.1 C.1.2.1 dX2_goOn_52 rfl (lv_at hl 1 rfl) ?_
        refine lv_iload C.1.1 C.1.2.1 dX2_goOn_53 (lv_at hl 0 rfl) ?_
        obtain ⟨M16, L17, h1, hD⟩ := g_b2 hD
        refine md_cvV (As := [.int x4, .int x7]) (rest := []) C hw (tX2_aim l G ad fu k x4 x7 M14 L15 h1 hk0) kc_2 (Ch_N0 hk0) (Ch_T0 hk0) wd_1655 cwX2_aim ⟨Nat.le_of_ble_eq_true rfl, Nat.le_of_ble_eq_true rfl⟩ rfl hl.1 (Nat.le_of_ble_eq_true rfl) dX2_goOn_55 rfl rfl ⟨Nat.zero_le _, Nat.zero_le _⟩ rfl (fun H locs hw => ?_)
        refine lv_aload_n C.1.1 C.1.2.1 dX2_goOn_58 rfl (lv_at hl 2 rfl) ?_
        refine lv_iload C.1.1 C.1.2.1 dX2_goOn_59 (lv_at hl 0 rfl) ?_
        obtain ⟨M18, L19, h1, hD⟩ := g_b2 hD
        refine md_cvV (As := [.int x7]) (rest := []) C hw (tX2_enterAll l G ad fu k x7 M16 L17 h1 hk0) kc_2 (Ch_N0 hk0) (Ch_T0 hk0) wd_1663 cwX2_enterAll ⟨Nat.le_of_ble_eq_true rfl, Nat.le_of_ble_eq_true rfl⟩ rfl hl.1 (Nat.le_of_ble_eq_true rfl) dX2_goOn_61 rfl rfl ⟨Nat.zero_le _, Nat.zero_le _⟩ rfl (fun H locs hw => ?_)
        obtain ⟨x20, ex20, hD⟩ := g_let hD
        refine lv_iinc (v := x20) (lv' := [(2, .int x20), (4, .int x7), (3, .int x4), (0, .ref (ad k)), (1, .int a1)]) C.1.1 C.1.2.1 dX2_goOn_64 hl (k := 4) rfl (by rw [ex20]; rfl) (by decide) rfl (fun ls hl => ?_)
        refine lv_goto (tgt := 2) C.1.1 C.1.2.1 dX2_goOn_67 (by decide) ?_
        exact ih2 x20 M18 L19 _ _ ls hD hw (lv_sub hl [3, 4, 0] rfl)
  unfold DX2_goOn at hD
  refine lv_iconst (v := 0) C.1.1 C.1.2.1 dX2_goOn_0 (by decide) ?_
  refine lv_istore_n (lv' := [(2, .int 0), (0, .ref (ad k)), (1, .int a1)]) C.1.1 C.1.2.1 dX2_goOn_1 rfl hl (by decide) rfl (fun ls hl => ?_)
  exact hh2 fu 0 M L _ _ ls hD hw (lv_sub hl [1, 2, 0] rfl)

theorem dX2_chain_0 : decode cX2_chain 0 = .ok (.iconst 0, 1) := by decide +kernel
theorem dX2_chain_1 : decode cX2_chain 1 = .ok (.istore_n 1, 1) := by decide +kernel
theorem dX2_chain_2 : decode cX2_chain 2 = .ok (.iload_n 1, 1) := by decide +kernel
theorem dX2_chain_3 : decode cX2_chain 3 = .ok (.aload_n 0, 1) := by decide +kernel
theorem dX2_chain_4 : decode cX2_chain 4 = .ok (.getfield 34, 3) := by decide +kernel
theorem dX2_chain_7 : decode cX2_chain 7 = .ok (.if_icmp .ge 26, 3) := by decide +kernel
theorem dX2_chain_10 : decode cX2_chain 10 = .ok (.aload_n 0, 1) := by decide +kernel
theorem dX2_chain_11 : decode cX2_chain 11 = .ok (.iconst 0, 1) := by decide +kernel
theorem dX2_chain_12 : decode cX2_chain 12 = .ok (.invokevirtual 110, 3) := by decide +kernel
theorem dX2_chain_15 : decode cX2_chain 15 = .ok (.istore_n 2, 1) := by decide +kernel
theorem dX2_chain_16 : decode cX2_chain 16 = .ok (.iload_n 2, 1) := by decide +kernel
theorem dX2_chain_17 : decode cX2_chain 17 = .ok (.ifCond .ne 5, 3) := by decide +kernel
theorem dX2_chain_20 : decode cX2_chain 20 = .ok (.iconst 1, 1) := by decide +kernel
theorem dX2_chain_21 : decode cX2_chain 21 = .ok (.ireturn, 1) := by decide +kernel
theorem dX2_chain_22 : decode cX2_chain 22 = .ok (.aload_n 0, 1) := by decide +kernel
theorem dX2_chain_23 : decode cX2_chain 23 = .ok (.iload_n 2, 1) := by decide +kernel
theorem dX2_chain_24 : decode cX2_chain 24 = .ok (.invokevirtual 113, 3) := by decide +kernel
theorem dX2_chain_27 : decode cX2_chain 27 = .ok (.iinc 1 1, 3) := by decide +kernel
theorem dX2_chain_30 : decode cX2_chain 30 = .ok (.goto (-28), 3) := by decide +kernel
theorem dX2_chain_33 : decode cX2_chain 33 = .ok (.aload_n 0, 1) := by decide +kernel
theorem dX2_chain_34 : decode cX2_chain 34 = .ok (.iconst 0, 1) := by decide +kernel
theorem dX2_chain_35 : decode cX2_chain 35 = .ok (.invokevirtual 110, 3) := by decide +kernel
theorem dX2_chain_38 : decode cX2_chain 38 = .ok (.ifCond .ne 7, 3) := by decide +kernel
theorem dX2_chain_41 : decode cX2_chain 41 = .ok (.iconst 1, 1) := by decide +kernel
theorem dX2_chain_42 : decode cX2_chain 42 = .ok (.goto 4, 3) := by decide +kernel
theorem dX2_chain_45 : decode cX2_chain 45 = .ok (.iconst 0, 1) := by decide +kernel
theorem dX2_chain_46 : decode cX2_chain 46 = .ok (.ireturn, 1) := by decide +kernel
theorem cwX2_chain : mw_cwV yX2_chain cX2_chain 3 ((some .boolean)) 0 := ⟨⟨wd_12, wd_1678, by decide +kernel⟩, wd_1677, sl_122⟩
set_option maxHeartbeats 4000000 in
set_option maxRecDepth 100000 in
theorem tX2_chain (l : Launch) (G : mwG) (ad : Nat → Nat) (fu : Nat) (k : Nat) (M : mwM) (L : mwL) {r0 : Int32} {M0 : mwM} {L0 : mwL} (hD : DX2_chain fu k M L = some (r0, M0, L0)) (hk0 : isCh k) : Met l yX2_chain (Cond.code yX2_chain cX2_chain 3 ((some .boolean)) :: GT) ({ frames := 3, cells := 0, slots := 0, locals := 75 }) (mw_Pre G ad NF TF FF M L [.ref (ad k)]) (mw_Qi G ad NF TF FF (mw_eqI r0 M0 L0)) 0 0 (mw_fr G) := by
  refine mw_enter (by decide) (Nat.le_of_ble_eq_true rfl) ?_
  intro p e s m below meth c ls C hr hlocks hnm hw hl
  have hl : lv_has ls 3 [(0, .ref (ad k))] := hl
  have hb46 : ∀ (s0 : Int32) (M : mwM) (L : mwL) (H : Heap) (locs : List Loc) (ls : Array Slot), fX2_chain_b46 fu k s0 M L = some (r0, M0, L0) → mw_W G ad NF TF FF M L H locs → lv_has ls 3 [] → W p l e ({ frames := 3, cells := 0, slots := 0, locals := 75 }) s m [.ref (ad k)].toArray below meth c H locs 0 0 (MQ below (mw_Qi G ad NF TF FF (mw_eqI r0 M0 L0)) [.ref (ad k)].toArray s 0 0 (mw_fr G)) (F0 m 46 ls [.int s0]) := by
    intro s0 M L H locs ls hD hw hl
    unfold fX2_chain_b46 at hD
    obtain ⟨z13, hD⟩ := g_zz hD
    exact mr_iret C hr hlocks hw (nz_zz z13) (Option.some.inj hD) dX2_chain_46
  have hh2 : ∀ (f : Nat) (v1 : Int32) (M : mwM) (L : mwL) (H : Heap) (locs : List Loc) (ls : Array Slot), fX2_chain_h2 fu k f (v1, M, L) = some (r0, M0, L0) → mw_W G ad NF TF FF M L H locs → lv_has ls 3 [(0, .ref (ad k)), (1, .int v1)] → W p l e ({ frames := 3, cells := 0, slots := 0, locals := 75 }) s m [.ref (ad k)].toArray below meth c H locs 0 0 (MQ below (mw_Qi G ad NF TF FF (mw_eqI r0 M0 L0)) [.ref (ad k)].toArray s 0 0 (mw_fr G)) (F0 m 2 ls []) := by
    intro f
    induction f with
    | zero => intro v1 M L H locs ls hD; cases hD
    | succ f2 ih2 =>
      intro v1 M L H locs ls hD hw hl
      replace hD : fX2_chain_i2 fu k (fX2_chain_h2 fu k f2) v1 M L = some (r0, M0, L0) := hD
      unfold fX2_chain_i2 at hD
      refine lv_iload_n C.1.1 C.1.2.1 dX2_chain_2 rfl (lv_at hl 1 rfl) ?_
      refine lv_aload_n C.1.1 C.1.2.1 dX2_chain_3 rfl (lv_at hl 0 rfl) ?_
      refine mr_getI C hw kc_2 6 (Ch_N0 hk0) (Ch_T0 hk0) wd_457 dX2_chain_4 (by decide) rfl ?_
      refine lv_icmp_ge (tgt := 33) C.1.1 C.1.2.1 dX2_chain_7 (by decide) (fun c1 => ?_) (fun c1 => ?_)
      · replace hD := g_pos c1 hD
        refine lv_aload_n C.1.1 C.1.2.1 dX2_chain_33 rfl (lv_at hl 0 rfl) ?_
        refine lv_iconst (v := 0) C.1.1 C.1.2.1 dX2_chain_34 (by decide) ?_
        obtain ⟨r4, M2, L3, h1, hD⟩ := g_b3 hD
        refine md_cvI (As := [.int 0]) (rest := []) C hw (tX2_select l G ad fu k 0 M L h1 hk0) kc_2 (Ch_N0 hk0) (Ch_T0 hk0) wd_1679 cwX2_select ⟨Nat.le_of_ble_eq_true rfl, Nat.le_of_ble_eq_true rfl⟩ rfl hl.1 (Nat.le_of_ble_eq_true rfl) dX2_chain_35 rfl rfl ⟨Nat.zero_le _, Nat.zero_le _⟩ rfl (fun H locs hw => ?_)
        refine lv_if_ne (tgt := 45) C.1.1 C.1.2.1 dX2_chain_38 (by decide) (fun c5 => ?_) (fun c5 => ?_)
        · replace hD := g_neg c5 hD
          refine lv_iconst (v := 0) C.1.1 C.1.2.1 dX2_chain_45 (by decide) ?_
          exact hb46 0 M2 L3 _ _ ls hD hw (lv_sub hl [] rfl)
        · replace hD := g_pos c5 hD
          refine lv_iconst (v := 1) C.1.1 C.1.2.1 dX2_chain_41 (by decide) ?_
          refine lv_goto (tgt := 46) C.1.1 C.1.2.1 dX2_chain_42 (by decide) ?_
          exact hb46 1 M2 L3 _ _ ls hD hw (lv_sub hl [] rfl)
      · replace hD := g_neg c1 hD
        refine lv_aload_n C.1.1 C.1.2.1 dX2_chain_10 rfl (lv_at hl 0 rfl) ?_
        refine lv_iconst (v := 0) C.1.1 C.1.2.1 dX2_chain_11 (by decide) ?_
        obtain ⟨r8, M6, L7, h1, hD⟩ := g_b3 hD
        refine md_cvI (As := [.int 0]) (rest := []) C hw (tX2_select l G ad fu k 0 M L h1 hk0) kc_2 (Ch_N0 hk0) (Ch_T0 hk0) wd_1679 cwX2_select ⟨Nat.le_of_ble_eq_true rfl, Nat.le_of_ble_eq_true rfl⟩ rfl hl.1 (Nat.le_of_ble_eq_true rfl) dX2_chain_12 rfl rfl ⟨Nat.zero_le _, Nat.zero_le _⟩ rfl (fun H locs hw => ?_)
        refine lv_istore_n (lv' := [(2, .int r8), (0, .ref (ad k)), (1, .int v1)]) C.1.1 C.1.2.1 dX2_chain_15 rfl hl (by decide) rfl (fun ls hl => ?_)
        refine lv_iload_n C.1.1 C.1.2.1 dX2_chain_16 rfl (lv_at hl 0 rfl) ?_
        refine lv_if_ne (tgt := 22) C.1.1 C.1.2.1 dX2_chain_17 (by decide) (fun c9 => ?_) (fun c9 => ?_)
        · replace hD := g_neg c9 hD
          refine lv_aload_n C.1.1 C.1.2.1 dX2_chain_22 rfl (lv_at hl 1 rfl) ?_
          refine lv_iload_n C.1.1 C.1.2.1 dX2_chain_23 rfl (lv_at hl 0 rfl) ?_
          obtain ⟨M10, L11, h1, hD⟩ := g_b2 hD
          refine md_cvV (As := [.int r8]) (rest := []) C hw (tX2_goOn l G ad fu k r8 M6 L7 h1 hk0) kc_2 (Ch_N0 hk0) (Ch_T0 hk0) wd_1711 cwX2_goOn ⟨Nat.le_of_ble_eq_true rfl, Nat.le_of_ble_eq_true rfl⟩ rfl hl.1 (Nat.le_of_ble_eq_true rfl) dX2_chain_24 rfl rfl ⟨Nat.zero_le _, Nat.zero_le _⟩ rfl (fun H locs hw => ?_)
          obtain ⟨x12, ex12, hD⟩ := g_let hD
          refine lv_iinc (v := x12) (lv' := [(1, .int x12), (2, .int r8), (0, .ref (ad k))]) C.1.1 C.1.2.1 dX2_chain_27 hl (k := 2) rfl (by rw [ex12]; rfl) (by decide) rfl (fun ls hl => ?_)
          refine lv_goto (tgt := 2) C.1.1 C.1.2.1 dX2_chain_30 (by decide) ?_
          exact ih2 x12 M10 L11 _ _ ls hD hw (lv_sub hl [2, 0] rfl)
        · replace hD := g_pos c9 hD
          refine lv_iconst (v := 1) C.1.1 C.1.2.1 dX2_chain_20 (by decide) ?_
          exact mr_iret C hr hlocks hw (by decide +kernel) (Option.some.inj hD) dX2_chain_21
  unfold DX2_chain at hD
  refine lv_iconst (v := 0) C.1.1 C.1.2.1 dX2_chain_0 (by decide) ?_
  refine lv_istore_n (lv' := [(1, .int 0), (0, .ref (ad k))]) C.1.1 C.1.2.1 dX2_chain_1 rfl hl (by decide) rfl (fun ls hl => ?_)
  exact hh2 fu 0 M L _ _ ls hD hw (lv_sub hl [1, 0] rfl)

theorem dX2_nextToSpeak_0 : decode cX2_nextToSpeak 0 = .ok (.iconst 0, 1) := by decide +kernel
theorem dX2_nextToSpeak_1 : decode cX2_nextToSpeak 1 = .ok (.istore_n 2, 1) := by decide +kernel
theorem dX2_nextToSpeak_2 : decode cX2_nextToSpeak 2 = .ok (.iload_n 1, 1) := by decide +kernel
theorem dX2_nextToSpeak_3 : decode cX2_nextToSpeak 3 = .ok (.iconst 1, 1) := by decide +kernel
theorem dX2_nextToSpeak_4 : decode cX2_nextToSpeak 4 = .ok (.iadd, 1) := by decide +kernel
theorem dX2_nextToSpeak_5 : decode cX2_nextToSpeak 5 = .ok (.istore_n 3, 1) := by decide +kernel
theorem dX2_nextToSpeak_6 : decode cX2_nextToSpeak 6 = .ok (.iconst 1, 1) := by decide +kernel
theorem dX2_nextToSpeak_7 : decode cX2_nextToSpeak 7 = .ok (.istore 4, 2) := by decide +kernel
theorem dX2_nextToSpeak_9 : decode cX2_nextToSpeak 9 = .ok (.iload 4, 2) := by decide +kernel
theorem dX2_nextToSpeak_11 : decode cX2_nextToSpeak 11 = .ok (.aload_n 0, 1) := by decide +kernel
theorem dX2_nextToSpeak_12 : decode cX2_nextToSpeak 12 = .ok (.getfield 37, 3) := by decide +kernel
theorem dX2_nextToSpeak_15 : decode cX2_nextToSpeak 15 = .ok (.if_icmp .gt 95, 3) := by decide +kernel
theorem dX2_nextToSpeak_18 : decode cX2_nextToSpeak 18 = .ok (.aload_n 0, 1) := by decide +kernel
theorem dX2_nextToSpeak_19 : decode cX2_nextToSpeak 19 = .ok (.getfield 13, 3) := by decide +kernel
theorem dX2_nextToSpeak_22 : decode cX2_nextToSpeak 22 = .ok (.iconst 3, 1) := by decide +kernel
theorem dX2_nextToSpeak_23 : decode cX2_nextToSpeak 23 = .ok (.aaload, 1) := by decide +kernel
theorem dX2_nextToSpeak_24 : decode cX2_nextToSpeak 24 = .ok (.iload 4, 2) := by decide +kernel
theorem dX2_nextToSpeak_26 : decode cX2_nextToSpeak 26 = .ok (.iaload, 1) := by decide +kernel
theorem dX2_nextToSpeak_27 : decode cX2_nextToSpeak 27 = .ok (.ifCond .le 77, 3) := by decide +kernel
theorem dX2_nextToSpeak_30 : decode cX2_nextToSpeak 30 = .ok (.aload_n 0, 1) := by decide +kernel
theorem dX2_nextToSpeak_31 : decode cX2_nextToSpeak 31 = .ok (.getfield 13, 3) := by decide +kernel
theorem dX2_nextToSpeak_34 : decode cX2_nextToSpeak 34 = .ok (.iconst 5, 1) := by decide +kernel
theorem dX2_nextToSpeak_35 : decode cX2_nextToSpeak 35 = .ok (.aaload, 1) := by decide +kernel
theorem dX2_nextToSpeak_36 : decode cX2_nextToSpeak 36 = .ok (.iload 4, 2) := by decide +kernel
theorem dX2_nextToSpeak_38 : decode cX2_nextToSpeak 38 = .ok (.iaload, 1) := by decide +kernel
theorem dX2_nextToSpeak_39 : decode cX2_nextToSpeak 39 = .ok (.iconst 1, 1) := by decide +kernel
theorem dX2_nextToSpeak_40 : decode cX2_nextToSpeak 40 = .ok (.if_icmp .ne 64, 3) := by decide +kernel
theorem dX2_nextToSpeak_43 : decode cX2_nextToSpeak 43 = .ok (.aload_n 0, 1) := by decide +kernel
theorem dX2_nextToSpeak_44 : decode cX2_nextToSpeak 44 = .ok (.getfield 13, 3) := by decide +kernel
theorem dX2_nextToSpeak_47 : decode cX2_nextToSpeak 47 = .ok (.bipush 9, 2) := by decide +kernel
theorem dX2_nextToSpeak_49 : decode cX2_nextToSpeak 49 = .ok (.aaload, 1) := by decide +kernel
theorem dX2_nextToSpeak_50 : decode cX2_nextToSpeak 50 = .ok (.iload 4, 2) := by decide +kernel
theorem dX2_nextToSpeak_52 : decode cX2_nextToSpeak 52 = .ok (.iaload, 1) := by decide +kernel
theorem dX2_nextToSpeak_53 : decode cX2_nextToSpeak 53 = .ok (.ifCond .ne 51, 3) := by decide +kernel
theorem dX2_nextToSpeak_56 : decode cX2_nextToSpeak 56 = .ok (.aload_n 0, 1) := by decide +kernel
theorem dX2_nextToSpeak_57 : decode cX2_nextToSpeak 57 = .ok (.getfield 13, 3) := by decide +kernel
theorem dX2_nextToSpeak_60 : decode cX2_nextToSpeak 60 = .ok (.bipush 8, 2) := by decide +kernel
theorem dX2_nextToSpeak_62 : decode cX2_nextToSpeak 62 = .ok (.aaload, 1) := by decide +kernel
theorem dX2_nextToSpeak_63 : decode cX2_nextToSpeak 63 = .ok (.iload 4, 2) := by decide +kernel
theorem dX2_nextToSpeak_65 : decode cX2_nextToSpeak 65 = .ok (.iaload, 1) := by decide +kernel
theorem dX2_nextToSpeak_66 : decode cX2_nextToSpeak 66 = .ok (.aload_n 0, 1) := by decide +kernel
theorem dX2_nextToSpeak_67 : decode cX2_nextToSpeak 67 = .ok (.getfield 13, 3) := by decide +kernel
theorem dX2_nextToSpeak_70 : decode cX2_nextToSpeak 70 = .ok (.iconst 3, 1) := by decide +kernel
theorem dX2_nextToSpeak_71 : decode cX2_nextToSpeak 71 = .ok (.aaload, 1) := by decide +kernel
theorem dX2_nextToSpeak_72 : decode cX2_nextToSpeak 72 = .ok (.iload 4, 2) := by decide +kernel
theorem dX2_nextToSpeak_74 : decode cX2_nextToSpeak 74 = .ok (.iaload, 1) := by decide +kernel
theorem dX2_nextToSpeak_75 : decode cX2_nextToSpeak 75 = .ok (.iadd, 1) := by decide +kernel
theorem dX2_nextToSpeak_76 : decode cX2_nextToSpeak 76 = .ok (.iload_n 3, 1) := by decide +kernel
theorem dX2_nextToSpeak_77 : decode cX2_nextToSpeak 77 = .ok (.if_icmp .ge 27, 3) := by decide +kernel
theorem dX2_nextToSpeak_80 : decode cX2_nextToSpeak 80 = .ok (.iload 4, 2) := by decide +kernel
theorem dX2_nextToSpeak_82 : decode cX2_nextToSpeak 82 = .ok (.istore_n 2, 1) := by decide +kernel
theorem dX2_nextToSpeak_83 : decode cX2_nextToSpeak 83 = .ok (.aload_n 0, 1) := by decide +kernel
theorem dX2_nextToSpeak_84 : decode cX2_nextToSpeak 84 = .ok (.getfield 13, 3) := by decide +kernel
theorem dX2_nextToSpeak_87 : decode cX2_nextToSpeak 87 = .ok (.bipush 8, 2) := by decide +kernel
theorem dX2_nextToSpeak_89 : decode cX2_nextToSpeak 89 = .ok (.aaload, 1) := by decide +kernel
theorem dX2_nextToSpeak_90 : decode cX2_nextToSpeak 90 = .ok (.iload 4, 2) := by decide +kernel
theorem dX2_nextToSpeak_92 : decode cX2_nextToSpeak 92 = .ok (.iaload, 1) := by decide +kernel
theorem dX2_nextToSpeak_93 : decode cX2_nextToSpeak 93 = .ok (.aload_n 0, 1) := by decide +kernel
theorem dX2_nextToSpeak_94 : decode cX2_nextToSpeak 94 = .ok (.getfield 13, 3) := by decide +kernel
theorem dX2_nextToSpeak_97 : decode cX2_nextToSpeak 97 = .ok (.iconst 3, 1) := by decide +kernel
theorem dX2_nextToSpeak_98 : decode cX2_nextToSpeak 98 = .ok (.aaload, 1) := by decide +kernel
theorem dX2_nextToSpeak_99 : decode cX2_nextToSpeak 99 = .ok (.iload 4, 2) := by decide +kernel
theorem dX2_nextToSpeak_101 : decode cX2_nextToSpeak 101 = .ok (.iaload, 1) := by decide +kernel
theorem dX2_nextToSpeak_102 : decode cX2_nextToSpeak 102 = .ok (.iadd, 1) := by decide +kernel
theorem dX2_nextToSpeak_103 : decode cX2_nextToSpeak 103 = .ok (.istore_n 3, 1) := by decide +kernel
theorem dX2_nextToSpeak_104 : decode cX2_nextToSpeak 104 = .ok (.iinc 4 1, 3) := by decide +kernel
theorem dX2_nextToSpeak_107 : decode cX2_nextToSpeak 107 = .ok (.goto (-98), 3) := by decide +kernel
theorem dX2_nextToSpeak_110 : decode cX2_nextToSpeak 110 = .ok (.iload_n 2, 1) := by decide +kernel
theorem dX2_nextToSpeak_111 : decode cX2_nextToSpeak 111 = .ok (.ireturn, 1) := by decide +kernel
theorem cwX2_nextToSpeak : mw_cwV yX2_nextToSpeak cX2_nextToSpeak 5 ((some .int)) 1 := ⟨⟨wd_12, wd_1722, by decide +kernel⟩, wd_1721, sl_133⟩
set_option maxHeartbeats 4000000 in
set_option maxRecDepth 100000 in
theorem tX2_nextToSpeak (l : Launch) (G : mwG) (ad : Nat → Nat) (fu : Nat) (k : Nat) (a1 : Int32) (M : mwM) (L : mwL) {r0 : Int32} {M0 : mwM} {L0 : mwL} (hD : DX2_nextToSpeak fu k a1 M L = some (r0, M0, L0)) (hk0 : isCh k) : Met l yX2_nextToSpeak (Cond.code yX2_nextToSpeak cX2_nextToSpeak 5 ((some .int)) :: GT) ({ frames := 0, cells := 0, slots := 0, locals := 0 }) (mw_Pre G ad NF TF FF M L [.ref (ad k), .int a1]) (mw_Qi G ad NF TF FF (mw_eqI r0 M0 L0)) 0 0 (mw_fr G) := by
  refine mw_enter (by decide) (Nat.le_of_ble_eq_true rfl) ?_
  intro p e s m below meth c ls C hr hlocks hnm hw hl
  have hl : lv_has ls 5 [(0, .ref (ad k)), (1, .int a1)] := hl
  have hh9 : ∀ (f : Nat) (v2 : Int32) (v3 : Int32) (v4 : Int32) (M : mwM) (L : mwL) (H : Heap) (locs : List Loc) (ls : Array Slot), fX2_nextToSpeak_h9 fu k a1 f (v2, v3, v4, M, L) = some (r0, M0, L0) → mw_W G ad NF TF FF M L H locs → lv_has ls 5 [(0, .ref (ad k)), (2, .int v2), (3, .int v3), (4, .int v4)] → W p l e ({ frames := 0, cells := 0, slots := 0, locals := 0 }) s m [.ref (ad k), .int a1].toArray below meth c H locs 0 0 (MQ below (mw_Qi G ad NF TF FF (mw_eqI r0 M0 L0)) [.ref (ad k), .int a1].toArray s 0 0 (mw_fr G)) (F0 m 9 ls []) := by
    intro f
    induction f with
    | zero => intro v2 v3 v4 M L H locs ls hD; cases hD
    | succ f9 ih9 =>
      intro v2 v3 v4 M L H locs ls hD hw hl
      replace hD : fX2_nextToSpeak_i9 fu k a1 (fX2_nextToSpeak_h9 fu k a1 f9) v2 v3 v4 M L = some (r0, M0, L0) := hD
      have hb104 : ∀ (v2 : Int32) (v3 : Int32) (v4 : Int32) (M : mwM) (L : mwL) (H : Heap) (locs : List Loc) (ls : Array Slot), fX2_nextToSpeak_b104 fu k a1 (fX2_nextToSpeak_h9 fu k a1 f9) v2 v3 v4 M L = some (r0, M0, L0) → mw_W G ad NF TF FF M L H locs → lv_has ls 5 [(0, .ref (ad k)), (2, .int v2), (3, .int v3), (4, .int v4)] → W p l e ({ frames := 0, cells := 0, slots := 0, locals := 0 }) s m [.ref (ad k), .int a1].toArray below meth c H locs 0 0 (MQ below (mw_Qi G ad NF TF FF (mw_eqI r0 M0 L0)) [.ref (ad k), .int a1].toArray s 0 0 (mw_fr G)) (F0 m 104 ls []) := by
        intro v2 v3 v4 M L H locs ls hD hw hl
        unfold fX2_nextToSpeak_b104 at hD
        obtain ⟨x21, ex21, hD⟩ := g_let hD
        refine lv_iinc (v := x21) (lv' := [(4, .int x21), (0, .ref (ad k)), (2, .int v2), (3, .int v3)]) C.1.1 C.1.2.1 dX2_nextToSpeak_104 hl (k := 3) rfl (by rw [ex21]; rfl) (by decide) rfl (fun ls hl => ?_)
        refine lv_goto (tgt := 9) C.1.1 C.1.2.1 dX2_nextToSpeak_107 (by decide) ?_
        exact ih9 v2 v3 x21 M L _ _ ls hD hw (lv_sub hl [1, 2, 3, 0] rfl)
      unfold fX2_nextToSpeak_i9 at hD
      refine lv_iload C.1.1 C.1.2.1 dX2_nextToSpeak_9 (lv_at hl 3 rfl) ?_
      refine lv_aload_n C.1.1 C.1.2.1 dX2_nextToSpeak_11 rfl (lv_at hl 0 rfl) ?_
      refine mr_getI C hw kc_2 7 (Ch_N0 hk0) (Ch_T0 hk0) wd_458 dX2_nextToSpeak_12 (by decide) rfl ?_
      refine lv_icmp_gt (tgt := 110) C.1.1 C.1.2.1 dX2_nextToSpeak_15 (by decide) (fun c1 => ?_) (fun c1 => ?_)
      · replace hD := g_pos c1 hD
        refine lv_iload_n C.1.1 C.1.2.1 dX2_nextToSpeak_110 rfl (lv_at hl 1 rfl) ?_
        exact mr_iret C hr hlocks hw rfl (Option.some.inj hD) dX2_nextToSpeak_111
      · replace hD := g_neg c1 hD
        refine lv_aload_n C.1.1 C.1.2.1 dX2_nextToSpeak_18 rfl (lv_at hl 0 rfl) ?_
        refine mr_getR C hw kc_2 0 (Ch_N0 hk0) (Ch_T0 hk0) (Ch_F0_0 hk0) wd_444 dX2_nextToSpeak_19 (by decide) rfl ?_
        refine lv_iconst (v := 3) C.1.1 C.1.2.1 dX2_nextToSpeak_22 (by decide) ?_
        refine mr_aald C hw (Ch_N1 hk0) (Ch_T1 hk0) (by decide) (by decide) rfl rfl (show vp_in 3 18 from by unfold vp_in; decide) (Ch_R1 hk0 _ (by decide : 3 < 18)).1 dX2_nextToSpeak_23 ?_
        refine lv_iload C.1.1 C.1.2.1 dX2_nextToSpeak_24 (lv_at hl 3 rfl) ?_
        obtain ⟨q3, hD⟩ := g_ck hD
        refine mr_iald C hw (Ch_N5 hk0) (Ch_T5 hk0) q3 dX2_nextToSpeak_26 ?_
        refine lv_if_le (tgt := 104) C.1.1 C.1.2.1 dX2_nextToSpeak_27 (by decide) (fun c4 => ?_) (fun c4 => ?_)
        · replace hD := g_pos c4 hD
          exact hb104 v2 v3 v4 M L _ _ ls hD hw (lv_sub hl [0, 1, 2, 3] rfl)
        · replace hD := g_neg c4 hD
          refine lv_aload_n C.1.1 C.1.2.1 dX2_nextToSpeak_30 rfl (lv_at hl 0 rfl) ?_
          refine mr_getR C hw kc_2 0 (Ch_N0 hk0) (Ch_T0 hk0) (Ch_F0_0 hk0) wd_444 dX2_nextToSpeak_31 (by decide) rfl ?_
          refine lv_iconst (v := 5) C.1.1 C.1.2.1 dX2_nextToSpeak_34 (by decide) ?_
          refine mr_aald C hw (Ch_N1 hk0) (Ch_T1 hk0) (by decide) (by decide) rfl rfl (show vp_in 5 18 from by unfold vp_in; decide) (Ch_R1 hk0 _ (by decide : 5 < 18)).1 dX2_nextToSpeak_35 ?_
          refine lv_iload C.1.1 C.1.2.1 dX2_nextToSpeak_36 (lv_at hl 3 rfl) ?_
          obtain ⟨q6, hD⟩ := g_ck hD
          refine mr_iald C hw (Ch_N7 hk0) (Ch_T7 hk0) q6 dX2_nextToSpeak_38 ?_
          refine lv_iconst (v := 1) C.1.1 C.1.2.1 dX2_nextToSpeak_39 (by decide) ?_
          refine lv_icmp_ne (tgt := 104) C.1.1 C.1.2.1 dX2_nextToSpeak_40 (by decide) (fun c7 => ?_) (fun c7 => ?_)
          · replace hD := g_neg c7 hD
            exact hb104 v2 v3 v4 M L _ _ ls hD hw (lv_sub hl [0, 1, 2, 3] rfl)
          · replace hD := g_pos c7 hD
            refine lv_aload_n C.1.1 C.1.2.1 dX2_nextToSpeak_43 rfl (lv_at hl 0 rfl) ?_
            refine mr_getR C hw kc_2 0 (Ch_N0 hk0) (Ch_T0 hk0) (Ch_F0_0 hk0) wd_444 dX2_nextToSpeak_44 (by decide) rfl ?_
            refine lv_bipush (v := 9) C.1.1 C.1.2.1 dX2_nextToSpeak_47 (by decide) ?_
            refine mr_aald C hw (Ch_N1 hk0) (Ch_T1 hk0) (by decide) (by decide) rfl rfl (show vp_in 9 18 from by unfold vp_in; decide) (Ch_R1 hk0 _ (by decide : 9 < 18)).1 dX2_nextToSpeak_49 ?_
            refine lv_iload C.1.1 C.1.2.1 dX2_nextToSpeak_50 (lv_at hl 3 rfl) ?_
            obtain ⟨q9, hD⟩ := g_ck hD
            refine mr_iald C hw (Ch_N11 hk0) (Ch_T11 hk0) q9 dX2_nextToSpeak_52 ?_
            refine lv_if_ne (tgt := 104) C.1.1 C.1.2.1 dX2_nextToSpeak_53 (by decide) (fun c10 => ?_) (fun c10 => ?_)
            · replace hD := g_neg c10 hD
              exact hb104 v2 v3 v4 M L _ _ ls hD hw (lv_sub hl [0, 1, 2, 3] rfl)
            · replace hD := g_pos c10 hD
              refine lv_aload_n C.1.1 C.1.2.1 dX2_nextToSpeak_56 rfl (lv_at hl 0 rfl) ?_
              refine mr_getR C hw kc_2 0 (Ch_N0 hk0) (Ch_T0 hk0) (Ch_F0_0 hk0) wd_444 dX2_nextToSpeak_57 (by decide) rfl ?_
              refine lv_bipush (v := 8) C.1.1 C.1.2.1 dX2_nextToSpeak_60 (by decide) ?_
              refine mr_aald C hw (Ch_N1 hk0) (Ch_T1 hk0) (by decide) (by decide) rfl rfl (show vp_in 8 18 from by unfold vp_in; decide) (Ch_R1 hk0 _ (by decide : 8 < 18)).1 dX2_nextToSpeak_62 ?_
              refine lv_iload C.1.1 C.1.2.1 dX2_nextToSpeak_63 (lv_at hl 3 rfl) ?_
              obtain ⟨q12, hD⟩ := g_ck hD
              refine mr_iald C hw (Ch_N10 hk0) (Ch_T10 hk0) q12 dX2_nextToSpeak_65 ?_
              refine lv_aload_n C.1.1 C.1.2.1 dX2_nextToSpeak_66 rfl (lv_at hl 0 rfl) ?_
              refine mr_getR C hw kc_2 0 (Ch_N0 hk0) (Ch_T0 hk0) (Ch_F0_0 hk0) wd_444 dX2_nextToSpeak_67 (by decide) rfl ?_
              refine lv_iconst (v := 3) C.1.1 C.1.2.1 dX2_nextToSpeak_70 (by decide) ?_
              refine mr_aald C hw (Ch_N1 hk0) (Ch_T1 hk0) (by decide) (by decide) rfl rfl (show vp_in 3 18 from by unfold vp_in; decide) (Ch_R1 hk0 _ (by decide : 3 < 18)).1 dX2_nextToSpeak_71 ?_
              refine lv_iload C.1.1 C.1.2.1 dX2_nextToSpeak_72 (lv_at hl 3 rfl) ?_
              obtain ⟨q14, hD⟩ := g_ck hD
              refine mr_iald C hw (Ch_N5 hk0) (Ch_T5 hk0) q14 dX2_nextToSpeak_74 ?_
              refine lv_iadd C.1.1 C.1.2.1 dX2_nextToSpeak_75 ?_
              refine lv_iload_n C.1.1 C.1.2.1 dX2_nextToSpeak_76 rfl (lv_at hl 2 rfl) ?_
              refine lv_icmp_ge (tgt := 104) C.1.1 C.1.2.1 dX2_nextToSpeak_77 (by decide) (fun c15 => ?_) (fun c15 => ?_)
              · replace hD := g_pos c15 hD
                exact hb104 v2 v3 v4 M L _ _ ls hD hw (lv_sub hl [0, 1, 2, 3] rfl)
              · replace hD := g_neg c15 hD
                refine lv_iload C.1.1 C.1.2.1 dX2_nextToSpeak_80 (lv_at hl 3 rfl) ?_
                refine lv_istore_n (lv' := [(2, .int v4), (0, .ref (ad k)), (3, .int v3), (4, .int v4)]) C.1.1 C.1.2.1 dX2_nextToSpeak_82 rfl hl (by decide) rfl (fun ls hl => ?_)
                refine lv_aload_n C.1.1 C.1.2.1 dX2_nextToSpeak_83 rfl (lv_at hl 1 rfl) ?_
                refine mr_getR C hw kc_2 0 (Ch_N0 hk0) (Ch_T0 hk0) (Ch_F0_0 hk0) wd_444 dX2_nextToSpeak_84 (by decide) rfl ?_
                refine lv_bipush (v := 8) C.1.1 C.1.2.1 dX2_nextToSpeak_87 (by decide) ?_
                refine mr_aald C hw (Ch_N1 hk0) (Ch_T1 hk0) (by decide) (by decide) rfl rfl (show vp_in 8 18 from by unfold vp_in; decide) (Ch_R1 hk0 _ (by decide : 8 < 18)).1 dX2_nextToSpeak_89 ?_
                refine lv_iload C.1.1 C.1.2.1 dX2_nextToSpeak_90 (lv_at hl 3 rfl) ?_
                obtain ⟨q17, hD⟩ := g_ck hD
                refine mr_iald C hw (Ch_N10 hk0) (Ch_T10 hk0) q17 dX2_nextToSpeak_92 ?_
                refine lv_aload_n C.1.1 C.1.2.1 dX2_nextToSpeak_93 rfl (lv_at hl 1 rfl) ?_
                refine mr_getR C hw kc_2 0 (Ch_N0 hk0) (Ch_T0 hk0) (Ch_F0_0 hk0) wd_444 dX2_nextToSpeak_94 (by decide) rfl ?_
                refine lv_iconst (v := 3) C.1.1 C.1.2.1 dX2_nextToSpeak_97 (by decide) ?_
                refine mr_aald C hw (Ch_N1 hk0) (Ch_T1 hk0) (by decide) (by decide) rfl rfl (show vp_in 3 18 from by unfold vp_in; decide) (Ch_R1 hk0 _ (by decide : 3 < 18)).1 dX2_nextToSpeak_98 ?_
                refine lv_iload C.1.1 C.1.2.1 dX2_nextToSpeak_99 (lv_at hl 3 rfl) ?_
                obtain ⟨q19, hD⟩ := g_ck hD
                refine mr_iald C hw (Ch_N5 hk0) (Ch_T5 hk0) q19 dX2_nextToSpeak_101 ?_
                refine lv_iadd C.1.1 C.1.2.1 dX2_nextToSpeak_102 ?_
                obtain ⟨x20, ex20, hD⟩ := g_let hD
                refine W.eq (g2 := F0 m 103 ls (.int x20 :: [])) (by rw [ex20]) ?_
                refine lv_istore_n (lv' := [(3, .int x20), (2, .int v4), (0, .ref (ad k)), (4, .int v4)]) C.1.1 C.1.2.1 dX2_nextToSpeak_103 rfl hl (by decide) rfl (fun ls hl => ?_)
                exact hb104 v4 x20 v4 M L _ _ ls hD hw (lv_sub hl [2, 1, 0, 3] rfl)
  unfold DX2_nextToSpeak at hD
  refine lv_iconst (v := 0) C.1.1 C.1.2.1 dX2_nextToSpeak_0 (by decide) ?_
  refine lv_istore_n (lv' := [(2, .int 0), (0, .ref (ad k)), (1, .int a1)]) C.1.1 C.1.2.1 dX2_nextToSpeak_1 rfl hl (by decide) rfl (fun ls hl => ?_)
  refine lv_iload_n C.1.1 C.1.2.1 dX2_nextToSpeak_2 rfl (lv_at hl 2 rfl) ?_
  refine lv_iconst (v := 1) C.1.1 C.1.2.1 dX2_nextToSpeak_3 (by decide) ?_
  refine lv_iadd C.1.1 C.1.2.1 dX2_nextToSpeak_4 ?_
  obtain ⟨x22, ex22, hD⟩ := g_let hD
  refine W.eq (g2 := F0 m 5 ls (.int x22 :: [])) (by rw [ex22]) ?_
  refine lv_istore_n (lv' := [(3, .int x22), (2, .int 0), (0, .ref (ad k)), (1, .int a1)]) C.1.1 C.1.2.1 dX2_nextToSpeak_5 rfl hl (by decide) rfl (fun ls hl => ?_)
  refine lv_iconst (v := 1) C.1.1 C.1.2.1 dX2_nextToSpeak_6 (by decide) ?_
  refine lv_istore (lv' := [(4, .int 1), (3, .int x22), (2, .int 0), (0, .ref (ad k)), (1, .int a1)]) C.1.1 C.1.2.1 dX2_nextToSpeak_7 hl (by decide) rfl (fun ls hl => ?_)
  exact hh9 fu 0 x22 1 M L _ _ ls hD hw (lv_sub hl [3, 2, 1, 0] rfl)

theorem dX2_happen_0 : decode cX2_happen 0 = .ok (.aload_n 0, 1) := by decide +kernel
theorem dX2_happen_1 : decode cX2_happen 1 = .ok (.getfield 64, 3) := by decide +kernel
theorem dX2_happen_4 : decode cX2_happen 4 = .ok (.ifCond .ne 33, 3) := by decide +kernel
theorem dX2_happen_7 : decode cX2_happen 7 = .ok (.aload_n 0, 1) := by decide +kernel
theorem dX2_happen_8 : decode cX2_happen 8 = .ok (.iconst 1, 1) := by decide +kernel
theorem dX2_happen_9 : decode cX2_happen 9 = .ok (.putfield 64, 3) := by decide +kernel
theorem dX2_happen_12 : decode cX2_happen 12 = .ok (.aload_n 0, 1) := by decide +kernel
theorem dX2_happen_13 : decode cX2_happen 13 = .ok (.iload_n 2, 1) := by decide +kernel
theorem dX2_happen_14 : decode cX2_happen 14 = .ok (.putfield 52, 3) := by decide +kernel
theorem dX2_happen_17 : decode cX2_happen 17 = .ok (.aload_n 0, 1) := by decide +kernel
theorem dX2_happen_18 : decode cX2_happen 18 = .ok (.iconst 0, 1) := by decide +kernel
theorem dX2_happen_19 : decode cX2_happen 19 = .ok (.iconst 0, 1) := by decide +kernel
theorem dX2_happen_20 : decode cX2_happen 20 = .ok (.invokevirtual 97, 3) := by decide +kernel
theorem dX2_happen_23 : decode cX2_happen 23 = .ok (.aload_n 0, 1) := by decide +kernel
theorem dX2_happen_24 : decode cX2_happen 24 = .ok (.iconst 0, 1) := by decide +kernel
theorem dX2_happen_25 : decode cX2_happen 25 = .ok (.invokevirtual 100, 3) := by decide +kernel
theorem dX2_happen_28 : decode cX2_happen 28 = .ok (.aload_n 0, 1) := by decide +kernel
theorem dX2_happen_29 : decode cX2_happen 29 = .ok (.invokevirtual 103, 3) := by decide +kernel
theorem dX2_happen_32 : decode cX2_happen 32 = .ok (.ifCond .ne 5, 3) := by decide +kernel
theorem dX2_happen_35 : decode cX2_happen 35 = .ok (.iconst 0, 1) := by decide +kernel
theorem dX2_happen_36 : decode cX2_happen 36 = .ok (.ireturn, 1) := by decide +kernel
theorem dX2_happen_37 : decode cX2_happen 37 = .ok (.aload_n 0, 1) := by decide +kernel
theorem dX2_happen_38 : decode cX2_happen 38 = .ok (.iload_n 2, 1) := by decide +kernel
theorem dX2_happen_39 : decode cX2_happen 39 = .ok (.invokevirtual 107, 3) := by decide +kernel
theorem dX2_happen_42 : decode cX2_happen 42 = .ok (.istore_n 3, 1) := by decide +kernel
theorem dX2_happen_43 : decode cX2_happen 43 = .ok (.iconst 0, 1) := by decide +kernel
theorem dX2_happen_44 : decode cX2_happen 44 = .ok (.istore 4, 2) := by decide +kernel
theorem dX2_happen_46 : decode cX2_happen 46 = .ok (.iload 4, 2) := by decide +kernel
theorem dX2_happen_48 : decode cX2_happen 48 = .ok (.sipush 1000, 3) := by decide +kernel
theorem dX2_happen_51 : decode cX2_happen 51 = .ok (.if_icmp .ge 73, 3) := by decide +kernel
theorem dX2_happen_54 : decode cX2_happen 54 = .ok (.iload_n 3, 1) := by decide +kernel
theorem dX2_happen_55 : decode cX2_happen 55 = .ok (.ifCond .eq 69, 3) := by decide +kernel
theorem dX2_happen_58 : decode cX2_happen 58 = .ok (.aload_n 0, 1) := by decide +kernel
theorem dX2_happen_59 : decode cX2_happen 59 = .ok (.getfield 13, 3) := by decide +kernel
theorem dX2_happen_62 : decode cX2_happen 62 = .ok (.bipush 9, 2) := by decide +kernel
theorem dX2_happen_64 : decode cX2_happen 64 = .ok (.aaload, 1) := by decide +kernel
theorem dX2_happen_65 : decode cX2_happen 65 = .ok (.iload_n 3, 1) := by decide +kernel
theorem dX2_happen_66 : decode cX2_happen 66 = .ok (.iconst 1, 1) := by decide +kernel
theorem dX2_happen_67 : decode cX2_happen 67 = .ok (.iastore, 1) := by decide +kernel
theorem dX2_happen_68 : decode cX2_happen 68 = .ok (.aload_n 0, 1) := by decide +kernel
theorem dX2_happen_69 : decode cX2_happen 69 = .ok (.aload_n 0, 1) := by decide +kernel
theorem dX2_happen_70 : decode cX2_happen 70 = .ok (.getfield 13, 3) := by decide +kernel
theorem dX2_happen_73 : decode cX2_happen 73 = .ok (.bipush 8, 2) := by decide +kernel
theorem dX2_happen_75 : decode cX2_happen 75 = .ok (.aaload, 1) := by decide +kernel
theorem dX2_happen_76 : decode cX2_happen 76 = .ok (.iload_n 3, 1) := by decide +kernel
theorem dX2_happen_77 : decode cX2_happen 77 = .ok (.iaload, 1) := by decide +kernel
theorem dX2_happen_78 : decode cX2_happen 78 = .ok (.aload_n 0, 1) := by decide +kernel
theorem dX2_happen_79 : decode cX2_happen 79 = .ok (.getfield 13, 3) := by decide +kernel
theorem dX2_happen_82 : decode cX2_happen 82 = .ok (.iconst 3, 1) := by decide +kernel
theorem dX2_happen_83 : decode cX2_happen 83 = .ok (.aaload, 1) := by decide +kernel
theorem dX2_happen_84 : decode cX2_happen 84 = .ok (.iload_n 3, 1) := by decide +kernel
theorem dX2_happen_85 : decode cX2_happen 85 = .ok (.iaload, 1) := by decide +kernel
theorem dX2_happen_86 : decode cX2_happen 86 = .ok (.iadd, 1) := by decide +kernel
theorem dX2_happen_87 : decode cX2_happen 87 = .ok (.putfield 52, 3) := by decide +kernel
theorem dX2_happen_90 : decode cX2_happen 90 = .ok (.aload_n 0, 1) := by decide +kernel
theorem dX2_happen_91 : decode cX2_happen 91 = .ok (.aload_n 0, 1) := by decide +kernel
theorem dX2_happen_92 : decode cX2_happen 92 = .ok (.sipush 1000, 3) := by decide +kernel
theorem dX2_happen_95 : decode cX2_happen 95 = .ok (.iload_n 3, 1) := by decide +kernel
theorem dX2_happen_96 : decode cX2_happen 96 = .ok (.iadd, 1) := by decide +kernel
theorem dX2_happen_97 : decode cX2_happen 97 = .ok (.invokevirtual 110, 3) := by decide +kernel
theorem dX2_happen_100 : decode cX2_happen 100 = .ok (.invokevirtual 113, 3) := by decide +kernel
theorem dX2_happen_103 : decode cX2_happen 103 = .ok (.aload_n 0, 1) := by decide +kernel
theorem dX2_happen_104 : decode cX2_happen 104 = .ok (.invokevirtual 103, 3) := by decide +kernel
theorem dX2_happen_107 : decode cX2_happen 107 = .ok (.ifCond .ne 5, 3) := by decide +kernel
theorem dX2_happen_110 : decode cX2_happen 110 = .ok (.iconst 0, 1) := by decide +kernel
theorem dX2_happen_111 : decode cX2_happen 111 = .ok (.ireturn, 1) := by decide +kernel
theorem dX2_happen_112 : decode cX2_happen 112 = .ok (.aload_n 0, 1) := by decide +kernel
theorem dX2_happen_113 : decode cX2_happen 113 = .ok (.iload_n 2, 1) := by decide +kernel
theorem dX2_happen_114 : decode cX2_happen 114 = .ok (.invokevirtual 107, 3) := by decide +kernel
theorem dX2_happen_117 : decode cX2_happen 117 = .ok (.istore_n 3, 1) := by decide +kernel
theorem dX2_happen_118 : decode cX2_happen 118 = .ok (.iinc 4 1, 3) := by decide +kernel
theorem dX2_happen_121 : decode cX2_happen 121 = .ok (.goto (-75), 3) := by decide +kernel
theorem dX2_happen_124 : decode cX2_happen 124 = .ok (.iload_n 3, 1) := by decide +kernel
theorem dX2_happen_125 : decode cX2_happen 125 = .ok (.ifCond .eq 5, 3) := by decide +kernel
theorem dX2_happen_128 : decode cX2_happen 128 = .ok (.iconst 0, 1) := by decide +kernel
theorem dX2_happen_129 : decode cX2_happen 129 = .ok (.ireturn, 1) := by decide +kernel
theorem dX2_happen_130 : decode cX2_happen 130 = .ok (.aload_n 0, 1) := by decide +kernel
theorem dX2_happen_131 : decode cX2_happen 131 = .ok (.iload_n 2, 1) := by decide +kernel
theorem dX2_happen_132 : decode cX2_happen 132 = .ok (.putfield 52, 3) := by decide +kernel
theorem dX2_happen_135 : decode cX2_happen 135 = .ok (.iload_n 1, 1) := by decide +kernel
theorem dX2_happen_136 : decode cX2_happen 136 = .ok (.ifCond .ne 5, 3) := by decide +kernel
theorem dX2_happen_139 : decode cX2_happen 139 = .ok (.iconst 1, 1) := by decide +kernel
theorem dX2_happen_140 : decode cX2_happen 140 = .ok (.ireturn, 1) := by decide +kernel
theorem dX2_happen_141 : decode cX2_happen 141 = .ok (.aload_n 0, 1) := by decide +kernel
theorem dX2_happen_142 : decode cX2_happen 142 = .ok (.iload_n 1, 1) := by decide +kernel
theorem dX2_happen_143 : decode cX2_happen 143 = .ok (.invokevirtual 110, 3) := by decide +kernel
theorem dX2_happen_146 : decode cX2_happen 146 = .ok (.istore 4, 2) := by decide +kernel
theorem dX2_happen_148 : decode cX2_happen 148 = .ok (.aload_n 0, 1) := by decide +kernel
theorem dX2_happen_149 : decode cX2_happen 149 = .ok (.iload 4, 2) := by decide +kernel
theorem dX2_happen_151 : decode cX2_happen 151 = .ok (.invokevirtual 113, 3) := by decide +kernel
theorem dX2_happen_154 : decode cX2_happen 154 = .ok (.aload_n 0, 1) := by decide +kernel
theorem dX2_happen_155 : decode cX2_happen 155 = .ok (.dup, 1) := by decide +kernel
theorem dX2_happen_156 : decode cX2_happen 156 = .ok (.getfield 58, 3) := by decide +kernel
theorem dX2_happen_159 : decode cX2_happen 159 = .ok (.iload 4, 2) := by decide +kernel
theorem dX2_happen_161 : decode cX2_happen 161 = .ok (.ifCond .ne 7, 3) := by decide +kernel
theorem dX2_happen_164 : decode cX2_happen 164 = .ok (.iconst 1, 1) := by decide +kernel
theorem dX2_happen_165 : decode cX2_happen 165 = .ok (.goto 4, 3) := by decide +kernel
theorem dX2_happen_168 : decode cX2_happen 168 = .ok (.iconst 0, 1) := by decide +kernel
theorem dX2_happen_169 : decode cX2_happen 169 = .ok (.iadd, 1) := by decide +kernel
theorem dX2_happen_170 : decode cX2_happen 170 = .ok (.putfield 58, 3) := by decide +kernel
theorem dX2_happen_173 : decode cX2_happen 173 = .ok (.aload_n 0, 1) := by decide +kernel
theorem dX2_happen_174 : decode cX2_happen 174 = .ok (.invokevirtual 103, 3) := by decide +kernel
theorem dX2_happen_177 : decode cX2_happen 177 = .ok (.ireturn, 1) := by decide +kernel
theorem cwX2_happen : mw_cwV yX2_happen cX2_happen 5 ((some .boolean)) 2 := ⟨⟨wd_12, wd_1654, by decide +kernel⟩, wd_1653, sl_116⟩
set_option maxHeartbeats 4000000 in
set_option maxRecDepth 100000 in
theorem tX2_happen (l : Launch) (G : mwG) (ad : Nat → Nat) (fu : Nat) (k : Nat) (a1 : Int32) (a2 : Int32) (M : mwM) (L : mwL) {r0 : Int32} {M0 : mwM} {L0 : mwL} (hD : DX2_happen fu k a1 a2 M L = some (r0, M0, L0)) (hk0 : isCh k) : Met l yX2_happen (Cond.code yX2_happen cX2_happen 5 ((some .boolean)) :: GT) ({ frames := 4, cells := 0, slots := 0, locals := 97 }) (mw_Pre G ad NF TF FF M L [.ref (ad k), .int a1, .int a2]) (mw_Qi G ad NF TF FF (mw_eqI r0 M0 L0)) 0 0 (mw_fr G) := by
  refine mw_enter (by decide) (Nat.le_of_ble_eq_true rfl) ?_
  intro p e s m below meth c ls C hr hlocks hnm hw hl
  have hl : lv_has ls 5 [(0, .ref (ad k)), (1, .int a1), (2, .int a2)] := hl
  have hb169 : ∀ (s1 : Int32) (s2 : Int32) (M : mwM) (L : mwL) (H : Heap) (locs : List Loc) (ls : Array Slot), fX2_happen_b169 fu k a1 a2 s1 s2 M L = some (r0, M0, L0) → mw_W G ad NF TF FF M L H locs → lv_has ls 5 [(0, .ref (ad k))] → W p l e ({ frames := 4, cells := 0, slots := 0, locals := 97 }) s m [.ref (ad k), .int a1, .int a2].toArray below meth c H locs 0 0 (MQ below (mw_Qi G ad NF TF FF (mw_eqI r0 M0 L0)) [.ref (ad k), .int a1, .int a2].toArray s 0 0 (mw_fr G)) (F0 m 169 ls [.int s2, .int s1, .ref (ad k)]) := by
    intro s1 s2 M L H locs ls hD hw hl
    unfold fX2_happen_b169 at hD
    refine lv_iadd C.1.1 C.1.2.1 dX2_happen_169 ?_
    obtain ⟨M36, eM36, hD⟩ := g_let hD
    refine mr_putI C hw kc_2 14 (Ch_N0 hk0) (Ch_T0 hk0) wd_469 dX2_happen_170 (by decide) rfl rfl rfl rfl (fun H locs hw => ?_)
    replace hw : mw_W G ad NF TF FF M36 L H locs := by rw [eM36]; exact hw
    refine lv_aload_n C.1.1 C.1.2.1 dX2_happen_173 rfl (lv_at hl 0 rfl) ?_
    obtain ⟨r39, M37, L38, h1, hD⟩ := g_b3 hD
    refine md_cvI (As := []) (rest := []) C hw (tX2_chain l G ad fu k M36 L h1 hk0) kc_2 (Ch_N0 hk0) (Ch_T0 hk0) wd_1675 cwX2_chain ⟨Nat.le_of_ble_eq_true rfl, Nat.le_of_ble_eq_true rfl⟩ rfl hl.1 (Nat.le_of_ble_eq_true rfl) dX2_happen_174 rfl rfl ⟨Nat.zero_le _, Nat.zero_le _⟩ rfl (fun H locs hw => ?_)
    obtain ⟨z40, hD⟩ := g_zz hD
    exact mr_iret C hr hlocks hw (nz_zz z40) (Option.some.inj hD) dX2_happen_177
  have hb124 : ∀ (v3 : Int32) (M : mwM) (L : mwL) (H : Heap) (locs : List Loc) (ls : Array Slot), fX2_happen_b124 fu k a1 a2 v3 M L = some (r0, M0, L0) → mw_W G ad NF TF FF M L H locs → lv_has ls 5 [(0, .ref (ad k)), (1, .int a1), (2, .int a2), (3, .int v3)] → W p l e ({ frames := 4, cells := 0, slots := 0, locals := 97 }) s m [.ref (ad k), .int a1, .int a2].toArray below meth c H locs 0 0 (MQ below (mw_Qi G ad NF TF FF (mw_eqI r0 M0 L0)) [.ref (ad k), .int a1, .int a2].toArray s 0 0 (mw_fr G)) (F0 m 124 ls []) := by
    intro v3 M L H locs ls hD hw hl
    unfold fX2_happen_b124 at hD
    refine lv_iload_n C.1.1 C.1.2.1 dX2_happen_124 rfl (lv_at hl 3 rfl) ?_
    refine lv_if_eq (tgt := 130) C.1.1 C.1.2.1 dX2_happen_125 (by decide) (fun c27 => ?_) (fun c27 => ?_)
    · replace hD := g_pos c27 hD
      refine lv_aload_n C.1.1 C.1.2.1 dX2_happen_130 rfl (lv_at hl 0 rfl) ?_
      refine lv_iload_n C.1.1 C.1.2.1 dX2_happen_131 rfl (lv_at hl 2 rfl) ?_
      obtain ⟨M28, eM28, hD⟩ := g_let hD
      refine mr_putI C hw kc_2 12 (Ch_N0 hk0) (Ch_T0 hk0) wd_466 dX2_happen_132 (by decide) rfl rfl rfl rfl (fun H locs hw => ?_)
      replace hw : mw_W G ad NF TF FF M28 L H locs := by rw [eM28]; exact hw
      refine lv_iload_n C.1.1 C.1.2.1 dX2_happen_135 rfl (lv_at hl 1 rfl) ?_
      refine lv_if_ne (tgt := 141) C.1.1 C.1.2.1 dX2_happen_136 (by decide) (fun c29 => ?_) (fun c29 => ?_)
      · replace hD := g_neg c29 hD
        refine lv_aload_n C.1.1 C.1.2.1 dX2_happen_141 rfl (lv_at hl 0 rfl) ?_
        refine lv_iload_n C.1.1 C.1.2.1 dX2_happen_142 rfl (lv_at hl 1 rfl) ?_
        obtain ⟨r32, M30, L31, h1, hD⟩ := g_b3 hD
        refine md_cvI (As := [.int a1]) (rest := []) C hw (tX2_select l G ad fu k a1 M28 L h1 hk0) kc_2 (Ch_N0 hk0) (Ch_T0 hk0) wd_1679 cwX2_select ⟨Nat.le_of_ble_eq_true rfl, Nat.le_of_ble_eq_true rfl⟩ rfl hl.1 (Nat.le_of_ble_eq_true rfl) dX2_happen_143 rfl rfl ⟨Nat.zero_le _, Nat.zero_le _⟩ rfl (fun H locs hw => ?_)
        refine lv_istore (lv' := [(4, .int r32), (0, .ref (ad k)), (1, .int a1), (2, .int a2), (3, .int v3)]) C.1.1 C.1.2.1 dX2_happen_146 hl (by decide) rfl (fun ls hl => ?_)
        refine lv_aload_n C.1.1 C.1.2.1 dX2_happen_148 rfl (lv_at hl 1 rfl) ?_
        refine lv_iload C.1.1 C.1.2.1 dX2_happen_149 (lv_at hl 0 rfl) ?_
        obtain ⟨M33, L34, h1, hD⟩ := g_b2 hD
        refine md_cvV (As := [.int r32]) (rest := []) C hw (tX2_goOn l G ad fu k r32 M30 L31 h1 hk0) kc_2 (Ch_N0 hk0) (Ch_T0 hk0) wd_1711 cwX2_goOn ⟨Nat.le_of_ble_eq_true rfl, Nat.le_of_ble_eq_true rfl⟩ rfl hl.1 (Nat.le_of_ble_eq_true rfl) dX2_happen_151 rfl rfl ⟨Nat.zero_le _, Nat.zero_le _⟩ rfl (fun H locs hw => ?_)
        refine lv_aload_n C.1.1 C.1.2.1 dX2_happen_154 rfl (lv_at hl 1 rfl) ?_
        refine lv_dup C.1.1 C.1.2.1 dX2_happen_155 rfl ?_
        refine mr_getI C hw kc_2 14 (Ch_N0 hk0) (Ch_T0 hk0) wd_469 dX2_happen_156 (by decide) rfl ?_
        refine lv_iload C.1.1 C.1.2.1 dX2_happen_159 (lv_at hl 0 rfl) ?_
        refine lv_if_ne (tgt := 168) C.1.1 C.1.2.1 dX2_happen_161 (by decide) (fun c35 => ?_) (fun c35 => ?_)
        · replace hD := g_neg c35 hD
          refine lv_iconst (v := 0) C.1.1 C.1.2.1 dX2_happen_168 (by decide) ?_
          exact hb169 (M33 k 14) 0 M33 L34 _ _ ls hD hw (lv_sub hl [1] rfl)
        · replace hD := g_pos c35 hD
          refine lv_iconst (v := 1) C.1.1 C.1.2.1 dX2_happen_164 (by decide) ?_
          refine lv_goto (tgt := 169) C.1.1 C.1.2.1 dX2_happen_165 (by decide) ?_
          exact hb169 (M33 k 14) 1 M33 L34 _ _ ls hD hw (lv_sub hl [1] rfl)
      · replace hD := g_pos c29 hD
        refine lv_iconst (v := 1) C.1.1 C.1.2.1 dX2_happen_139 (by decide) ?_
        exact mr_iret C hr hlocks hw (by decide +kernel) (Option.some.inj hD) dX2_happen_140
    · replace hD := g_neg c27 hD
      refine lv_iconst (v := 0) C.1.1 C.1.2.1 dX2_happen_128 (by decide) ?_
      exact mr_iret C hr hlocks hw (by decide +kernel) (Option.some.inj hD) dX2_happen_129
  have hh46 : ∀ (f : Nat) (v3 : Int32) (v4 : Int32) (M : mwM) (L : mwL) (H : Heap) (locs : List Loc) (ls : Array Slot), fX2_happen_h46 fu k a1 a2 f (v3, v4, M, L) = some (r0, M0, L0) → mw_W G ad NF TF FF M L H locs → lv_has ls 5 [(0, .ref (ad k)), (1, .int a1), (2, .int a2), (3, .int v3), (4, .int v4)] → W p l e ({ frames := 4, cells := 0, slots := 0, locals := 97 }) s m [.ref (ad k), .int a1, .int a2].toArray below meth c H locs 0 0 (MQ below (mw_Qi G ad NF TF FF (mw_eqI r0 M0 L0)) [.ref (ad k), .int a1, .int a2].toArray s 0 0 (mw_fr G)) (F0 m 46 ls []) := by
    intro f
    induction f with
    | zero => intro v3 v4 M L H locs ls hD; cases hD
    | succ f46 ih46 =>
      intro v3 v4 M L H locs ls hD hw hl
      replace hD : fX2_happen_i46 fu k a1 a2 (fX2_happen_h46 fu k a1 a2 f46) v3 v4 M L = some (r0, M0, L0) := hD
      unfold fX2_happen_i46 at hD
      refine lv_iload C.1.1 C.1.2.1 dX2_happen_46 (lv_at hl 4 rfl) ?_
      refine lv_sipush (v := 1000) C.1.1 C.1.2.1 dX2_happen_48 (by decide) ?_
      refine lv_icmp_ge (tgt := 124) C.1.1 C.1.2.1 dX2_happen_51 (by decide) (fun c4 => ?_) (fun c4 => ?_)
      · replace hD := g_pos c4 hD
        exact hb124 v3 M L _ _ ls hD hw (lv_sub hl [0, 1, 2, 3] rfl)
      · replace hD := g_neg c4 hD
        refine lv_iload_n C.1.1 C.1.2.1 dX2_happen_54 rfl (lv_at hl 3 rfl) ?_
        refine lv_if_eq (tgt := 124) C.1.1 C.1.2.1 dX2_happen_55 (by decide) (fun c5 => ?_) (fun c5 => ?_)
        · replace hD := g_pos c5 hD
          exact hb124 v3 M L _ _ ls hD hw (lv_sub hl [0, 1, 2, 3] rfl)
        · replace hD := g_neg c5 hD
          refine lv_aload_n C.1.1 C.1.2.1 dX2_happen_58 rfl (lv_at hl 0 rfl) ?_
          refine mr_getR C hw kc_2 0 (Ch_N0 hk0) (Ch_T0 hk0) (Ch_F0_0 hk0) wd_444 dX2_happen_59 (by decide) rfl ?_
          refine lv_bipush (v := 9) C.1.1 C.1.2.1 dX2_happen_62 (by decide) ?_
          refine mr_aald C hw (Ch_N1 hk0) (Ch_T1 hk0) (by decide) (by decide) rfl rfl (show vp_in 9 18 from by unfold vp_in; decide) (Ch_R1 hk0 _ (by decide : 9 < 18)).1 dX2_happen_64 ?_
          refine lv_iload_n C.1.1 C.1.2.1 dX2_happen_65 rfl (lv_at hl 3 rfl) ?_
          refine lv_iconst (v := 1) C.1.1 C.1.2.1 dX2_happen_66 (by decide) ?_
          obtain ⟨q7, hD⟩ := g_ck hD
          obtain ⟨M8, eM8, hD⟩ := g_let hD
          refine mr_iast C hw (Ch_N11 hk0) (Ch_T11 hk0) q7 dX2_happen_67 (fun H locs hw => ?_)
          replace hw : mw_W G ad NF TF FF M8 L H locs := by rw [eM8]; exact hw
          refine lv_aload_n C.1.1 C.1.2.1 dX2_happen_68 rfl (lv_at hl 0 rfl) ?_
          refine lv_aload_n C.1.1 C.1.2.1 dX2_happen_69 rfl (lv_at hl 0 rfl) ?_
          refine mr_getR C hw kc_2 0 (Ch_N0 hk0) (Ch_T0 hk0) (Ch_F0_0 hk0) wd_444 dX2_happen_70 (by decide) rfl ?_
          refine lv_bipush (v := 8) C.1.1 C.1.2.1 dX2_happen_73 (by decide) ?_
          refine mr_aald C hw (Ch_N1 hk0) (Ch_T1 hk0) (by decide) (by decide) rfl rfl (show vp_in 8 18 from by unfold vp_in; decide) (Ch_R1 hk0 _ (by decide : 8 < 18)).1 dX2_happen_75 ?_
          refine lv_iload_n C.1.1 C.1.2.1 dX2_happen_76 rfl (lv_at hl 3 rfl) ?_
          obtain ⟨q10, hD⟩ := g_ck hD
          refine mr_iald C hw (Ch_N10 hk0) (Ch_T10 hk0) q10 dX2_happen_77 ?_
          refine lv_aload_n C.1.1 C.1.2.1 dX2_happen_78 rfl (lv_at hl 0 rfl) ?_
          refine mr_getR C hw kc_2 0 (Ch_N0 hk0) (Ch_T0 hk0) (Ch_F0_0 hk0) wd_444 dX2_happen_79 (by decide) rfl ?_
          refine lv_iconst (v := 3) C.1.1 C.1.2.1 dX2_happen_82 (by decide) ?_
          refine mr_aald C hw (Ch_N1 hk0) (Ch_T1 hk0) (by decide) (by decide) rfl rfl (show vp_in 3 18 from by unfold vp_in; decide) (Ch_R1 hk0 _ (by decide : 3 < 18)).1 dX2_happen_83 ?_
          refine lv_iload_n C.1.1 C.1.2.1 dX2_happen_84 rfl (lv_at hl 3 rfl) ?_
          obtain ⟨q12, hD⟩ := g_ck hD
          refine mr_iald C hw (Ch_N5 hk0) (Ch_T5 hk0) q12 dX2_happen_85 ?_
          refine lv_iadd C.1.1 C.1.2.1 dX2_happen_86 ?_
          obtain ⟨M13, eM13, hD⟩ := g_let hD
          refine mr_putI C hw kc_2 12 (Ch_N0 hk0) (Ch_T0 hk0) wd_466 dX2_happen_87 (by decide) rfl rfl rfl rfl (fun H locs hw => ?_)
          replace hw : mw_W G ad NF TF FF M13 L H locs := by rw [eM13]; exact hw
          refine lv_aload_n C.1.1 C.1.2.1 dX2_happen_90 rfl (lv_at hl 0 rfl) ?_
          refine lv_aload_n C.1.1 C.1.2.1 dX2_happen_91 rfl (lv_at hl 0 rfl) ?_
          refine lv_sipush (v := 1000) C.1.1 C.1.2.1 dX2_happen_92 (by decide) ?_
          refine lv_iload_n C.1.1 C.1.2.1 dX2_happen_95 rfl (lv_at hl 3 rfl) ?_
          refine lv_iadd C.1.1 C.1.2.1 dX2_happen_96 ?_
          obtain ⟨r16, M14, L15, h1, hD⟩ := g_b3 hD
          refine md_cvI (As := [.int (1000 + v3)]) (rest := [.ref (ad k)]) C hw (tX2_select l G ad fu k (1000 + v3) M13 L h1 hk0) kc_2 (Ch_N0 hk0) (Ch_T0 hk0) wd_1679 cwX2_select ⟨Nat.le_of_ble_eq_true rfl, Nat.le_of_ble_eq_true rfl⟩ rfl hl.1 (Nat.le_of_ble_eq_true rfl) dX2_happen_97 rfl rfl ⟨Nat.zero_le _, Nat.zero_le _⟩ rfl (fun H locs hw => ?_)
          obtain ⟨M17, L18, h1, hD⟩ := g_b2 hD
          refine md_cvV (As := [.int r16]) (rest := []) C hw (tX2_goOn l G ad fu k r16 M14 L15 h1 hk0) kc_2 (Ch_N0 hk0) (Ch_T0 hk0) wd_1711 cwX2_goOn ⟨Nat.le_of_ble_eq_true rfl, Nat.le_of_ble_eq_true rfl⟩ rfl hl.1 (Nat.le_of_ble_eq_true rfl) dX2_happen_100 rfl rfl ⟨Nat.zero_le _, Nat.zero_le _⟩ rfl (fun H locs hw => ?_)
          refine lv_aload_n C.1.1 C.1.2.1 dX2_happen_103 rfl (lv_at hl 0 rfl) ?_
          obtain ⟨r21, M19, L20, h1, hD⟩ := g_b3 hD
          refine md_cvI (As := []) (rest := []) C hw (tX2_chain l G ad fu k M17 L18 h1 hk0) kc_2 (Ch_N0 hk0) (Ch_T0 hk0) wd_1675 cwX2_chain ⟨Nat.le_of_ble_eq_true rfl, Nat.le_of_ble_eq_true rfl⟩ rfl hl.1 (Nat.le_of_ble_eq_true rfl) dX2_happen_104 rfl rfl ⟨Nat.zero_le _, Nat.zero_le _⟩ rfl (fun H locs hw => ?_)
          refine lv_if_ne (tgt := 112) C.1.1 C.1.2.1 dX2_happen_107 (by decide) (fun c22 => ?_) (fun c22 => ?_)
          · replace hD := g_neg c22 hD
            refine lv_aload_n C.1.1 C.1.2.1 dX2_happen_112 rfl (lv_at hl 0 rfl) ?_
            refine lv_iload_n C.1.1 C.1.2.1 dX2_happen_113 rfl (lv_at hl 2 rfl) ?_
            obtain ⟨r25, M23, L24, h1, hD⟩ := g_b3 hD
            refine md_cvI (As := [.int a2]) (rest := []) C hw (tX2_nextToSpeak l G ad fu k a2 M19 L20 h1 hk0) kc_2 (Ch_N0 hk0) (Ch_T0 hk0) wd_1719 cwX2_nextToSpeak ⟨Nat.le_of_ble_eq_true rfl, Nat.le_of_ble_eq_true rfl⟩ rfl hl.1 (Nat.le_of_ble_eq_true rfl) dX2_happen_114 rfl rfl ⟨Nat.zero_le _, Nat.zero_le _⟩ rfl (fun H locs hw => ?_)
            refine lv_istore_n (lv' := [(3, .int r25), (0, .ref (ad k)), (1, .int a1), (2, .int a2), (4, .int v4)]) C.1.1 C.1.2.1 dX2_happen_117 rfl hl (by decide) rfl (fun ls hl => ?_)
            obtain ⟨x26, ex26, hD⟩ := g_let hD
            refine lv_iinc (v := x26) (lv' := [(4, .int x26), (3, .int r25), (0, .ref (ad k)), (1, .int a1), (2, .int a2)]) C.1.1 C.1.2.1 dX2_happen_118 hl (k := 4) rfl (by rw [ex26]; rfl) (by decide) rfl (fun ls hl => ?_)
            refine lv_goto (tgt := 46) C.1.1 C.1.2.1 dX2_happen_121 (by decide) ?_
            exact ih46 r25 x26 M23 L24 _ _ ls hD hw (lv_sub hl [2, 3, 4, 1, 0] rfl)
          · replace hD := g_pos c22 hD
            refine lv_iconst (v := 0) C.1.1 C.1.2.1 dX2_happen_110 (by decide) ?_
            exact mr_iret C hr hlocks hw (by decide +kernel) (Option.some.inj hD) dX2_happen_111
  have hb37 : ∀ (M : mwM) (L : mwL) (H : Heap) (locs : List Loc) (ls : Array Slot), fX2_happen_b37 fu k a1 a2 M L = some (r0, M0, L0) → mw_W G ad NF TF FF M L H locs → lv_has ls 5 [(0, .ref (ad k)), (1, .int a1), (2, .int a2)] → W p l e ({ frames := 4, cells := 0, slots := 0, locals := 97 }) s m [.ref (ad k), .int a1, .int a2].toArray below meth c H locs 0 0 (MQ below (mw_Qi G ad NF TF FF (mw_eqI r0 M0 L0)) [.ref (ad k), .int a1, .int a2].toArray s 0 0 (mw_fr G)) (F0 m 37 ls []) := by
    intro M L H locs ls hD hw hl
    unfold fX2_happen_b37 at hD
    refine lv_aload_n C.1.1 C.1.2.1 dX2_happen_37 rfl (lv_at hl 0 rfl) ?_
    refine lv_iload_n C.1.1 C.1.2.1 dX2_happen_38 rfl (lv_at hl 2 rfl) ?_
    obtain ⟨r3, M1, L2, h1, hD⟩ := g_b3 hD
    refine md_cvI (As := [.int a2]) (rest := []) C hw (tX2_nextToSpeak l G ad fu k a2 M L h1 hk0) kc_2 (Ch_N0 hk0) (Ch_T0 hk0) wd_1719 cwX2_nextToSpeak ⟨Nat.le_of_ble_eq_true rfl, Nat.le_of_ble_eq_true rfl⟩ rfl hl.1 (Nat.le_of_ble_eq_true rfl) dX2_happen_39 rfl rfl ⟨Nat.zero_le _, Nat.zero_le _⟩ rfl (fun H locs hw => ?_)
    refine lv_istore_n (lv' := [(3, .int r3), (0, .ref (ad k)), (1, .int a1), (2, .int a2)]) C.1.1 C.1.2.1 dX2_happen_42 rfl hl (by decide) rfl (fun ls hl => ?_)
    refine lv_iconst (v := 0) C.1.1 C.1.2.1 dX2_happen_43 (by decide) ?_
    refine lv_istore (lv' := [(4, .int 0), (3, .int r3), (0, .ref (ad k)), (1, .int a1), (2, .int a2)]) C.1.1 C.1.2.1 dX2_happen_44 hl (by decide) rfl (fun ls hl => ?_)
    exact hh46 fu r3 0 M1 L2 _ _ ls hD hw (lv_sub hl [2, 3, 4, 1, 0] rfl)
  unfold DX2_happen at hD
  refine lv_aload_n C.1.1 C.1.2.1 dX2_happen_0 rfl (lv_at hl 0 rfl) ?_
  refine mr_getI C hw kc_2 16 (Ch_N0 hk0) (Ch_T0 hk0) wd_472 dX2_happen_1 (by decide) rfl ?_
  refine lv_if_ne (tgt := 37) C.1.1 C.1.2.1 dX2_happen_4 (by decide) (fun c41 => ?_) (fun c41 => ?_)
  · replace hD := g_neg c41 hD
    exact hb37 M L _ _ ls hD hw (lv_sub hl [0, 1, 2] rfl)
  · replace hD := g_pos c41 hD
    refine lv_aload_n C.1.1 C.1.2.1 dX2_happen_7 rfl (lv_at hl 0 rfl) ?_
    refine lv_iconst (v := 1) C.1.1 C.1.2.1 dX2_happen_8 (by decide) ?_
    obtain ⟨M42, eM42, hD⟩ := g_let hD
    refine mr_putI C hw kc_2 16 (Ch_N0 hk0) (Ch_T0 hk0) wd_472 dX2_happen_9 (by decide) rfl rfl (by decide +kernel) (by decide +kernel) (fun H locs hw => ?_)
    replace hw : mw_W G ad NF TF FF M42 L H locs := by rw [eM42]; exact hw
    refine lv_aload_n C.1.1 C.1.2.1 dX2_happen_12 rfl (lv_at hl 0 rfl) ?_
    refine lv_iload_n C.1.1 C.1.2.1 dX2_happen_13 rfl (lv_at hl 2 rfl) ?_
    obtain ⟨M43, eM43, hD⟩ := g_let hD
    refine mr_putI C hw kc_2 12 (Ch_N0 hk0) (Ch_T0 hk0) wd_466 dX2_happen_14 (by decide) rfl rfl rfl rfl (fun H locs hw => ?_)
    replace hw : mw_W G ad NF TF FF M43 L H locs := by rw [eM43]; exact hw
    refine lv_aload_n C.1.1 C.1.2.1 dX2_happen_17 rfl (lv_at hl 0 rfl) ?_
    refine lv_iconst (v := 0) C.1.1 C.1.2.1 dX2_happen_18 (by decide) ?_
    refine lv_iconst (v := 0) C.1.1 C.1.2.1 dX2_happen_19 (by decide) ?_
    obtain ⟨M44, L45, h1, hD⟩ := g_b2 hD
    refine md_cvV (As := [.int 0, .int 0]) (rest := []) C hw (tX2_aim l G ad fu k 0 0 M43 L h1 hk0) kc_2 (Ch_N0 hk0) (Ch_T0 hk0) wd_1655 cwX2_aim ⟨Nat.le_of_ble_eq_true rfl, Nat.le_of_ble_eq_true rfl⟩ rfl hl.1 (Nat.le_of_ble_eq_true rfl) dX2_happen_20 rfl rfl ⟨Nat.zero_le _, Nat.zero_le _⟩ rfl (fun H locs hw => ?_)
    refine lv_aload_n C.1.1 C.1.2.1 dX2_happen_23 rfl (lv_at hl 0 rfl) ?_
    refine lv_iconst (v := 0) C.1.1 C.1.2.1 dX2_happen_24 (by decide) ?_
    obtain ⟨M46, L47, h1, hD⟩ := g_b2 hD
    refine md_cvV (As := [.int 0]) (rest := []) C hw (tX2_enterAll l G ad fu k 0 M44 L45 h1 hk0) kc_2 (Ch_N0 hk0) (Ch_T0 hk0) wd_1663 cwX2_enterAll ⟨Nat.le_of_ble_eq_true rfl, Nat.le_of_ble_eq_true rfl⟩ rfl hl.1 (Nat.le_of_ble_eq_true rfl) dX2_happen_25 rfl rfl ⟨Nat.zero_le _, Nat.zero_le _⟩ rfl (fun H locs hw => ?_)
    refine lv_aload_n C.1.1 C.1.2.1 dX2_happen_28 rfl (lv_at hl 0 rfl) ?_
    obtain ⟨r50, M48, L49, h1, hD⟩ := g_b3 hD
    refine md_cvI (As := []) (rest := []) C hw (tX2_chain l G ad fu k M46 L47 h1 hk0) kc_2 (Ch_N0 hk0) (Ch_T0 hk0) wd_1675 cwX2_chain ⟨Nat.le_of_ble_eq_true rfl, Nat.le_of_ble_eq_true rfl⟩ rfl hl.1 (Nat.le_of_ble_eq_true rfl) dX2_happen_29 rfl rfl ⟨Nat.zero_le _, Nat.zero_le _⟩ rfl (fun H locs hw => ?_)
    refine lv_if_ne (tgt := 37) C.1.1 C.1.2.1 dX2_happen_32 (by decide) (fun c51 => ?_) (fun c51 => ?_)
    · replace hD := g_neg c51 hD
      exact hb37 M48 L49 _ _ ls hD hw (lv_sub hl [0, 1, 2] rfl)
    · replace hD := g_pos c51 hD
      refine lv_iconst (v := 0) C.1.1 C.1.2.1 dX2_happen_35 (by decide) ?_
      exact mr_iret C hr hlocks hw (by decide +kernel) (Option.some.inj hD) dX2_happen_36

theorem dX2_workOff_0 : decode cX2_workOff 0 = .ok (.aload_n 0, 1) := by decide +kernel
theorem dX2_workOff_1 : decode cX2_workOff 1 = .ok (.getfield 49, 3) := by decide +kernel
theorem dX2_workOff_4 : decode cX2_workOff 4 = .ok (.istore_n 2, 1) := by decide +kernel
theorem dX2_workOff_5 : decode cX2_workOff 5 = .ok (.aload_n 0, 1) := by decide +kernel
theorem dX2_workOff_6 : decode cX2_workOff 6 = .ok (.iconst 0, 1) := by decide +kernel
theorem dX2_workOff_7 : decode cX2_workOff 7 = .ok (.putfield 49, 3) := by decide +kernel
theorem dX2_workOff_10 : decode cX2_workOff 10 = .ok (.aload_n 0, 1) := by decide +kernel
theorem dX2_workOff_11 : decode cX2_workOff 11 = .ok (.getfield 13, 3) := by decide +kernel
theorem dX2_workOff_14 : decode cX2_workOff 14 = .ok (.iconst 4, 1) := by decide +kernel
theorem dX2_workOff_15 : decode cX2_workOff 15 = .ok (.aaload, 1) := by decide +kernel
theorem dX2_workOff_16 : decode cX2_workOff 16 = .ok (.iconst 0, 1) := by decide +kernel
theorem dX2_workOff_17 : decode cX2_workOff 17 = .ok (.iaload, 1) := by decide +kernel
theorem dX2_workOff_18 : decode cX2_workOff 18 = .ok (.ifCond .ne 4, 3) := by decide +kernel
theorem dX2_workOff_21 : decode cX2_workOff 21 = .ok (.return_, 1) := by decide +kernel
theorem dX2_workOff_22 : decode cX2_workOff 22 = .ok (.iload_n 2, 1) := by decide +kernel
theorem dX2_workOff_23 : decode cX2_workOff 23 = .ok (.ifCond .ne 22, 3) := by decide +kernel
theorem dX2_workOff_26 : decode cX2_workOff 26 = .ok (.aload_n 0, 1) := by decide +kernel
theorem dX2_workOff_27 : decode cX2_workOff 27 = .ok (.iconst 0, 1) := by decide +kernel
theorem dX2_workOff_28 : decode cX2_workOff 28 = .ok (.iload_n 1, 1) := by decide +kernel
theorem dX2_workOff_29 : decode cX2_workOff 29 = .ok (.invokevirtual 94, 3) := by decide +kernel
theorem dX2_workOff_32 : decode cX2_workOff 32 = .ok (.ifCond .ne 13, 3) := by decide +kernel
theorem dX2_workOff_35 : decode cX2_workOff 35 = .ok (.aload_n 0, 1) := by decide +kernel
theorem dX2_workOff_36 : decode cX2_workOff 36 = .ok (.dup, 1) := by decide +kernel
theorem dX2_workOff_37 : decode cX2_workOff 37 = .ok (.getfield 55, 3) := by decide +kernel
theorem dX2_workOff_40 : decode cX2_workOff 40 = .ok (.iconst 1, 1) := by decide +kernel
theorem dX2_workOff_41 : decode cX2_workOff 41 = .ok (.iadd, 1) := by decide +kernel
theorem dX2_workOff_42 : decode cX2_workOff 42 = .ok (.putfield 55, 3) := by decide +kernel
theorem dX2_workOff_45 : decode cX2_workOff 45 = .ok (.iconst 0, 1) := by decide +kernel
theorem dX2_workOff_46 : decode cX2_workOff 46 = .ok (.istore_n 3, 1) := by decide +kernel
theorem dX2_workOff_47 : decode cX2_workOff 47 = .ok (.iload_n 3, 1) := by decide +kernel
theorem dX2_workOff_48 : decode cX2_workOff 48 = .ok (.iload_n 2, 1) := by decide +kernel
theorem dX2_workOff_49 : decode cX2_workOff 49 = .ok (.if_icmp .ge 33, 3) := by decide +kernel
theorem dX2_workOff_52 : decode cX2_workOff 52 = .ok (.aload_n 0, 1) := by decide +kernel
theorem dX2_workOff_53 : decode cX2_workOff 53 = .ok (.aload_n 0, 1) := by decide +kernel
theorem dX2_workOff_54 : decode cX2_workOff 54 = .ok (.getfield 26, 3) := by decide +kernel
theorem dX2_workOff_57 : decode cX2_workOff 57 = .ok (.iload_n 3, 1) := by decide +kernel
theorem dX2_workOff_58 : decode cX2_workOff 58 = .ok (.iaload, 1) := by decide +kernel
theorem dX2_workOff_59 : decode cX2_workOff 59 = .ok (.iload_n 1, 1) := by decide +kernel
theorem dX2_workOff_60 : decode cX2_workOff 60 = .ok (.invokevirtual 94, 3) := by decide +kernel
theorem dX2_workOff_63 : decode cX2_workOff 63 = .ok (.ifCond .ne 13, 3) := by decide +kernel
theorem dX2_workOff_66 : decode cX2_workOff 66 = .ok (.aload_n 0, 1) := by decide +kernel
theorem dX2_workOff_67 : decode cX2_workOff 67 = .ok (.dup, 1) := by decide +kernel
theorem dX2_workOff_68 : decode cX2_workOff 68 = .ok (.getfield 55, 3) := by decide +kernel
theorem dX2_workOff_71 : decode cX2_workOff 71 = .ok (.iconst 1, 1) := by decide +kernel
theorem dX2_workOff_72 : decode cX2_workOff 72 = .ok (.iadd, 1) := by decide +kernel
theorem dX2_workOff_73 : decode cX2_workOff 73 = .ok (.putfield 55, 3) := by decide +kernel
theorem dX2_workOff_76 : decode cX2_workOff 76 = .ok (.iinc 3 1, 3) := by decide +kernel
theorem dX2_workOff_79 : decode cX2_workOff 79 = .ok (.goto (-32), 3) := by decide +kernel
theorem dX2_workOff_82 : decode cX2_workOff 82 = .ok (.return_, 1) := by decide +kernel
theorem cwX2_workOff : mw_cwV yX2_workOff cX2_workOff 4 (none) 1 := ⟨⟨wd_12, wd_1650, by decide +kernel⟩, wd_1648, wd_1649⟩
set_option maxHeartbeats 4000000 in
set_option maxRecDepth 100000 in
theorem tX2_workOff (l : Launch) (G : mwG) (ad : Nat → Nat) (fu : Nat) (k : Nat) (a1 : Int32) (M : mwM) (L : mwL) {M0 : mwM} {L0 : mwL} (hD : DX2_workOff fu k a1 M L = some (M0, L0)) (hk0 : isCh k) : Met l yX2_workOff (Cond.code yX2_workOff cX2_workOff 4 (none) :: GT) ({ frames := 5, cells := 0, slots := 0, locals := 121 }) (mw_Pre G ad NF TF FF M L [.ref (ad k), .int a1]) (mw_Qv G ad NF TF FF (mw_eqV M0 L0)) 0 0 (mw_fr G) := by
  refine mw_enter (by decide) (Nat.le_of_ble_eq_true rfl) ?_
  intro p e s m below meth c ls C hr hlocks hnm hw hl
  have hl : lv_has ls 4 [(0, .ref (ad k)), (1, .int a1)] := hl
  have hh47 : ∀ (f : Nat) (v2 : Int32) (v3 : Int32) (M : mwM) (L : mwL) (H : Heap) (locs : List Loc) (ls : Array Slot), fX2_workOff_h47 fu k a1 f (v2, v3, M, L) = some (M0, L0) → mw_W G ad NF TF FF M L H locs → lv_has ls 4 [(0, .ref (ad k)), (1, .int a1), (2, .int v2), (3, .int v3)] → W p l e ({ frames := 5, cells := 0, slots := 0, locals := 121 }) s m [.ref (ad k), .int a1].toArray below meth c H locs 0 0 (MQ below (mw_Qv G ad NF TF FF (mw_eqV M0 L0)) [.ref (ad k), .int a1].toArray s 0 0 (mw_fr G)) (F0 m 47 ls []) := by
    intro f
    induction f with
    | zero => intro v2 v3 M L H locs ls hD; cases hD
    | succ f47 ih47 =>
      intro v2 v3 M L H locs ls hD hw hl
      replace hD : fX2_workOff_i47 fu k a1 (fX2_workOff_h47 fu k a1 f47) v2 v3 M L = some (M0, L0) := hD
      have hb76 : ∀ (v2 : Int32) (v3 : Int32) (M : mwM) (L : mwL) (H : Heap) (locs : List Loc) (ls : Array Slot), fX2_workOff_b76 fu k a1 (fX2_workOff_h47 fu k a1 f47) v2 v3 M L = some (M0, L0) → mw_W G ad NF TF FF M L H locs → lv_has ls 4 [(0, .ref (ad k)), (1, .int a1), (2, .int v2), (3, .int v3)] → W p l e ({ frames := 5, cells := 0, slots := 0, locals := 121 }) s m [.ref (ad k), .int a1].toArray below meth c H locs 0 0 (MQ below (mw_Qv G ad NF TF FF (mw_eqV M0 L0)) [.ref (ad k), .int a1].toArray s 0 0 (mw_fr G)) (F0 m 76 ls []) := by
        intro v2 v3 M L H locs ls hD hw hl
        unfold fX2_workOff_b76 at hD
        obtain ⟨x8, ex8, hD⟩ := g_let hD
        refine lv_iinc (v := x8) (lv' := [(3, .int x8), (0, .ref (ad k)), (1, .int a1), (2, .int v2)]) C.1.1 C.1.2.1 dX2_workOff_76 hl (k := 3) rfl (by rw [ex8]; rfl) (by decide) rfl (fun ls hl => ?_)
        refine lv_goto (tgt := 47) C.1.1 C.1.2.1 dX2_workOff_79 (by decide) ?_
        exact ih47 v2 x8 M L _ _ ls hD hw (lv_sub hl [1, 2, 3, 0] rfl)
      unfold fX2_workOff_i47 at hD
      refine lv_iload_n C.1.1 C.1.2.1 dX2_workOff_47 rfl (lv_at hl 3 rfl) ?_
      refine lv_iload_n C.1.1 C.1.2.1 dX2_workOff_48 rfl (lv_at hl 2 rfl) ?_
      refine lv_icmp_ge (tgt := 82) C.1.1 C.1.2.1 dX2_workOff_49 (by decide) (fun c1 => ?_) (fun c1 => ?_)
      · replace hD := g_pos c1 hD
        exact mr_vret C hr hlocks hw (Option.some.inj hD) dX2_workOff_82
      · replace hD := g_neg c1 hD
        refine lv_aload_n C.1.1 C.1.2.1 dX2_workOff_52 rfl (lv_at hl 0 rfl) ?_
        refine lv_aload_n C.1.1 C.1.2.1 dX2_workOff_53 rfl (lv_at hl 0 rfl) ?_
        refine mr_getR C hw kc_2 4 (Ch_N0 hk0) (Ch_T0 hk0) (Ch_F0_4 hk0) wd_452 dX2_workOff_54 (by decide) rfl ?_
        refine lv_iload_n C.1.1 C.1.2.1 dX2_workOff_57 rfl (lv_at hl 3 rfl) ?_
        obtain ⟨q2, hD⟩ := g_ck hD
        refine mr_iald C hw (Ch_N35 hk0) (Ch_T35 hk0) q2 dX2_workOff_58 ?_
        refine lv_iload_n C.1.1 C.1.2.1 dX2_workOff_59 rfl (lv_at hl 1 rfl) ?_
        obtain ⟨r5, M3, L4, h1, hD⟩ := g_b3 hD
        refine md_cvI (As := [.int (M (k + 35) v3.toNatClampNeg), .int a1]) (rest := []) C hw (tX2_happen l G ad fu k (M (k + 35) v3.toNatClampNeg) a1 M L h1 hk0) kc_2 (Ch_N0 hk0) (Ch_T0 hk0) wd_1651 cwX2_happen ⟨Nat.le_of_ble_eq_true rfl, Nat.le_of_ble_eq_true rfl⟩ rfl hl.1 (Nat.le_of_ble_eq_true rfl) dX2_workOff_60 rfl rfl ⟨Nat.zero_le _, Nat.zero_le _⟩ rfl (fun H locs hw => ?_)
        refine lv_if_ne (tgt := 76) C.1.1 C.1.2.1 dX2_workOff_63 (by decide) (fun c6 => ?_) (fun c6 => ?_)
        · replace hD := g_neg c6 hD
          exact hb76 v2 v3 M3 L4 _ _ ls hD hw (lv_sub hl [0, 1, 2, 3] rfl)
        · replace hD := g_pos c6 hD
          refine lv_aload_n C.1.1 C.1.2.1 dX2_workOff_66 rfl (lv_at hl 0 rfl) ?_
          refine lv_dup C.1.1 C.1.2.1 dX2_workOff_67 rfl ?_
          refine mr_getI C hw kc_2 13 (Ch_N0 hk0) (Ch_T0 hk0) wd_467 dX2_workOff_68 (by decide) rfl ?_
          refine lv_iconst (v := 1) C.1.1 C.1.2.1 dX2_workOff_71 (by decide) ?_
          refine lv_iadd C.1.1 C.1.2.1 dX2_workOff_72 ?_
          obtain ⟨M7, eM7, hD⟩ := g_let hD
          refine mr_putI C hw kc_2 13 (Ch_N0 hk0) (Ch_T0 hk0) wd_467 dX2_workOff_73 (by decide) rfl rfl rfl rfl (fun H locs hw => ?_)
          replace hw : mw_W G ad NF TF FF M7 L4 H locs := by rw [eM7]; exact hw
          exact hb76 v2 v3 M7 L4 _ _ ls hD hw (lv_sub hl [0, 1, 2, 3] rfl)
  have hb45 : ∀ (v2 : Int32) (M : mwM) (L : mwL) (H : Heap) (locs : List Loc) (ls : Array Slot), fX2_workOff_b45 fu k a1 v2 M L = some (M0, L0) → mw_W G ad NF TF FF M L H locs → lv_has ls 4 [(0, .ref (ad k)), (1, .int a1), (2, .int v2)] → W p l e ({ frames := 5, cells := 0, slots := 0, locals := 121 }) s m [.ref (ad k), .int a1].toArray below meth c H locs 0 0 (MQ below (mw_Qv G ad NF TF FF (mw_eqV M0 L0)) [.ref (ad k), .int a1].toArray s 0 0 (mw_fr G)) (F0 m 45 ls []) := by
    intro v2 M L H locs ls hD hw hl
    unfold fX2_workOff_b45 at hD
    refine lv_iconst (v := 0) C.1.1 C.1.2.1 dX2_workOff_45 (by decide) ?_
    refine lv_istore_n (lv' := [(3, .int 0), (0, .ref (ad k)), (1, .int a1), (2, .int v2)]) C.1.1 C.1.2.1 dX2_workOff_46 rfl hl (by decide) rfl (fun ls hl => ?_)
    exact hh47 fu v2 0 M L _ _ ls hD hw (lv_sub hl [1, 2, 3, 0] rfl)
  unfold DX2_workOff at hD
  refine lv_aload_n C.1.1 C.1.2.1 dX2_workOff_0 rfl (lv_at hl 0 rfl) ?_
  refine mr_getI C hw kc_2 11 (Ch_N0 hk0) (Ch_T0 hk0) wd_464 dX2_workOff_1 (by decide) rfl ?_
  obtain ⟨x9, ex9, hD⟩ := g_let hD
  refine W.eq (g2 := F0 m 4 ls (.int x9 :: [])) (by rw [ex9]) ?_
  refine lv_istore_n (lv' := [(2, .int x9), (0, .ref (ad k)), (1, .int a1)]) C.1.1 C.1.2.1 dX2_workOff_4 rfl hl (by decide) rfl (fun ls hl => ?_)
  refine lv_aload_n C.1.1 C.1.2.1 dX2_workOff_5 rfl (lv_at hl 1 rfl) ?_
  refine lv_iconst (v := 0) C.1.1 C.1.2.1 dX2_workOff_6 (by decide) ?_
  obtain ⟨M10, eM10, hD⟩ := g_let hD
  refine mr_putI C hw kc_2 11 (Ch_N0 hk0) (Ch_T0 hk0) wd_464 dX2_workOff_7 (by decide) rfl rfl rfl rfl (fun H locs hw => ?_)
  replace hw : mw_W G ad NF TF FF M10 L H locs := by rw [eM10]; exact hw
  refine lv_aload_n C.1.1 C.1.2.1 dX2_workOff_10 rfl (lv_at hl 1 rfl) ?_
  refine mr_getR C hw kc_2 0 (Ch_N0 hk0) (Ch_T0 hk0) (Ch_F0_0 hk0) wd_444 dX2_workOff_11 (by decide) rfl ?_
  refine lv_iconst (v := 4) C.1.1 C.1.2.1 dX2_workOff_14 (by decide) ?_
  refine mr_aald C hw (Ch_N1 hk0) (Ch_T1 hk0) (by decide) (by decide) rfl rfl (show vp_in 4 18 from by unfold vp_in; decide) (Ch_R1 hk0 _ (by decide : 4 < 18)).1 dX2_workOff_15 ?_
  refine lv_iconst (v := 0) C.1.1 C.1.2.1 dX2_workOff_16 (by decide) ?_
  refine mr_iald C hw (Ch_N6 hk0) (Ch_T6 hk0) (show vp_in 0 201 from by unfold vp_in; decide) dX2_workOff_17 ?_
  refine lv_if_ne (tgt := 22) C.1.1 C.1.2.1 dX2_workOff_18 (by decide) (fun c13 => ?_) (fun c13 => ?_)
  · replace hD := g_neg c13 hD
    refine lv_iload_n C.1.1 C.1.2.1 dX2_workOff_22 rfl (lv_at hl 0 rfl) ?_
    refine lv_if_ne (tgt := 45) C.1.1 C.1.2.1 dX2_workOff_23 (by decide) (fun c14 => ?_) (fun c14 => ?_)
    · replace hD := g_neg c14 hD
      exact hb45 x9 M10 L _ _ ls hD hw (lv_sub hl [1, 2, 0] rfl)
    · replace hD := g_pos c14 hD
      refine lv_aload_n C.1.1 C.1.2.1 dX2_workOff_26 rfl (lv_at hl 1 rfl) ?_
      refine lv_iconst (v := 0) C.1.1 C.1.2.1 dX2_workOff_27 (by decide) ?_
      refine lv_iload_n C.1.1 C.1.2.1 dX2_workOff_28 rfl (lv_at hl 2 rfl) ?_
      obtain ⟨r17, M15, L16, h1, hD⟩ := g_b3 hD
      refine md_cvI (As := [.int 0, .int a1]) (rest := []) C hw (tX2_happen l G ad fu k 0 a1 M10 L h1 hk0) kc_2 (Ch_N0 hk0) (Ch_T0 hk0) wd_1651 cwX2_happen ⟨Nat.le_of_ble_eq_true rfl, Nat.le_of_ble_eq_true rfl⟩ rfl hl.1 (Nat.le_of_ble_eq_true rfl) dX2_workOff_29 rfl rfl ⟨Nat.zero_le _, Nat.zero_le _⟩ rfl (fun H locs hw => ?_)
      refine lv_if_ne (tgt := 45) C.1.1 C.1.2.1 dX2_workOff_32 (by decide) (fun c18 => ?_) (fun c18 => ?_)
      · replace hD := g_neg c18 hD
        exact hb45 x9 M15 L16 _ _ ls hD hw (lv_sub hl [1, 2, 0] rfl)
      · replace hD := g_pos c18 hD
        refine lv_aload_n C.1.1 C.1.2.1 dX2_workOff_35 rfl (lv_at hl 1 rfl) ?_
        refine lv_dup C.1.1 C.1.2.1 dX2_workOff_36 rfl ?_
        refine mr_getI C hw kc_2 13 (Ch_N0 hk0) (Ch_T0 hk0) wd_467 dX2_workOff_37 (by decide) rfl ?_
        refine lv_iconst (v := 1) C.1.1 C.1.2.1 dX2_workOff_40 (by decide) ?_
        refine lv_iadd C.1.1 C.1.2.1 dX2_workOff_41 ?_
        obtain ⟨M19, eM19, hD⟩ := g_let hD
        refine mr_putI C hw kc_2 13 (Ch_N0 hk0) (Ch_T0 hk0) wd_467 dX2_workOff_42 (by decide) rfl rfl rfl rfl (fun H locs hw => ?_)
        replace hw : mw_W G ad NF TF FF M19 L16 H locs := by rw [eM19]; exact hw
        exact hb45 x9 M19 L16 _ _ ls hD hw (lv_sub hl [1, 2, 0] rfl)
  · replace hD := g_pos c13 hD
    exact mr_vret C hr hlocks hw (Option.some.inj hD) dX2_workOff_21

theorem dX2_innermost_0 : decode cX2_innermost 0 = .ok (.iload_n 1, 1) := by decide +kernel
theorem dX2_innermost_1 : decode cX2_innermost 1 = .ok (.ifCond .eq 16, 3) := by decide +kernel
theorem dX2_innermost_4 : decode cX2_innermost 4 = .ok (.aload_n 0, 1) := by decide +kernel
theorem dX2_innermost_5 : decode cX2_innermost 5 = .ok (.getfield 13, 3) := by decide +kernel
theorem dX2_innermost_8 : decode cX2_innermost 8 = .ok (.iconst 5, 1) := by decide +kernel
theorem dX2_innermost_9 : decode cX2_innermost 9 = .ok (.aaload, 1) := by decide +kernel
theorem dX2_innermost_10 : decode cX2_innermost 10 = .ok (.iload_n 1, 1) := by decide +kernel
theorem dX2_innermost_11 : decode cX2_innermost 11 = .ok (.iaload, 1) := by decide +kernel
theorem dX2_innermost_12 : decode cX2_innermost 12 = .ok (.ifCond .ne 5, 3) := by decide +kernel
theorem dX2_innermost_15 : decode cX2_innermost 15 = .ok (.iconst 0, 1) := by decide +kernel
theorem dX2_innermost_16 : decode cX2_innermost 16 = .ok (.ireturn, 1) := by decide +kernel
theorem dX2_innermost_17 : decode cX2_innermost 17 = .ok (.iload_n 1, 1) := by decide +kernel
theorem dX2_innermost_18 : decode cX2_innermost 18 = .ok (.istore_n 2, 1) := by decide +kernel
theorem dX2_innermost_19 : decode cX2_innermost 19 = .ok (.iconst 0, 1) := by decide +kernel
theorem dX2_innermost_20 : decode cX2_innermost 20 = .ok (.istore_n 3, 1) := by decide +kernel
theorem dX2_innermost_21 : decode cX2_innermost 21 = .ok (.iload_n 3, 1) := by decide +kernel
theorem dX2_innermost_22 : decode cX2_innermost 22 = .ok (.bipush 40, 2) := by decide +kernel
theorem dX2_innermost_24 : decode cX2_innermost 24 = .ok (.if_icmp .gt 31, 3) := by decide +kernel
theorem dX2_innermost_27 : decode cX2_innermost 27 = .ok (.aload_n 0, 1) := by decide +kernel
theorem dX2_innermost_28 : decode cX2_innermost 28 = .ok (.getfield 13, 3) := by decide +kernel
theorem dX2_innermost_31 : decode cX2_innermost 31 = .ok (.bipush 6, 2) := by decide +kernel
theorem dX2_innermost_33 : decode cX2_innermost 33 = .ok (.aaload, 1) := by decide +kernel
theorem dX2_innermost_34 : decode cX2_innermost 34 = .ok (.iload_n 2, 1) := by decide +kernel
theorem dX2_innermost_35 : decode cX2_innermost 35 = .ok (.iaload, 1) := by decide +kernel
theorem dX2_innermost_36 : decode cX2_innermost 36 = .ok (.ifCond .eq 19, 3) := by decide +kernel
theorem dX2_innermost_39 : decode cX2_innermost 39 = .ok (.aload_n 0, 1) := by decide +kernel
theorem dX2_innermost_40 : decode cX2_innermost 40 = .ok (.getfield 13, 3) := by decide +kernel
theorem dX2_innermost_43 : decode cX2_innermost 43 = .ok (.bipush 6, 2) := by decide +kernel
theorem dX2_innermost_45 : decode cX2_innermost 45 = .ok (.aaload, 1) := by decide +kernel
theorem dX2_innermost_46 : decode cX2_innermost 46 = .ok (.iload_n 2, 1) := by decide +kernel
theorem dX2_innermost_47 : decode cX2_innermost 47 = .ok (.iaload, 1) := by decide +kernel
theorem dX2_innermost_48 : decode cX2_innermost 48 = .ok (.istore_n 2, 1) := by decide +kernel
theorem dX2_innermost_49 : decode cX2_innermost 49 = .ok (.iinc 3 1, 3) := by decide +kernel
theorem dX2_innermost_52 : decode cX2_innermost 52 = .ok (.goto (-31), 3) := by decide +kernel
theorem dX2_innermost_55 : decode cX2_innermost 55 = .ok (.iload_n 2, 1) := by decide +kernel
theorem dX2_innermost_56 : decode cX2_innermost 56 = .ok (.ireturn, 1) := by decide +kernel
theorem cwX2_innermost : mw_cwV yX2_innermost cX2_innermost 4 ((some .int)) 1 := ⟨⟨wd_12, wd_1867, by decide +kernel⟩, wd_1865, wd_1866⟩
set_option maxHeartbeats 4000000 in
set_option maxRecDepth 100000 in
theorem tX2_innermost (l : Launch) (G : mwG) (ad : Nat → Nat) (fu : Nat) (k : Nat) (a1 : Int32) (M : mwM) (L : mwL) {r0 : Int32} {M0 : mwM} {L0 : mwL} (hD : DX2_innermost fu k a1 M L = some (r0, M0, L0)) (hk0 : isCh k) : Met l yX2_innermost (Cond.code yX2_innermost cX2_innermost 4 ((some .int)) :: GT) ({ frames := 0, cells := 0, slots := 0, locals := 0 }) (mw_Pre G ad NF TF FF M L [.ref (ad k), .int a1]) (mw_Qi G ad NF TF FF (mw_eqI r0 M0 L0)) 0 0 (mw_fr G) := by
  refine mw_enter (by decide) (Nat.le_of_ble_eq_true rfl) ?_
  intro p e s m below meth c ls C hr hlocks hnm hw hl
  have hl : lv_has ls 4 [(0, .ref (ad k)), (1, .int a1)] := hl
  have hb55 : ∀ (v2 : Int32) (M : mwM) (L : mwL) (H : Heap) (locs : List Loc) (ls : Array Slot), fX2_innermost_b55 fu k a1 v2 M L = some (r0, M0, L0) → mw_W G ad NF TF FF M L H locs → lv_has ls 4 [(2, .int v2)] → W p l e ({ frames := 0, cells := 0, slots := 0, locals := 0 }) s m [.ref (ad k), .int a1].toArray below meth c H locs 0 0 (MQ below (mw_Qi G ad NF TF FF (mw_eqI r0 M0 L0)) [.ref (ad k), .int a1].toArray s 0 0 (mw_fr G)) (F0 m 55 ls []) := by
    intro v2 M L H locs ls hD hw hl
    unfold fX2_innermost_b55 at hD
    refine lv_iload_n C.1.1 C.1.2.1 dX2_innermost_55 rfl (lv_at hl 0 rfl) ?_
    exact mr_iret C hr hlocks hw rfl (Option.some.inj hD) dX2_innermost_56
  have hh21 : ∀ (f : Nat) (v2 : Int32) (v3 : Int32) (M : mwM) (L : mwL) (H : Heap) (locs : List Loc) (ls : Array Slot), fX2_innermost_h21 fu k a1 f (v2, v3, M, L) = some (r0, M0, L0) → mw_W G ad NF TF FF M L H locs → lv_has ls 4 [(0, .ref (ad k)), (2, .int v2), (3, .int v3)] → W p l e ({ frames := 0, cells := 0, slots := 0, locals := 0 }) s m [.ref (ad k), .int a1].toArray below meth c H locs 0 0 (MQ below (mw_Qi G ad NF TF FF (mw_eqI r0 M0 L0)) [.ref (ad k), .int a1].toArray s 0 0 (mw_fr G)) (F0 m 21 ls []) := by
    intro f
    induction f with
    | zero => intro v2 v3 M L H locs ls hD; cases hD
    | succ f21 ih21 =>
      intro v2 v3 M L H locs ls hD hw hl
      replace hD : fX2_innermost_i21 fu k a1 (fX2_innermost_h21 fu k a1 f21) v2 v3 M L = some (r0, M0, L0) := hD
      unfold fX2_innermost_i21 at hD
      refine lv_iload_n C.1.1 C.1.2.1 dX2_innermost_21 rfl (lv_at hl 2 rfl) ?_
      refine lv_bipush (v := 40) C.1.1 C.1.2.1 dX2_innermost_22 (by decide) ?_
      refine lv_icmp_gt (tgt := 55) C.1.1 C.1.2.1 dX2_innermost_24 (by decide) (fun c1 => ?_) (fun c1 => ?_)
      · replace hD := g_pos c1 hD
        exact hb55 v2 M L _ _ ls hD hw (lv_sub hl [1] rfl)
      · replace hD := g_neg c1 hD
        refine lv_aload_n C.1.1 C.1.2.1 dX2_innermost_27 rfl (lv_at hl 0 rfl) ?_
        refine mr_getR C hw kc_2 0 (Ch_N0 hk0) (Ch_T0 hk0) (Ch_F0_0 hk0) wd_444 dX2_innermost_28 (by decide) rfl ?_
        refine lv_bipush (v := 6) C.1.1 C.1.2.1 dX2_innermost_31 (by decide) ?_
        refine mr_aald C hw (Ch_N1 hk0) (Ch_T1 hk0) (by decide) (by decide) rfl rfl (show vp_in 6 18 from by unfold vp_in; decide) (Ch_R1 hk0 _ (by decide : 6 < 18)).1 dX2_innermost_33 ?_
        refine lv_iload_n C.1.1 C.1.2.1 dX2_innermost_34 rfl (lv_at hl 1 rfl) ?_
        obtain ⟨q3, hD⟩ := g_ck hD
        refine mr_iald C hw (Ch_N8 hk0) (Ch_T8 hk0) q3 dX2_innermost_35 ?_
        refine lv_if_eq (tgt := 55) C.1.1 C.1.2.1 dX2_innermost_36 (by decide) (fun c4 => ?_) (fun c4 => ?_)
        · replace hD := g_pos c4 hD
          exact hb55 v2 M L _ _ ls hD hw (lv_sub hl [1] rfl)
        · replace hD := g_neg c4 hD
          refine lv_aload_n C.1.1 C.1.2.1 dX2_innermost_39 rfl (lv_at hl 0 rfl) ?_
          refine mr_getR C hw kc_2 0 (Ch_N0 hk0) (Ch_T0 hk0) (Ch_F0_0 hk0) wd_444 dX2_innermost_40 (by decide) rfl ?_
          refine lv_bipush (v := 6) C.1.1 C.1.2.1 dX2_innermost_43 (by decide) ?_
          refine mr_aald C hw (Ch_N1 hk0) (Ch_T1 hk0) (by decide) (by decide) rfl rfl (show vp_in 6 18 from by unfold vp_in; decide) (Ch_R1 hk0 _ (by decide : 6 < 18)).1 dX2_innermost_45 ?_
          refine lv_iload_n C.1.1 C.1.2.1 dX2_innermost_46 rfl (lv_at hl 1 rfl) ?_
          obtain ⟨q6, hD⟩ := g_ck hD
          refine mr_iald C hw (Ch_N8 hk0) (Ch_T8 hk0) q6 dX2_innermost_47 ?_
          obtain ⟨x7, ex7, hD⟩ := g_let hD
          refine W.eq (g2 := F0 m 48 ls (.int x7 :: [])) (by rw [ex7]) ?_
          refine lv_istore_n (lv' := [(2, .int x7), (0, .ref (ad k)), (3, .int v3)]) C.1.1 C.1.2.1 dX2_innermost_48 rfl hl (by decide) rfl (fun ls hl => ?_)
          obtain ⟨x8, ex8, hD⟩ := g_let hD
          refine lv_iinc (v := x8) (lv' := [(3, .int x8), (2, .int x7), (0, .ref (ad k))]) C.1.1 C.1.2.1 dX2_innermost_49 hl (k := 2) rfl (by rw [ex8]; rfl) (by decide) rfl (fun ls hl => ?_)
          refine lv_goto (tgt := 21) C.1.1 C.1.2.1 dX2_innermost_52 (by decide) ?_
          exact ih21 x7 x8 M L _ _ ls hD hw (lv_sub hl [2, 1, 0] rfl)
  have hb17 : ∀ (M : mwM) (L : mwL) (H : Heap) (locs : List Loc) (ls : Array Slot), fX2_innermost_b17 fu k a1 M L = some (r0, M0, L0) → mw_W G ad NF TF FF M L H locs → lv_has ls 4 [(0, .ref (ad k)), (1, .int a1)] → W p l e ({ frames := 0, cells := 0, slots := 0, locals := 0 }) s m [.ref (ad k), .int a1].toArray below meth c H locs 0 0 (MQ below (mw_Qi G ad NF TF FF (mw_eqI r0 M0 L0)) [.ref (ad k), .int a1].toArray s 0 0 (mw_fr G)) (F0 m 17 ls []) := by
    intro M L H locs ls hD hw hl
    unfold fX2_innermost_b17 at hD
    refine lv_iload_n C.1.1 C.1.2.1 dX2_innermost_17 rfl (lv_at hl 1 rfl) ?_
    refine lv_istore_n (lv' := [(2, .int a1), (0, .ref (ad k)), (1, .int a1)]) C.1.1 C.1.2.1 dX2_innermost_18 rfl hl (by decide) rfl (fun ls hl => ?_)
    refine lv_iconst (v := 0) C.1.1 C.1.2.1 dX2_innermost_19 (by decide) ?_
    refine lv_istore_n (lv' := [(3, .int 0), (2, .int a1), (0, .ref (ad k)), (1, .int a1)]) C.1.1 C.1.2.1 dX2_innermost_20 rfl hl (by decide) rfl (fun ls hl => ?_)
    exact hh21 fu a1 0 M L _ _ ls hD hw (lv_sub hl [2, 1, 0] rfl)
  unfold DX2_innermost at hD
  refine lv_iload_n C.1.1 C.1.2.1 dX2_innermost_0 rfl (lv_at hl 1 rfl) ?_
  refine lv_if_eq (tgt := 17) C.1.1 C.1.2.1 dX2_innermost_1 (by decide) (fun c9 => ?_) (fun c9 => ?_)
  · replace hD := g_pos c9 hD
    exact hb17 M L _ _ ls hD hw (lv_sub hl [0, 1] rfl)
  · replace hD := g_neg c9 hD
    refine lv_aload_n C.1.1 C.1.2.1 dX2_innermost_4 rfl (lv_at hl 0 rfl) ?_
    refine mr_getR C hw kc_2 0 (Ch_N0 hk0) (Ch_T0 hk0) (Ch_F0_0 hk0) wd_444 dX2_innermost_5 (by decide) rfl ?_
    refine lv_iconst (v := 5) C.1.1 C.1.2.1 dX2_innermost_8 (by decide) ?_
    refine mr_aald C hw (Ch_N1 hk0) (Ch_T1 hk0) (by decide) (by decide) rfl rfl (show vp_in 5 18 from by unfold vp_in; decide) (Ch_R1 hk0 _ (by decide : 5 < 18)).1 dX2_innermost_9 ?_
    refine lv_iload_n C.1.1 C.1.2.1 dX2_innermost_10 rfl (lv_at hl 1 rfl) ?_
    obtain ⟨q11, hD⟩ := g_ck hD
    refine mr_iald C hw (Ch_N7 hk0) (Ch_T7 hk0) q11 dX2_innermost_11 ?_
    refine lv_if_ne (tgt := 17) C.1.1 C.1.2.1 dX2_innermost_12 (by decide) (fun c12 => ?_) (fun c12 => ?_)
    · replace hD := g_neg c12 hD
      exact hb17 M L _ _ ls hD hw (lv_sub hl [0, 1] rfl)
    · replace hD := g_pos c12 hD
      refine lv_iconst (v := 0) C.1.1 C.1.2.1 dX2_innermost_15 (by decide) ?_
      exact mr_iret C hr hlocks hw rfl (Option.some.inj hD) dX2_innermost_16

theorem dX2_covered_0 : decode cX2_covered 0 = .ok (.iconst 0, 1) := by decide +kernel
theorem dX2_covered_1 : decode cX2_covered 1 = .ok (.istore_n 2, 1) := by decide +kernel
theorem dX2_covered_2 : decode cX2_covered 2 = .ok (.iload_n 1, 1) := by decide +kernel
theorem dX2_covered_3 : decode cX2_covered 3 = .ok (.ifCond .ne 33, 3) := by decide +kernel
theorem dX2_covered_6 : decode cX2_covered 6 = .ok (.iconst 1, 1) := by decide +kernel
theorem dX2_covered_7 : decode cX2_covered 7 = .ok (.istore_n 3, 1) := by decide +kernel
theorem dX2_covered_8 : decode cX2_covered 8 = .ok (.iload_n 3, 1) := by decide +kernel
theorem dX2_covered_9 : decode cX2_covered 9 = .ok (.aload_n 0, 1) := by decide +kernel
theorem dX2_covered_10 : decode cX2_covered 10 = .ok (.getfield 37, 3) := by decide +kernel
theorem dX2_covered_13 : decode cX2_covered 13 = .ok (.if_icmp .gt 21, 3) := by decide +kernel
theorem dX2_covered_16 : decode cX2_covered 16 = .ok (.iload_n 2, 1) := by decide +kernel
theorem dX2_covered_17 : decode cX2_covered 17 = .ok (.aload_n 0, 1) := by decide +kernel
theorem dX2_covered_18 : decode cX2_covered 18 = .ok (.getfield 13, 3) := by decide +kernel
theorem dX2_covered_21 : decode cX2_covered 21 = .ok (.bipush 15, 2) := by decide +kernel
theorem dX2_covered_23 : decode cX2_covered 23 = .ok (.aaload, 1) := by decide +kernel
theorem dX2_covered_24 : decode cX2_covered 24 = .ok (.iload_n 3, 1) := by decide +kernel
theorem dX2_covered_25 : decode cX2_covered 25 = .ok (.iaload, 1) := by decide +kernel
theorem dX2_covered_26 : decode cX2_covered 26 = .ok (.iadd, 1) := by decide +kernel
theorem dX2_covered_27 : decode cX2_covered 27 = .ok (.istore_n 2, 1) := by decide +kernel
theorem dX2_covered_28 : decode cX2_covered 28 = .ok (.iinc 3 1, 3) := by decide +kernel
theorem dX2_covered_31 : decode cX2_covered 31 = .ok (.goto (-23), 3) := by decide +kernel
theorem dX2_covered_34 : decode cX2_covered 34 = .ok (.iload_n 2, 1) := by decide +kernel
theorem dX2_covered_35 : decode cX2_covered 35 = .ok (.ireturn, 1) := by decide +kernel
theorem dX2_covered_36 : decode cX2_covered 36 = .ok (.iload_n 1, 1) := by decide +kernel
theorem dX2_covered_37 : decode cX2_covered 37 = .ok (.iconst 4, 1) := by decide +kernel
theorem dX2_covered_38 : decode cX2_covered 38 = .ok (.if_icmp .ne 8, 3) := by decide +kernel
theorem dX2_covered_41 : decode cX2_covered 41 = .ok (.aload_n 0, 1) := by decide +kernel
theorem dX2_covered_42 : decode cX2_covered 42 = .ok (.getfield 61, 3) := by decide +kernel
theorem dX2_covered_45 : decode cX2_covered 45 = .ok (.ireturn, 1) := by decide +kernel
theorem dX2_covered_46 : decode cX2_covered 46 = .ok (.iload_n 1, 1) := by decide +kernel
theorem dX2_covered_47 : decode cX2_covered 47 = .ok (.iconst 1, 1) := by decide +kernel
theorem dX2_covered_48 : decode cX2_covered 48 = .ok (.if_icmp .ne 7, 3) := by decide +kernel
theorem dX2_covered_51 : decode cX2_covered 51 = .ok (.iconst 1, 1) := by decide +kernel
theorem dX2_covered_52 : decode cX2_covered 52 = .ok (.goto 13, 3) := by decide +kernel
theorem dX2_covered_55 : decode cX2_covered 55 = .ok (.iload_n 1, 1) := by decide +kernel
theorem dX2_covered_56 : decode cX2_covered 56 = .ok (.iconst 2, 1) := by decide +kernel
theorem dX2_covered_57 : decode cX2_covered 57 = .ok (.if_icmp .ne 7, 3) := by decide +kernel
theorem dX2_covered_60 : decode cX2_covered 60 = .ok (.iconst 2, 1) := by decide +kernel
theorem dX2_covered_61 : decode cX2_covered 61 = .ok (.goto 4, 3) := by decide +kernel
theorem dX2_covered_64 : decode cX2_covered 64 = .ok (.iconst 4, 1) := by decide +kernel
theorem dX2_covered_65 : decode cX2_covered 65 = .ok (.istore_n 3, 1) := by decide +kernel
theorem dX2_covered_66 : decode cX2_covered 66 = .ok (.iconst 1, 1) := by decide +kernel
theorem dX2_covered_67 : decode cX2_covered 67 = .ok (.istore 4, 2) := by decide +kernel
theorem dX2_covered_69 : decode cX2_covered 69 = .ok (.iload 4, 2) := by decide +kernel
theorem dX2_covered_71 : decode cX2_covered 71 = .ok (.aload_n 0, 1) := by decide +kernel
theorem dX2_covered_72 : decode cX2_covered 72 = .ok (.getfield 40, 3) := by decide +kernel
theorem dX2_covered_75 : decode cX2_covered 75 = .ok (.if_icmp .gt 31, 3) := by decide +kernel
theorem dX2_covered_78 : decode cX2_covered 78 = .ok (.iload_n 2, 1) := by decide +kernel
theorem dX2_covered_79 : decode cX2_covered 79 = .ok (.aload_n 0, 1) := by decide +kernel
theorem dX2_covered_80 : decode cX2_covered 80 = .ok (.getfield 16, 3) := by decide +kernel
theorem dX2_covered_83 : decode cX2_covered 83 = .ok (.iconst 5, 1) := by decide +kernel
theorem dX2_covered_84 : decode cX2_covered 84 = .ok (.aaload, 1) := by decide +kernel
theorem dX2_covered_85 : decode cX2_covered 85 = .ok (.iload 4, 2) := by decide +kernel
theorem dX2_covered_87 : decode cX2_covered 87 = .ok (.iaload, 1) := by decide +kernel
theorem dX2_covered_88 : decode cX2_covered 88 = .ok (.iload_n 3, 1) := by decide +kernel
theorem dX2_covered_89 : decode cX2_covered 89 = .ok (.iand, 1) := by decide +kernel
theorem dX2_covered_90 : decode cX2_covered 90 = .ok (.ifCond .eq 7, 3) := by decide +kernel
theorem dX2_covered_93 : decode cX2_covered 93 = .ok (.iconst 1, 1) := by decide +kernel
theorem dX2_covered_94 : decode cX2_covered 94 = .ok (.goto 4, 3) := by decide +kernel
theorem dX2_covered_97 : decode cX2_covered 97 = .ok (.iconst 0, 1) := by decide +kernel
theorem dX2_covered_98 : decode cX2_covered 98 = .ok (.iadd, 1) := by decide +kernel
theorem dX2_covered_99 : decode cX2_covered 99 = .ok (.istore_n 2, 1) := by decide +kernel
theorem dX2_covered_100 : decode cX2_covered 100 = .ok (.iinc 4 1, 3) := by decide +kernel
theorem dX2_covered_103 : decode cX2_covered 103 = .ok (.goto (-34), 3) := by decide +kernel
theorem dX2_covered_106 : decode cX2_covered 106 = .ok (.iload_n 2, 1) := by decide +kernel
theorem dX2_covered_107 : decode cX2_covered 107 = .ok (.ireturn, 1) := by decide +kernel
theorem cwX2_covered : mw_cwV yX2_covered cX2_covered 5 ((some .int)) 1 := ⟨⟨wd_12, wd_1888, by decide +kernel⟩, wd_1886, wd_1887⟩
set_option maxHeartbeats 4000000 in
set_option maxRecDepth 100000 in
theorem tX2_covered (l : Launch) (G : mwG) (ad : Nat → Nat) (fu : Nat) (k : Nat) (a1 : Int32) (M : mwM) (L : mwL) {r0 : Int32} {M0 : mwM} {L0 : mwL} (hD : DX2_covered fu k a1 M L = some (r0, M0, L0)) (hk0 : isCh k) : Met l yX2_covered (Cond.code yX2_covered cX2_covered 5 ((some .int)) :: GT) ({ frames := 0, cells := 0, slots := 0, locals := 0 }) (mw_Pre G ad NF TF FF M L [.ref (ad k), .int a1]) (mw_Qi G ad NF TF FF (mw_eqI r0 M0 L0)) 0 0 (mw_fr G) := by
  refine mw_enter (by decide) (Nat.le_of_ble_eq_true rfl) ?_
  intro p e s m below meth c ls C hr hlocks hnm hw hl
  have hl : lv_has ls 5 [(0, .ref (ad k)), (1, .int a1)] := hl
  have hh8 : ∀ (f : Nat) (v2 : Int32) (v3 : Int32) (M : mwM) (L : mwL) (H : Heap) (locs : List Loc) (ls : Array Slot), fX2_covered_h8 fu k a1 f (v2, v3, M, L) = some (r0, M0, L0) → mw_W G ad NF TF FF M L H locs → lv_has ls 5 [(0, .ref (ad k)), (2, .int v2), (3, .int v3)] → W p l e ({ frames := 0, cells := 0, slots := 0, locals := 0 }) s m [.ref (ad k), .int a1].toArray below meth c H locs 0 0 (MQ below (mw_Qi G ad NF TF FF (mw_eqI r0 M0 L0)) [.ref (ad k), .int a1].toArray s 0 0 (mw_fr G)) (F0 m 8 ls []) := by
    intro f
    induction f with
    | zero => intro v2 v3 M L H locs ls hD; cases hD
    | succ f8 ih8 =>
      intro v2 v3 M L H locs ls hD hw hl
      replace hD : fX2_covered_i8 fu k a1 (fX2_covered_h8 fu k a1 f8) v2 v3 M L = some (r0, M0, L0) := hD
      unfold fX2_covered_i8 at hD
      refine lv_iload_n C.1.1 C.1.2.1 dX2_covered_8 rfl (lv_at hl 2 rfl) ?_
      refine lv_aload_n C.1.1 C.1.2.1 dX2_covered_9 rfl (lv_at hl 0 rfl) ?_
      refine mr_getI C hw kc_2 7 (Ch_N0 hk0) (Ch_T0 hk0) wd_458 dX2_covered_10 (by decide) rfl ?_
      refine lv_icmp_gt (tgt := 34) C.1.1 C.1.2.1 dX2_covered_13 (by decide) (fun c1 => ?_) (fun c1 => ?_)
      · replace hD := g_pos c1 hD
        refine lv_iload_n C.1.1 C.1.2.1 dX2_covered_34 rfl (lv_at hl 1 rfl) ?_
        exact mr_iret C hr hlocks hw rfl (Option.some.inj hD) dX2_covered_35
      · replace hD := g_neg c1 hD
        refine lv_iload_n C.1.1 C.1.2.1 dX2_covered_16 rfl (lv_at hl 1 rfl) ?_
        refine lv_aload_n C.1.1 C.1.2.1 dX2_covered_17 rfl (lv_at hl 0 rfl) ?_
        refine mr_getR C hw kc_2 0 (Ch_N0 hk0) (Ch_T0 hk0) (Ch_F0_0 hk0) wd_444 dX2_covered_18 (by decide) rfl ?_
        refine lv_bipush (v := 15) C.1.1 C.1.2.1 dX2_covered_21 (by decide) ?_
        refine mr_aald C hw (Ch_N1 hk0) (Ch_T1 hk0) (by decide) (by decide) rfl rfl (show vp_in 15 18 from by unfold vp_in; decide) (Ch_R1 hk0 _ (by decide : 15 < 18)).1 dX2_covered_23 ?_
        refine lv_iload_n C.1.1 C.1.2.1 dX2_covered_24 rfl (lv_at hl 2 rfl) ?_
        obtain ⟨q3, hD⟩ := g_ck hD
        refine mr_iald C hw (Ch_N17 hk0) (Ch_T17 hk0) q3 dX2_covered_25 ?_
        refine lv_iadd C.1.1 C.1.2.1 dX2_covered_26 ?_
        obtain ⟨x4, ex4, hD⟩ := g_let hD
        refine W.eq (g2 := F0 m 27 ls (.int x4 :: [])) (by rw [ex4]) ?_
        refine lv_istore_n (lv' := [(2, .int x4), (0, .ref (ad k)), (3, .int v3)]) C.1.1 C.1.2.1 dX2_covered_27 rfl hl (by decide) rfl (fun ls hl => ?_)
        obtain ⟨x5, ex5, hD⟩ := g_let hD
        refine lv_iinc (v := x5) (lv' := [(3, .int x5), (2, .int x4), (0, .ref (ad k))]) C.1.1 C.1.2.1 dX2_covered_28 hl (k := 2) rfl (by rw [ex5]; rfl) (by decide) rfl (fun ls hl => ?_)
        refine lv_goto (tgt := 8) C.1.1 C.1.2.1 dX2_covered_31 (by decide) ?_
        exact ih8 x4 x5 M L _ _ ls hD hw (lv_sub hl [2, 1, 0] rfl)
  have hh69 : ∀ (f : Nat) (v2 : Int32) (v3 : Int32) (v4 : Int32) (M : mwM) (L : mwL) (H : Heap) (locs : List Loc) (ls : Array Slot), fX2_covered_h69 fu k a1 f (v2, v3, v4, M, L) = some (r0, M0, L0) → mw_W G ad NF TF FF M L H locs → lv_has ls 5 [(0, .ref (ad k)), (2, .int v2), (3, .int v3), (4, .int v4)] → W p l e ({ frames := 0, cells := 0, slots := 0, locals := 0 }) s m [.ref (ad k), .int a1].toArray below meth c H locs 0 0 (MQ below (mw_Qi G ad NF TF FF (mw_eqI r0 M0 L0)) [.ref (ad k), .int a1].toArray s 0 0 (mw_fr G)) (F0 m 69 ls []) := by
    intro f
    induction f with
    | zero => intro v2 v3 v4 M L H locs ls hD; cases hD
    | succ f69 ih69 =>
      intro v2 v3 v4 M L H locs ls hD hw hl
      replace hD : fX2_covered_i69 fu k a1 (fX2_covered_h69 fu k a1 f69) v2 v3 v4 M L = some (r0, M0, L0) := hD
      have hb98 : ∀ (v3 : Int32) (v4 : Int32) (s0 : Int32) (s1 : Int32) (M : mwM) (L : mwL) (H : Heap) (locs : List Loc) (ls : Array Slot), fX2_covered_b98 fu k a1 (fX2_covered_h69 fu k a1 f69) v3 v4 s0 s1 M L = some (r0, M0, L0) → mw_W G ad NF TF FF M L H locs → lv_has ls 5 [(0, .ref (ad k)), (3, .int v3), (4, .int v4)] → W p l e ({ frames := 0, cells := 0, slots := 0, locals := 0 }) s m [.ref (ad k), .int a1].toArray below meth c H locs 0 0 (MQ below (mw_Qi G ad NF TF FF (mw_eqI r0 M0 L0)) [.ref (ad k), .int a1].toArray s 0 0 (mw_fr G)) (F0 m 98 ls [.int s1, .int s0]) := by
        intro v3 v4 s0 s1 M L H locs ls hD hw hl
        unfold fX2_covered_b98 at hD
        refine lv_iadd C.1.1 C.1.2.1 dX2_covered_98 ?_
        obtain ⟨x10, ex10, hD⟩ := g_let hD
        refine W.eq (g2 := F0 m 99 ls (.int x10 :: [])) (by rw [ex10]) ?_
        refine lv_istore_n (lv' := [(2, .int x10), (0, .ref (ad k)), (3, .int v3), (4, .int v4)]) C.1.1 C.1.2.1 dX2_covered_99 rfl hl (by decide) rfl (fun ls hl => ?_)
        obtain ⟨x11, ex11, hD⟩ := g_let hD
        refine lv_iinc (v := x11) (lv' := [(4, .int x11), (2, .int x10), (0, .ref (ad k)), (3, .int v3)]) C.1.1 C.1.2.1 dX2_covered_100 hl (k := 3) rfl (by rw [ex11]; rfl) (by decide) rfl (fun ls hl => ?_)
        refine lv_goto (tgt := 69) C.1.1 C.1.2.1 dX2_covered_103 (by decide) ?_
        exact ih69 x10 v3 x11 M L _ _ ls hD hw (lv_sub hl [2, 1, 3, 0] rfl)
      unfold fX2_covered_i69 at hD
      refine lv_iload C.1.1 C.1.2.1 dX2_covered_69 (lv_at hl 3 rfl) ?_
      refine lv_aload_n C.1.1 C.1.2.1 dX2_covered_71 rfl (lv_at hl 0 rfl) ?_
      refine mr_getI C hw kc_2 8 (Ch_N0 hk0) (Ch_T0 hk0) wd_460 dX2_covered_72 (by decide) rfl ?_
      refine lv_icmp_gt (tgt := 106) C.1.1 C.1.2.1 dX2_covered_75 (by decide) (fun c6 => ?_) (fun c6 => ?_)
      · replace hD := g_pos c6 hD
        refine lv_iload_n C.1.1 C.1.2.1 dX2_covered_106 rfl (lv_at hl 1 rfl) ?_
        exact mr_iret C hr hlocks hw rfl (Option.some.inj hD) dX2_covered_107
      · replace hD := g_neg c6 hD
        refine lv_iload_n C.1.1 C.1.2.1 dX2_covered_78 rfl (lv_at hl 1 rfl) ?_
        refine lv_aload_n C.1.1 C.1.2.1 dX2_covered_79 rfl (lv_at hl 0 rfl) ?_
        refine mr_getR C hw kc_2 1 (Ch_N0 hk0) (Ch_T0 hk0) (Ch_F0_1 hk0) wd_445 dX2_covered_80 (by decide) rfl ?_
        refine lv_iconst (v := 5) C.1.1 C.1.2.1 dX2_covered_83 (by decide) ?_
        refine mr_aald C hw (Ch_N20 hk0) (Ch_T20 hk0) (by decide) (by decide) rfl rfl (show vp_in 5 7 from by unfold vp_in; decide) (Ch_R20 hk0 _ (by decide : 5 < 7)).1 dX2_covered_84 ?_
        refine lv_iload C.1.1 C.1.2.1 dX2_covered_85 (lv_at hl 3 rfl) ?_
        obtain ⟨q8, hD⟩ := g_ck hD
        refine mr_iald C hw (Ch_N26 hk0) (Ch_T26 hk0) q8 dX2_covered_87 ?_
        refine lv_iload_n C.1.1 C.1.2.1 dX2_covered_88 rfl (lv_at hl 2 rfl) ?_
        refine lv_iand C.1.1 C.1.2.1 dX2_covered_89 ?_
        refine lv_if_eq (tgt := 97) C.1.1 C.1.2.1 dX2_covered_90 (by decide) (fun c9 => ?_) (fun c9 => ?_)
        · replace hD := g_pos c9 hD
          refine lv_iconst (v := 0) C.1.1 C.1.2.1 dX2_covered_97 (by decide) ?_
          exact hb98 v3 v4 v2 0 M L _ _ ls hD hw (lv_sub hl [0, 2, 3] rfl)
        · replace hD := g_neg c9 hD
          refine lv_iconst (v := 1) C.1.1 C.1.2.1 dX2_covered_93 (by decide) ?_
          refine lv_goto (tgt := 98) C.1.1 C.1.2.1 dX2_covered_94 (by decide) ?_
          exact hb98 v3 v4 v2 1 M L _ _ ls hD hw (lv_sub hl [0, 2, 3] rfl)
  have hb65 : ∀ (v2 : Int32) (s0 : Int32) (M : mwM) (L : mwL) (H : Heap) (locs : List Loc) (ls : Array Slot), fX2_covered_b65 fu k a1 v2 s0 M L = some (r0, M0, L0) → mw_W G ad NF TF FF M L H locs → lv_has ls 5 [(0, .ref (ad k)), (2, .int v2)] → W p l e ({ frames := 0, cells := 0, slots := 0, locals := 0 }) s m [.ref (ad k), .int a1].toArray below meth c H locs 0 0 (MQ below (mw_Qi G ad NF TF FF (mw_eqI r0 M0 L0)) [.ref (ad k), .int a1].toArray s 0 0 (mw_fr G)) (F0 m 65 ls [.int s0]) := by
    intro v2 s0 M L H locs ls hD hw hl
    unfold fX2_covered_b65 at hD
    refine lv_istore_n (lv' := [(3, .int s0), (0, .ref (ad k)), (2, .int v2)]) C.1.1 C.1.2.1 dX2_covered_65 rfl hl (by decide) rfl (fun ls hl => ?_)
    refine lv_iconst (v := 1) C.1.1 C.1.2.1 dX2_covered_66 (by decide) ?_
    refine lv_istore (lv' := [(4, .int 1), (3, .int s0), (0, .ref (ad k)), (2, .int v2)]) C.1.1 C.1.2.1 dX2_covered_67 hl (by decide) rfl (fun ls hl => ?_)
    exact hh69 fu v2 s0 1 M L _ _ ls hD hw (lv_sub hl [2, 3, 1, 0] rfl)
  unfold DX2_covered at hD
  refine lv_iconst (v := 0) C.1.1 C.1.2.1 dX2_covered_0 (by decide) ?_
  refine lv_istore_n (lv' := [(2, .int 0), (0, .ref (ad k)), (1, .int a1)]) C.1.1 C.1.2.1 dX2_covered_1 rfl hl (by decide) rfl (fun ls hl => ?_)
  refine lv_iload_n C.1.1 C.1.2.1 dX2_covered_2 rfl (lv_at hl 2 rfl) ?_
  refine lv_if_ne (tgt := 36) C.1.1 C.1.2.1 dX2_covered_3 (by decide) (fun c12 => ?_) (fun c12 => ?_)
  · replace hD := g_neg c12 hD
    refine lv_iload_n C.1.1 C.1.2.1 dX2_covered_36 rfl (lv_at hl 2 rfl) ?_
    refine lv_iconst (v := 4) C.1.1 C.1.2.1 dX2_covered_37 (by decide) ?_
    refine lv_icmp_ne (tgt := 46) C.1.1 C.1.2.1 dX2_covered_38 (by decide) (fun c13 => ?_) (fun c13 => ?_)
    · replace hD := g_neg c13 hD
      refine lv_iload_n C.1.1 C.1.2.1 dX2_covered_46 rfl (lv_at hl 2 rfl) ?_
      refine lv_iconst (v := 1) C.1.1 C.1.2.1 dX2_covered_47 (by decide) ?_
      refine lv_icmp_ne (tgt := 55) C.1.1 C.1.2.1 dX2_covered_48 (by decide) (fun c14 => ?_) (fun c14 => ?_)
      · replace hD := g_neg c14 hD
        refine lv_iload_n C.1.1 C.1.2.1 dX2_covered_55 rfl (lv_at hl 2 rfl) ?_
        refine lv_iconst (v := 2) C.1.1 C.1.2.1 dX2_covered_56 (by decide) ?_
        refine lv_icmp_ne (tgt := 64) C.1.1 C.1.2.1 dX2_covered_57 (by decide) (fun c15 => ?_) (fun c15 => ?_)
        · replace hD := g_neg c15 hD
          refine lv_iconst (v := 4) C.1.1 C.1.2.1 dX2_covered_64 (by decide) ?_
          exact hb65 0 4 M L _ _ ls hD hw (lv_sub hl [1, 0] rfl)
        · replace hD := g_pos c15 hD
          refine lv_iconst (v := 2) C.1.1 C.1.2.1 dX2_covered_60 (by decide) ?_
          refine lv_goto (tgt := 65) C.1.1 C.1.2.1 dX2_covered_61 (by decide) ?_
          exact hb65 0 2 M L _ _ ls hD hw (lv_sub hl [1, 0] rfl)
      · replace hD := g_pos c14 hD
        refine lv_iconst (v := 1) C.1.1 C.1.2.1 dX2_covered_51 (by decide) ?_
        refine lv_goto (tgt := 65) C.1.1 C.1.2.1 dX2_covered_52 (by decide) ?_
        exact hb65 0 1 M L _ _ ls hD hw (lv_sub hl [1, 0] rfl)
    · replace hD := g_pos c13 hD
      refine lv_aload_n C.1.1 C.1.2.1 dX2_covered_41 rfl (lv_at hl 1 rfl) ?_
      refine mr_getI C hw kc_2 15 (Ch_N0 hk0) (Ch_T0 hk0) wd_471 dX2_covered_42 (by decide) rfl ?_
      exact mr_iret C hr hlocks hw rfl (Option.some.inj hD) dX2_covered_45
  · replace hD := g_pos c12 hD
    refine lv_iconst (v := 1) C.1.1 C.1.2.1 dX2_covered_6 (by decide) ?_
    refine lv_istore_n (lv' := [(3, .int 1), (2, .int 0), (0, .ref (ad k)), (1, .int a1)]) C.1.1 C.1.2.1 dX2_covered_7 rfl hl (by decide) rfl (fun ls hl => ?_)
    exact hh8 fu 0 1 M L _ _ ls hD hw (lv_sub hl [2, 1, 0] rfl)
