theorem dX6_findPositions_0 : decode cX6_findPositions 0 = .ok (.iconst 0, 1) := by decide +kernel
theorem dX6_findPositions_1 : decode cX6_findPositions 1 = .ok (.istore_n 1, 1) := by decide +kernel
theorem dX6_findPositions_2 : decode cX6_findPositions 2 = .ok (.iload_n 1, 1) := by decide +kernel
theorem dX6_findPositions_3 : decode cX6_findPositions 3 = .ok (.aload_n 0, 1) := by decide +kernel
theorem dX6_findPositions_4 : decode cX6_findPositions 4 = .ok (.getfield 48, 3) := by decide +kernel
theorem dX6_findPositions_7 : decode cX6_findPositions 7 = .ok (.if_icmp .ge 106, 3) := by decide +kernel
theorem dX6_findPositions_10 : decode cX6_findPositions 10 = .ok (.iconst 0, 1) := by decide +kernel
theorem dX6_findPositions_11 : decode cX6_findPositions 11 = .ok (.istore_n 2, 1) := by decide +kernel
theorem dX6_findPositions_12 : decode cX6_findPositions 12 = .ok (.iconst 0, 1) := by decide +kernel
theorem dX6_findPositions_13 : decode cX6_findPositions 13 = .ok (.istore_n 3, 1) := by decide +kernel
theorem dX6_findPositions_14 : decode cX6_findPositions 14 = .ok (.iload_n 3, 1) := by decide +kernel
theorem dX6_findPositions_15 : decode cX6_findPositions 15 = .ok (.aload_n 0, 1) := by decide +kernel
theorem dX6_findPositions_16 : decode cX6_findPositions 16 = .ok (.getfield 48, 3) := by decide +kernel
theorem dX6_findPositions_19 : decode cX6_findPositions 19 = .ok (.if_icmp .ge 72, 3) := by decide +kernel
theorem dX6_findPositions_22 : decode cX6_findPositions 22 = .ok (.aload_n 0, 1) := by decide +kernel
theorem dX6_findPositions_23 : decode cX6_findPositions 23 = .ok (.getfield 16, 3) := by decide +kernel
theorem dX6_findPositions_26 : decode cX6_findPositions 26 = .ok (.iconst 1, 1) := by decide +kernel
theorem dX6_findPositions_27 : decode cX6_findPositions 27 = .ok (.aaload, 1) := by decide +kernel
theorem dX6_findPositions_28 : decode cX6_findPositions 28 = .ok (.iload_n 3, 1) := by decide +kernel
theorem dX6_findPositions_29 : decode cX6_findPositions 29 = .ok (.iaload, 1) := by decide +kernel
theorem dX6_findPositions_30 : decode cX6_findPositions 30 = .ok (.aload_n 0, 1) := by decide +kernel
theorem dX6_findPositions_31 : decode cX6_findPositions 31 = .ok (.getfield 16, 3) := by decide +kernel
theorem dX6_findPositions_34 : decode cX6_findPositions 34 = .ok (.iconst 1, 1) := by decide +kernel
theorem dX6_findPositions_35 : decode cX6_findPositions 35 = .ok (.aaload, 1) := by decide +kernel
theorem dX6_findPositions_36 : decode cX6_findPositions 36 = .ok (.iload_n 1, 1) := by decide +kernel
theorem dX6_findPositions_37 : decode cX6_findPositions 37 = .ok (.iaload, 1) := by decide +kernel
theorem dX6_findPositions_38 : decode cX6_findPositions 38 = .ok (.if_icmp .ne 12, 3) := by decide +kernel
theorem dX6_findPositions_41 : decode cX6_findPositions 41 = .ok (.iload_n 3, 1) := by decide +kernel
theorem dX6_findPositions_42 : decode cX6_findPositions 42 = .ok (.iload_n 1, 1) := by decide +kernel
theorem dX6_findPositions_43 : decode cX6_findPositions 43 = .ok (.if_icmp .ge 7, 3) := by decide +kernel
theorem dX6_findPositions_46 : decode cX6_findPositions 46 = .ok (.iconst 1, 1) := by decide +kernel
theorem dX6_findPositions_47 : decode cX6_findPositions 47 = .ok (.goto 4, 3) := by decide +kernel
theorem dX6_findPositions_50 : decode cX6_findPositions 50 = .ok (.iconst 0, 1) := by decide +kernel
theorem dX6_findPositions_51 : decode cX6_findPositions 51 = .ok (.istore 4, 2) := by decide +kernel
theorem dX6_findPositions_53 : decode cX6_findPositions 53 = .ok (.iload_n 2, 1) := by decide +kernel
theorem dX6_findPositions_54 : decode cX6_findPositions 54 = .ok (.iload 4, 2) := by decide +kernel
theorem dX6_findPositions_56 : decode cX6_findPositions 56 = .ok (.ifCond .ne 22, 3) := by decide +kernel
theorem dX6_findPositions_59 : decode cX6_findPositions 59 = .ok (.aload_n 0, 1) := by decide +kernel
theorem dX6_findPositions_60 : decode cX6_findPositions 60 = .ok (.getfield 16, 3) := by decide +kernel
theorem dX6_findPositions_63 : decode cX6_findPositions 63 = .ok (.iconst 1, 1) := by decide +kernel
theorem dX6_findPositions_64 : decode cX6_findPositions 64 = .ok (.aaload, 1) := by decide +kernel
theorem dX6_findPositions_65 : decode cX6_findPositions 65 = .ok (.iload_n 3, 1) := by decide +kernel
theorem dX6_findPositions_66 : decode cX6_findPositions 66 = .ok (.iaload, 1) := by decide +kernel
theorem dX6_findPositions_67 : decode cX6_findPositions 67 = .ok (.aload_n 0, 1) := by decide +kernel
theorem dX6_findPositions_68 : decode cX6_findPositions 68 = .ok (.getfield 16, 3) := by decide +kernel
theorem dX6_findPositions_71 : decode cX6_findPositions 71 = .ok (.iconst 1, 1) := by decide +kernel
theorem dX6_findPositions_72 : decode cX6_findPositions 72 = .ok (.aaload, 1) := by decide +kernel
theorem dX6_findPositions_73 : decode cX6_findPositions 73 = .ok (.iload_n 1, 1) := by decide +kernel
theorem dX6_findPositions_74 : decode cX6_findPositions 74 = .ok (.iaload, 1) := by decide +kernel
theorem dX6_findPositions_75 : decode cX6_findPositions 75 = .ok (.if_icmp .ge 7, 3) := by decide +kernel
theorem dX6_findPositions_78 : decode cX6_findPositions 78 = .ok (.iconst 1, 1) := by decide +kernel
theorem dX6_findPositions_79 : decode cX6_findPositions 79 = .ok (.goto 4, 3) := by decide +kernel
theorem dX6_findPositions_82 : decode cX6_findPositions 82 = .ok (.iconst 0, 1) := by decide +kernel
theorem dX6_findPositions_83 : decode cX6_findPositions 83 = .ok (.iadd, 1) := by decide +kernel
theorem dX6_findPositions_84 : decode cX6_findPositions 84 = .ok (.istore_n 2, 1) := by decide +kernel
theorem dX6_findPositions_85 : decode cX6_findPositions 85 = .ok (.iinc 3 1, 3) := by decide +kernel
theorem dX6_findPositions_88 : decode cX6_findPositions 88 = .ok (.goto (-74), 3) := by decide +kernel
theorem dX6_findPositions_91 : decode cX6_findPositions 91 = .ok (.aload_n 0, 1) := by decide +kernel
theorem dX6_findPositions_92 : decode cX6_findPositions 92 = .ok (.getfield 16, 3) := by decide +kernel
theorem dX6_findPositions_95 : decode cX6_findPositions 95 = .ok (.iconst 4, 1) := by decide +kernel
theorem dX6_findPositions_96 : decode cX6_findPositions 96 = .ok (.aaload, 1) := by decide +kernel
theorem dX6_findPositions_97 : decode cX6_findPositions 97 = .ok (.iload_n 1, 1) := by decide +kernel
theorem dX6_findPositions_98 : decode cX6_findPositions 98 = .ok (.iload_n 2, 1) := by decide +kernel
theorem dX6_findPositions_99 : decode cX6_findPositions 99 = .ok (.iastore, 1) := by decide +kernel
theorem dX6_findPositions_100 : decode cX6_findPositions 100 = .ok (.aload_n 0, 1) := by decide +kernel
theorem dX6_findPositions_101 : decode cX6_findPositions 101 = .ok (.getfield 19, 3) := by decide +kernel
theorem dX6_findPositions_104 : decode cX6_findPositions 104 = .ok (.iload_n 2, 1) := by decide +kernel
theorem dX6_findPositions_105 : decode cX6_findPositions 105 = .ok (.iload_n 1, 1) := by decide +kernel
theorem dX6_findPositions_106 : decode cX6_findPositions 106 = .ok (.iastore, 1) := by decide +kernel
theorem dX6_findPositions_107 : decode cX6_findPositions 107 = .ok (.iinc 1 1, 3) := by decide +kernel
theorem dX6_findPositions_110 : decode cX6_findPositions 110 = .ok (.goto (-108), 3) := by decide +kernel
theorem dX6_findPositions_113 : decode cX6_findPositions 113 = .ok (.return_, 1) := by decide +kernel
theorem cwX6_findPositions : mw_cwV yX6_findPositions cX6_findPositions 5 (none) 0 := ⟨⟨wd_7, wd_1190, by decide +kernel⟩, wd_1189, sl_57⟩
set_option maxHeartbeats 4000000 in
set_option maxRecDepth 100000 in
theorem tX6_findPositions (l : Launch) (G : mwG) (ad : Nat → Nat) (fu : Nat) (M : mwM) (L : mwL) {M0 : mwM} {L0 : mwL} (hD : DX6_findPositions fu M L = some (M0, L0)) : Met l yX6_findPositions (Cond.code yX6_findPositions cX6_findPositions 5 (none) :: GT) ({ frames := 0, cells := 0, slots := 0, locals := 0 }) (mw_Pre G ad NF TF FF M L [.ref (ad 61)]) (mw_Qv G ad NF TF FF (mw_eqV M0 L0)) 0 0 (mw_fr G) := by
  refine mw_enter (by decide) (Nat.le_of_ble_eq_true rfl) ?_
  intro p e s m below meth c ls C hr hlocks hnm hw hl
  have hl : lv_has ls 5 [(0, .ref (ad 61))] := hl
  have hh2 : ∀ (f : Nat) (v1 : Int32) (M : mwM) (L : mwL) (H : Heap) (locs : List Loc) (ls : Array Slot), fX6_findPositions_h2 fu f (v1, M, L) = some (M0, L0) → mw_W G ad NF TF FF M L H locs → lv_has ls 5 [(0, .ref (ad 61)), (1, .int v1)] → W p l e ({ frames := 0, cells := 0, slots := 0, locals := 0 }) s m [.ref (ad 61)].toArray below meth c H locs 0 0 (MQ below (mw_Qv G ad NF TF FF (mw_eqV M0 L0)) [.ref (ad 61)].toArray s 0 0 (mw_fr G)) (F0 m 2 ls []) := by
    intro f
    induction f with
    | zero => intro v1 M L H locs ls hD; cases hD
    | succ f2 ih2 =>
      intro v1 M L H locs ls hD hw hl
      replace hD : fX6_findPositions_i2 fu (fX6_findPositions_h2 fu f2) v1 M L = some (M0, L0) := hD
      have hh14 : ∀ (f : Nat) (v1 : Int32) (v2 : Int32) (v3 : Int32) (M : mwM) (L : mwL) (H : Heap) (locs : List Loc) (ls : Array Slot), fX6_findPositions_h14 fu (fX6_findPositions_h2 fu f2) f (v1, v2, v3, M, L) = some (M0, L0) → mw_W G ad NF TF FF M L H locs → lv_has ls 5 [(0, .ref (ad 61)), (1, .int v1), (2, .int v2), (3, .int v3)] → W p l e ({ frames := 0, cells := 0, slots := 0, locals := 0 }) s m [.ref (ad 61)].toArray below meth c H locs 0 0 (MQ below (mw_Qv G ad NF TF FF (mw_eqV M0 L0)) [.ref (ad 61)].toArray s 0 0 (mw_fr G)) (F0 m 14 ls []) := by
        intro f
        induction f with
        | zero => intro v1 v2 v3 M L H locs ls hD; cases hD
        | succ f14 ih14 =>
          intro v1 v2 v3 M L H locs ls hD hw hl
          replace hD : fX6_findPositions_i14 fu (fX6_findPositions_h2 fu f2) (fX6_findPositions_h14 fu (fX6_findPositions_h2 fu f2) f14) v1 v2 v3 M L = some (M0, L0) := hD
          have hb83 : ∀ (v1 : Int32) (v3 : Int32) (s0 : Int32) (s1 : Int32) (M : mwM) (L : mwL) (H : Heap) (locs : List Loc) (ls : Array Slot), fX6_findPositions_b83 fu (fX6_findPositions_h2 fu f2) (fX6_findPositions_h14 fu (fX6_findPositions_h2 fu f2) f14) v1 v3 s0 s1 M L = some (M0, L0) → mw_W G ad NF TF FF M L H locs → lv_has ls 5 [(0, .ref (ad 61)), (1, .int v1), (3, .int v3)] → W p l e ({ frames := 0, cells := 0, slots := 0, locals := 0 }) s m [.ref (ad 61)].toArray below meth c H locs 0 0 (MQ below (mw_Qv G ad NF TF FF (mw_eqV M0 L0)) [.ref (ad 61)].toArray s 0 0 (mw_fr G)) (F0 m 83 ls [.int s1, .int s0]) := by
            intro v1 v3 s0 s1 M L H locs ls hD hw hl
            unfold fX6_findPositions_b83 at hD
            refine lv_iadd C.1.1 C.1.2.1 dX6_findPositions_83 ?_
            obtain ⟨x21, ex21, hD⟩ := g_let hD
            refine W.eq (g2 := F0 m 84 ls (.int x21 :: [])) (by rw [ex21]) ?_
            refine lv_istore_n (lv' := [(2, .int x21), (0, .ref (ad 61)), (1, .int v1), (3, .int v3)]) C.1.1 C.1.2.1 dX6_findPositions_84 rfl hl (by decide) rfl (fun ls hl => ?_)
            obtain ⟨x22, ex22, hD⟩ := g_let hD
            refine lv_iinc (v := x22) (lv' := [(3, .int x22), (2, .int x21), (0, .ref (ad 61)), (1, .int v1)]) C.1.1 C.1.2.1 dX6_findPositions_85 hl (k := 3) rfl (by rw [ex22]; rfl) (by decide) rfl (fun ls hl => ?_)
            refine lv_goto (tgt := 14) C.1.1 C.1.2.1 dX6_findPositions_88 (by decide) ?_
            exact ih14 v1 x21 x22 M L _ _ ls hD hw (lv_sub hl [2, 3, 1, 0] rfl)
          have hb78 : ∀ (v1 : Int32) (v3 : Int32) (s0 : Int32) (M : mwM) (L : mwL) (H : Heap) (locs : List Loc) (ls : Array Slot), fX6_findPositions_b78 fu (fX6_findPositions_h2 fu f2) (fX6_findPositions_h14 fu (fX6_findPositions_h2 fu f2) f14) v1 v3 s0 M L = some (M0, L0) → mw_W G ad NF TF FF M L H locs → lv_has ls 5 [(0, .ref (ad 61)), (1, .int v1), (3, .int v3)] → W p l e ({ frames := 0, cells := 0, slots := 0, locals := 0 }) s m [.ref (ad 61)].toArray below meth c H locs 0 0 (MQ below (mw_Qv G ad NF TF FF (mw_eqV M0 L0)) [.ref (ad 61)].toArray s 0 0 (mw_fr G)) (F0 m 78 ls [.int s0]) := by
            intro v1 v3 s0 M L H locs ls hD hw hl
            unfold fX6_findPositions_b78 at hD
            refine lv_iconst (v := 1) C.1.1 C.1.2.1 dX6_findPositions_78 (by decide) ?_
            refine lv_goto (tgt := 83) C.1.1 C.1.2.1 dX6_findPositions_79 (by decide) ?_
            exact hb83 v1 v3 s0 1 M L _ _ ls hD hw (lv_sub hl [0, 1, 2] rfl)
          have hb51 : ∀ (v1 : Int32) (v2 : Int32) (v3 : Int32) (s0 : Int32) (M : mwM) (L : mwL) (H : Heap) (locs : List Loc) (ls : Array Slot), fX6_findPositions_b51 fu (fX6_findPositions_h2 fu f2) (fX6_findPositions_h14 fu (fX6_findPositions_h2 fu f2) f14) v1 v2 v3 s0 M L = some (M0, L0) → mw_W G ad NF TF FF M L H locs → lv_has ls 5 [(0, .ref (ad 61)), (1, .int v1), (2, .int v2), (3, .int v3)] → W p l e ({ frames := 0, cells := 0, slots := 0, locals := 0 }) s m [.ref (ad 61)].toArray below meth c H locs 0 0 (MQ below (mw_Qv G ad NF TF FF (mw_eqV M0 L0)) [.ref (ad 61)].toArray s 0 0 (mw_fr G)) (F0 m 51 ls [.int s0]) := by
            intro v1 v2 v3 s0 M L H locs ls hD hw hl
            unfold fX6_findPositions_b51 at hD
            refine lv_istore (lv' := [(4, .int s0), (0, .ref (ad 61)), (1, .int v1), (2, .int v2), (3, .int v3)]) C.1.1 C.1.2.1 dX6_findPositions_51 hl (by decide) rfl (fun ls hl => ?_)
            refine lv_iload_n C.1.1 C.1.2.1 dX6_findPositions_53 rfl (lv_at hl 3 rfl) ?_
            refine lv_iload C.1.1 C.1.2.1 dX6_findPositions_54 (lv_at hl 0 rfl) ?_
            refine lv_if_ne (tgt := 78) C.1.1 C.1.2.1 dX6_findPositions_56 (by decide) (fun c15 => ?_) (fun c15 => ?_)
            · replace hD := g_neg c15 hD
              exact hb78 v1 v3 v2 M L _ _ ls hD hw (lv_sub hl [1, 2, 4] rfl)
            · replace hD := g_pos c15 hD
              refine lv_aload_n C.1.1 C.1.2.1 dX6_findPositions_59 rfl (lv_at hl 1 rfl) ?_
              refine mr_getR C hw kc_6 1 (by decide) tf_61 ff_61_1 wd_231 dX6_findPositions_60 (by decide) rfl ?_
              refine lv_iconst (v := 1) C.1.1 C.1.2.1 dX6_findPositions_63 (by decide) ?_
              refine mr_aald C hw (by decide) tf_73 (by decide) (by decide) rfl rfl (show vp_in 1 6 from by unfold vp_in; decide) ff_73_1 dX6_findPositions_64 ?_
              refine lv_iload_n C.1.1 C.1.2.1 dX6_findPositions_65 rfl (lv_at hl 4 rfl) ?_
              obtain ⟨q17, hD⟩ := g_ck hD
              refine mr_iald C hw (by decide) tf_75 q17 dX6_findPositions_66 ?_
              refine lv_aload_n C.1.1 C.1.2.1 dX6_findPositions_67 rfl (lv_at hl 1 rfl) ?_
              refine mr_getR C hw kc_6 1 (by decide) tf_61 ff_61_1 wd_231 dX6_findPositions_68 (by decide) rfl ?_
              refine lv_iconst (v := 1) C.1.1 C.1.2.1 dX6_findPositions_71 (by decide) ?_
              refine mr_aald C hw (by decide) tf_73 (by decide) (by decide) rfl rfl (show vp_in 1 6 from by unfold vp_in; decide) ff_73_1 dX6_findPositions_72 ?_
              refine lv_iload_n C.1.1 C.1.2.1 dX6_findPositions_73 rfl (lv_at hl 2 rfl) ?_
              obtain ⟨q19, hD⟩ := g_ck hD
              refine mr_iald C hw (by decide) tf_75 q19 dX6_findPositions_74 ?_
              refine lv_icmp_ge (tgt := 82) C.1.1 C.1.2.1 dX6_findPositions_75 (by decide) (fun c20 => ?_) (fun c20 => ?_)
              · replace hD := g_pos c20 hD
                refine lv_iconst (v := 0) C.1.1 C.1.2.1 dX6_findPositions_82 (by decide) ?_
                exact hb83 v1 v3 v2 0 M L _ _ ls hD hw (lv_sub hl [1, 2, 4] rfl)
              · replace hD := g_neg c20 hD
                exact hb78 v1 v3 v2 M L _ _ ls hD hw (lv_sub hl [1, 2, 4] rfl)
          have hb50 : ∀ (v1 : Int32) (v2 : Int32) (v3 : Int32) (M : mwM) (L : mwL) (H : Heap) (locs : List Loc) (ls : Array Slot), fX6_findPositions_b50 fu (fX6_findPositions_h2 fu f2) (fX6_findPositions_h14 fu (fX6_findPositions_h2 fu f2) f14) v1 v2 v3 M L = some (M0, L0) → mw_W G ad NF TF FF M L H locs → lv_has ls 5 [(0, .ref (ad 61)), (1, .int v1), (2, .int v2), (3, .int v3)] → W p l e ({ frames := 0, cells := 0, slots := 0, locals := 0 }) s m [.ref (ad 61)].toArray below meth c H locs 0 0 (MQ below (mw_Qv G ad NF TF FF (mw_eqV M0 L0)) [.ref (ad 61)].toArray s 0 0 (mw_fr G)) (F0 m 50 ls []) := by
            intro v1 v2 v3 M L H locs ls hD hw hl
            unfold fX6_findPositions_b50 at hD
            refine lv_iconst (v := 0) C.1.1 C.1.2.1 dX6_findPositions_50 (by decide) ?_
            exact hb51 v1 v2 v3 0 M L _ _ ls hD hw (lv_sub hl [0, 1, 2, 3] rfl)
          unfold fX6_findPositions_i14 at hD
          refine lv_iload_n C.1.1 C.1.2.1 dX6_findPositions_14 rfl (lv_at hl 3 rfl) ?_
          refine lv_aload_n C.1.1 C.1.2.1 dX6_findPositions_15 rfl (lv_at hl 0 rfl) ?_
          refine mr_getI C hw kc_6 11 (by decide) tf_61 wd_246 dX6_findPositions_16 (by decide) rfl ?_
          refine lv_icmp_ge (tgt := 91) C.1.1 C.1.2.1 dX6_findPositions_19 (by decide) (fun c2 => ?_) (fun c2 => ?_)
          · replace hD := g_pos c2 hD
            refine lv_aload_n C.1.1 C.1.2.1 dX6_findPositions_91 rfl (lv_at hl 0 rfl) ?_
            refine mr_getR C hw kc_6 1 (by decide) tf_61 ff_61_1 wd_231 dX6_findPositions_92 (by decide) rfl ?_
            refine lv_iconst (v := 4) C.1.1 C.1.2.1 dX6_findPositions_95 (by decide) ?_
            refine mr_aald C hw (by decide) tf_73 (by decide) (by decide) rfl rfl (show vp_in 4 6 from by unfold vp_in; decide) ff_73_4 dX6_findPositions_96 ?_
            refine lv_iload_n C.1.1 C.1.2.1 dX6_findPositions_97 rfl (lv_at hl 1 rfl) ?_
            refine lv_iload_n C.1.1 C.1.2.1 dX6_findPositions_98 rfl (lv_at hl 2 rfl) ?_
            obtain ⟨q4, hD⟩ := g_ck hD
            obtain ⟨M5, eM5, hD⟩ := g_let hD
            refine mr_iast C hw (by decide) tf_78 q4 dX6_findPositions_99 (fun H locs hw => ?_)
            replace hw : mw_W G ad NF TF FF M5 L H locs := by rw [eM5]; exact hw
            refine lv_aload_n C.1.1 C.1.2.1 dX6_findPositions_100 rfl (lv_at hl 0 rfl) ?_
            refine mr_getR C hw kc_6 2 (by decide) tf_61 ff_61_2 wd_234 dX6_findPositions_101 (by decide) rfl ?_
            refine lv_iload_n C.1.1 C.1.2.1 dX6_findPositions_104 rfl (lv_at hl 2 rfl) ?_
            refine lv_iload_n C.1.1 C.1.2.1 dX6_findPositions_105 rfl (lv_at hl 1 rfl) ?_
            obtain ⟨q6, hD⟩ := g_ck hD
            obtain ⟨M7, eM7, hD⟩ := g_let hD
            refine mr_iast C hw (by decide) tf_80 q6 dX6_findPositions_106 (fun H locs hw => ?_)
            replace hw : mw_W G ad NF TF FF M7 L H locs := by rw [eM7]; exact hw
            obtain ⟨x8, ex8, hD⟩ := g_let hD
            refine lv_iinc (v := x8) (lv' := [(1, .int x8), (0, .ref (ad 61)), (2, .int v2), (3, .int v3)]) C.1.1 C.1.2.1 dX6_findPositions_107 hl (k := 1) rfl (by rw [ex8]; rfl) (by decide) rfl (fun ls hl => ?_)
            refine lv_goto (tgt := 2) C.1.1 C.1.2.1 dX6_findPositions_110 (by decide) ?_
            exact ih2 x8 M7 L _ _ ls hD hw (lv_sub hl [1, 0] rfl)
          · replace hD := g_neg c2 hD
            refine lv_aload_n C.1.1 C.1.2.1 dX6_findPositions_22 rfl (lv_at hl 0 rfl) ?_
            refine mr_getR C hw kc_6 1 (by decide) tf_61 ff_61_1 wd_231 dX6_findPositions_23 (by decide) rfl ?_
            refine lv_iconst (v := 1) C.1.1 C.1.2.1 dX6_findPositions_26 (by decide) ?_
            refine mr_aald C hw (by decide) tf_73 (by decide) (by decide) rfl rfl (show vp_in 1 6 from by unfold vp_in; decide) ff_73_1 dX6_findPositions_27 ?_
            refine lv_iload_n C.1.1 C.1.2.1 dX6_findPositions_28 rfl (lv_at hl 3 rfl) ?_
            obtain ⟨q10, hD⟩ := g_ck hD
            refine mr_iald C hw (by decide) tf_75 q10 dX6_findPositions_29 ?_
            refine lv_aload_n C.1.1 C.1.2.1 dX6_findPositions_30 rfl (lv_at hl 0 rfl) ?_
            refine mr_getR C hw kc_6 1 (by decide) tf_61 ff_61_1 wd_231 dX6_findPositions_31 (by decide) rfl ?_
            refine lv_iconst (v := 1) C.1.1 C.1.2.1 dX6_findPositions_34 (by decide) ?_
            refine mr_aald C hw (by decide) tf_73 (by decide) (by decide) rfl rfl (show vp_in 1 6 from by unfold vp_in; decide) ff_73_1 dX6_findPositions_35 ?_
            refine lv_iload_n C.1.1 C.1.2.1 dX6_findPositions_36 rfl (lv_at hl 1 rfl) ?_
            obtain ⟨q12, hD⟩ := g_ck hD
            refine mr_iald C hw (by decide) tf_75 q12 dX6_findPositions_37 ?_
            refine lv_icmp_ne (tgt := 50) C.1.1 C.1.2.1 dX6_findPositions_38 (by decide) (fun c13 => ?_) (fun c13 => ?_)
            · replace hD := g_neg c13 hD
              exact hb50 v1 v2 v3 M L _ _ ls hD hw (lv_sub hl [0, 1, 2, 3] rfl)
            · replace hD := g_pos c13 hD
              refine lv_iload_n C.1.1 C.1.2.1 dX6_findPositions_41 rfl (lv_at hl 3 rfl) ?_
              refine lv_iload_n C.1.1 C.1.2.1 dX6_findPositions_42 rfl (lv_at hl 1 rfl) ?_
              refine lv_icmp_ge (tgt := 50) C.1.1 C.1.2.1 dX6_findPositions_43 (by decide) (fun c14 => ?_) (fun c14 => ?_)
              · replace hD := g_pos c14 hD
                exact hb50 v1 v2 v3 M L _ _ ls hD hw (lv_sub hl [0, 1, 2, 3] rfl)
              · replace hD := g_neg c14 hD
                refine lv_iconst (v := 1) C.1.1 C.1.2.1 dX6_findPositions_46 (by decide) ?_
                refine lv_goto (tgt := 51) C.1.1 C.1.2.1 dX6_findPositions_47 (by decide) ?_
                exact hb51 v1 v2 v3 1 M L _ _ ls hD hw (lv_sub hl [0, 1, 2, 3] rfl)
      unfold fX6_findPositions_i2 at hD
      refine lv_iload_n C.1.1 C.1.2.1 dX6_findPositions_2 rfl (lv_at hl 1 rfl) ?_
      refine lv_aload_n C.1.1 C.1.2.1 dX6_findPositions_3 rfl (lv_at hl 0 rfl) ?_
      refine mr_getI C hw kc_6 11 (by decide) tf_61 wd_246 dX6_findPositions_4 (by decide) rfl ?_
      refine lv_icmp_ge (tgt := 113) C.1.1 C.1.2.1 dX6_findPositions_7 (by decide) (fun c1 => ?_) (fun c1 => ?_)
      · replace hD := g_pos c1 hD
        exact mr_vret C hr hlocks hw (Option.some.inj hD) dX6_findPositions_113
      · replace hD := g_neg c1 hD
        refine lv_iconst (v := 0) C.1.1 C.1.2.1 dX6_findPositions_10 (by decide) ?_
        refine lv_istore_n (lv' := [(2, .int 0), (0, .ref (ad 61)), (1, .int v1)]) C.1.1 C.1.2.1 dX6_findPositions_11 rfl hl (by decide) rfl (fun ls hl => ?_)
        refine lv_iconst (v := 0) C.1.1 C.1.2.1 dX6_findPositions_12 (by decide) ?_
        refine lv_istore_n (lv' := [(3, .int 0), (2, .int 0), (0, .ref (ad 61)), (1, .int v1)]) C.1.1 C.1.2.1 dX6_findPositions_13 rfl hl (by decide) rfl (fun ls hl => ?_)
        exact hh14 fu v1 0 0 M L _ _ ls hD hw (lv_sub hl [2, 3, 1, 0] rfl)
  unfold DX6_findPositions at hD
  refine lv_iconst (v := 0) C.1.1 C.1.2.1 dX6_findPositions_0 (by decide) ?_
  refine lv_istore_n (lv' := [(1, .int 0), (0, .ref (ad 61))]) C.1.1 C.1.2.1 dX6_findPositions_1 rfl hl (by decide) rfl (fun ls hl => ?_)
  exact hh2 fu 0 M L _ _ ls hD hw (lv_sub hl [1, 0] rfl)

theorem dX6_findSoonest_0 : decode cX6_findSoonest 0 = .ok (.aload_n 0, 1) := by decide +kernel
theorem dX6_findSoonest_1 : decode cX6_findSoonest 1 = .ok (.ldc 54, 2) := by decide +kernel
theorem dX6_findSoonest_3 : decode cX6_findSoonest 3 = .ok (.putfield 55, 3) := by decide +kernel
theorem dX6_findSoonest_6 : decode cX6_findSoonest 6 = .ok (.iconst 0, 1) := by decide +kernel
theorem dX6_findSoonest_7 : decode cX6_findSoonest 7 = .ok (.istore_n 1, 1) := by decide +kernel
theorem dX6_findSoonest_8 : decode cX6_findSoonest 8 = .ok (.iload_n 1, 1) := by decide +kernel
theorem dX6_findSoonest_9 : decode cX6_findSoonest 9 = .ok (.aload_n 0, 1) := by decide +kernel
theorem dX6_findSoonest_10 : decode cX6_findSoonest 10 = .ok (.getfield 48, 3) := by decide +kernel
theorem dX6_findSoonest_13 : decode cX6_findSoonest 13 = .ok (.if_icmp .ge 28, 3) := by decide +kernel
theorem dX6_findSoonest_16 : decode cX6_findSoonest 16 = .ok (.aload_n 0, 1) := by decide +kernel
theorem dX6_findSoonest_17 : decode cX6_findSoonest 17 = .ok (.aload_n 0, 1) := by decide +kernel
theorem dX6_findSoonest_18 : decode cX6_findSoonest 18 = .ok (.getfield 55, 3) := by decide +kernel
theorem dX6_findSoonest_21 : decode cX6_findSoonest 21 = .ok (.aload_n 0, 1) := by decide +kernel
theorem dX6_findSoonest_22 : decode cX6_findSoonest 22 = .ok (.getfield 16, 3) := by decide +kernel
theorem dX6_findSoonest_25 : decode cX6_findSoonest 25 = .ok (.iconst 5, 1) := by decide +kernel
theorem dX6_findSoonest_26 : decode cX6_findSoonest 26 = .ok (.aaload, 1) := by decide +kernel
theorem dX6_findSoonest_27 : decode cX6_findSoonest 27 = .ok (.iload_n 1, 1) := by decide +kernel
theorem dX6_findSoonest_28 : decode cX6_findSoonest 28 = .ok (.iaload, 1) := by decide +kernel
theorem dX6_findSoonest_29 : decode cX6_findSoonest 29 = .ok (.invokestatic 92, 3) := by decide +kernel
theorem dX6_findSoonest_32 : decode cX6_findSoonest 32 = .ok (.putfield 55, 3) := by decide +kernel
theorem dX6_findSoonest_35 : decode cX6_findSoonest 35 = .ok (.iinc 1 1, 3) := by decide +kernel
theorem dX6_findSoonest_38 : decode cX6_findSoonest 38 = .ok (.goto (-30), 3) := by decide +kernel
theorem dX6_findSoonest_41 : decode cX6_findSoonest 41 = .ok (.return_, 1) := by decide +kernel
theorem cwX6_findSoonest : mw_cwV yX6_findSoonest cX6_findSoonest 2 (none) 0 := ⟨⟨wd_7, wd_1194, by decide +kernel⟩, wd_1192, wd_1193⟩
set_option maxHeartbeats 4000000 in
set_option maxRecDepth 100000 in
theorem tX6_findSoonest (l : Launch) (G : mwG) (ad : Nat → Nat) (fu : Nat) (M : mwM) (L : mwL) {M0 : mwM} {L0 : mwL} (hD : DX6_findSoonest fu M L = some (M0, L0)) : Met l yX6_findSoonest (Cond.code yX6_findSoonest cX6_findSoonest 2 (none) :: GT) ({ frames := 1, cells := 0, slots := 0, locals := 21 }) (mw_Pre G ad NF TF FF M L [.ref (ad 61)]) (mw_Qv G ad NF TF FF (mw_eqV M0 L0)) 0 0 (mw_fr G) := by
  refine mw_enter (by decide) (Nat.le_of_ble_eq_true rfl) ?_
  intro p e s m below meth c ls C hr hlocks hnm hw hl
  have hl : lv_has ls 2 [(0, .ref (ad 61))] := hl
  have hh8 : ∀ (f : Nat) (v1 : Int32) (M : mwM) (L : mwL) (H : Heap) (locs : List Loc) (ls : Array Slot), fX6_findSoonest_h8 fu f (v1, M, L) = some (M0, L0) → mw_W G ad NF TF FF M L H locs → lv_has ls 2 [(0, .ref (ad 61)), (1, .int v1)] → W p l e ({ frames := 1, cells := 0, slots := 0, locals := 21 }) s m [.ref (ad 61)].toArray below meth c H locs 0 0 (MQ below (mw_Qv G ad NF TF FF (mw_eqV M0 L0)) [.ref (ad 61)].toArray s 0 0 (mw_fr G)) (F0 m 8 ls []) := by
    intro f
    induction f with
    | zero => intro v1 M L H locs ls hD; cases hD
    | succ f8 ih8 =>
      intro v1 M L H locs ls hD hw hl
      replace hD : fX6_findSoonest_i8 fu (fX6_findSoonest_h8 fu f8) v1 M L = some (M0, L0) := hD
      unfold fX6_findSoonest_i8 at hD
      refine lv_iload_n C.1.1 C.1.2.1 dX6_findSoonest_8 rfl (lv_at hl 1 rfl) ?_
      refine lv_aload_n C.1.1 C.1.2.1 dX6_findSoonest_9 rfl (lv_at hl 0 rfl) ?_
      refine mr_getI C hw kc_6 11 (by decide) tf_61 wd_246 dX6_findSoonest_10 (by decide) rfl ?_
      refine lv_icmp_ge (tgt := 41) C.1.1 C.1.2.1 dX6_findSoonest_13 (by decide) (fun c1 => ?_) (fun c1 => ?_)
      · replace hD := g_pos c1 hD
        exact mr_vret C hr hlocks hw (Option.some.inj hD) dX6_findSoonest_41
      · replace hD := g_neg c1 hD
        refine lv_aload_n C.1.1 C.1.2.1 dX6_findSoonest_16 rfl (lv_at hl 0 rfl) ?_
        refine lv_aload_n C.1.1 C.1.2.1 dX6_findSoonest_17 rfl (lv_at hl 0 rfl) ?_
        refine mr_getI C hw kc_6 14 (by decide) tf_61 wd_251 dX6_findSoonest_18 (by decide) rfl ?_
        refine lv_aload_n C.1.1 C.1.2.1 dX6_findSoonest_21 rfl (lv_at hl 0 rfl) ?_
        refine mr_getR C hw kc_6 1 (by decide) tf_61 ff_61_1 wd_231 dX6_findSoonest_22 (by decide) rfl ?_
        refine lv_iconst (v := 5) C.1.1 C.1.2.1 dX6_findSoonest_25 (by decide) ?_
        refine mr_aald C hw (by decide) tf_73 (by decide) (by decide) rfl rfl (show vp_in 5 6 from by unfold vp_in; decide) ff_73_5 dX6_findSoonest_26 ?_
        refine lv_iload_n C.1.1 C.1.2.1 dX6_findSoonest_27 rfl (lv_at hl 1 rfl) ?_
        obtain ⟨q3, hD⟩ := g_ck hD
        refine mr_iald C hw (by decide) tf_79 q3 dX6_findSoonest_28 ?_
        refine va_mmin C.1.1 C.1.2.1 (C.1.2.2.1.trans hl.1.symm) C.1.2.2.2.1 (C.1.2.2.2.2 _ wd_1149) (C.1.2.2.2.2 _ wd_1150) (C.1.2.2.2.2 _ wd_30) (C.1.2.2.2.2 _ wd_1151) (Nat.le_of_ble_eq_true rfl) (Nat.le_of_ble_eq_true rfl) (Nat.zero_le _) (Nat.zero_le _) dX6_findSoonest_29 ?_
        obtain ⟨M4, eM4, hD⟩ := g_let hD
        refine mr_putI C hw kc_6 14 (by decide) tf_61 wd_251 dX6_findSoonest_32 (by decide) rfl rfl rfl rfl (fun H locs hw => ?_)
        replace hw : mw_W G ad NF TF FF M4 L H locs := by rw [eM4]; exact hw
        obtain ⟨x5, ex5, hD⟩ := g_let hD
        refine lv_iinc (v := x5) (lv' := [(1, .int x5), (0, .ref (ad 61))]) C.1.1 C.1.2.1 dX6_findSoonest_35 hl (k := 1) rfl (by rw [ex5]; rfl) (by decide) rfl (fun ls hl => ?_)
        refine lv_goto (tgt := 8) C.1.1 C.1.2.1 dX6_findSoonest_38 (by decide) ?_
        exact ih8 x5 M4 L _ _ ls hD hw (lv_sub hl [1, 0] rfl)
  unfold DX6_findSoonest at hD
  refine lv_aload_n C.1.1 C.1.2.1 dX6_findSoonest_0 rfl (lv_at hl 0 rfl) ?_
  refine lv_ldc (v := 1000000) C.1.1 C.1.2.1 C.1.2.2.2.1 (C.1.2.2.2.2 _ wd_809) dX6_findSoonest_1 ?_
  obtain ⟨M6, eM6, hD⟩ := g_let hD
  refine mr_putI C hw kc_6 14 (by decide) tf_61 wd_251 dX6_findSoonest_3 (by decide) rfl rfl rfl rfl (fun H locs hw => ?_)
  replace hw : mw_W G ad NF TF FF M6 L H locs := by rw [eM6]; exact hw
  refine lv_iconst (v := 0) C.1.1 C.1.2.1 dX6_findSoonest_6 (by decide) ?_
  refine lv_istore_n (lv' := [(1, .int 0), (0, .ref (ad 61))]) C.1.1 C.1.2.1 dX6_findSoonest_7 rfl hl (by decide) rfl (fun ls hl => ?_)
  exact hh8 fu 0 M6 L _ _ ls hD hw (lv_sub hl [1, 0] rfl)

theorem dX6_pack_0 : decode cX6_pack 0 = .ok (.iconst 0, 1) := by decide +kernel
theorem dX6_pack_1 : decode cX6_pack 1 = .ok (.istore_n 2, 1) := by decide +kernel
theorem dX6_pack_2 : decode cX6_pack 2 = .ok (.iload_n 2, 1) := by decide +kernel
theorem dX6_pack_3 : decode cX6_pack 3 = .ok (.aload_n 0, 1) := by decide +kernel
theorem dX6_pack_4 : decode cX6_pack 4 = .ok (.getfield 44, 3) := by decide +kernel
theorem dX6_pack_7 : decode cX6_pack 7 = .ok (.if_icmp .ge 38, 3) := by decide +kernel
theorem dX6_pack_10 : decode cX6_pack 10 = .ok (.aload_n 0, 1) := by decide +kernel
theorem dX6_pack_11 : decode cX6_pack 11 = .ok (.getfield 11, 3) := by decide +kernel
theorem dX6_pack_14 : decode cX6_pack 14 = .ok (.bipush 7, 2) := by decide +kernel
theorem dX6_pack_16 : decode cX6_pack 16 = .ok (.aaload, 1) := by decide +kernel
theorem dX6_pack_17 : decode cX6_pack 17 = .ok (.iload_n 2, 1) := by decide +kernel
theorem dX6_pack_18 : decode cX6_pack 18 = .ok (.aload_n 0, 1) := by decide +kernel
theorem dX6_pack_19 : decode cX6_pack 19 = .ok (.aload_n 0, 1) := by decide +kernel
theorem dX6_pack_20 : decode cX6_pack 20 = .ok (.getfield 11, 3) := by decide +kernel
theorem dX6_pack_23 : decode cX6_pack 23 = .ok (.iconst 5, 1) := by decide +kernel
theorem dX6_pack_24 : decode cX6_pack 24 = .ok (.aaload, 1) := by decide +kernel
theorem dX6_pack_25 : decode cX6_pack 25 = .ok (.iload_n 2, 1) := by decide +kernel
theorem dX6_pack_26 : decode cX6_pack 26 = .ok (.iaload, 1) := by decide +kernel
theorem dX6_pack_27 : decode cX6_pack 27 = .ok (.aload_n 0, 1) := by decide +kernel
theorem dX6_pack_28 : decode cX6_pack 28 = .ok (.getfield 11, 3) := by decide +kernel
theorem dX6_pack_31 : decode cX6_pack 31 = .ok (.iconst 3, 1) := by decide +kernel
theorem dX6_pack_32 : decode cX6_pack 32 = .ok (.aaload, 1) := by decide +kernel
theorem dX6_pack_33 : decode cX6_pack 33 = .ok (.iload_n 2, 1) := by decide +kernel
theorem dX6_pack_34 : decode cX6_pack 34 = .ok (.iaload, 1) := by decide +kernel
theorem dX6_pack_35 : decode cX6_pack 35 = .ok (.invokevirtual 58, 3) := by decide +kernel
theorem dX6_pack_38 : decode cX6_pack 38 = .ok (.iastore, 1) := by decide +kernel
theorem dX6_pack_39 : decode cX6_pack 39 = .ok (.iinc 2 1, 3) := by decide +kernel
theorem dX6_pack_42 : decode cX6_pack 42 = .ok (.goto (-40), 3) := by decide +kernel
theorem dX6_pack_45 : decode cX6_pack 45 = .ok (.iconst 0, 1) := by decide +kernel
theorem dX6_pack_46 : decode cX6_pack 46 = .ok (.istore_n 2, 1) := by decide +kernel
theorem dX6_pack_47 : decode cX6_pack 47 = .ok (.iload_n 2, 1) := by decide +kernel
theorem dX6_pack_48 : decode cX6_pack 48 = .ok (.iload_n 1, 1) := by decide +kernel
theorem dX6_pack_49 : decode cX6_pack 49 = .ok (.if_icmp .ge 21, 3) := by decide +kernel
theorem dX6_pack_52 : decode cX6_pack 52 = .ok (.aload_n 0, 1) := by decide +kernel
theorem dX6_pack_53 : decode cX6_pack 53 = .ok (.iload_n 2, 1) := by decide +kernel
theorem dX6_pack_54 : decode cX6_pack 54 = .ok (.iconst 0, 1) := by decide +kernel
theorem dX6_pack_55 : decode cX6_pack 55 = .ok (.invokevirtual 66, 3) := by decide +kernel
theorem dX6_pack_58 : decode cX6_pack 58 = .ok (.aload_n 0, 1) := by decide +kernel
theorem dX6_pack_59 : decode cX6_pack 59 = .ok (.iload_n 2, 1) := by decide +kernel
theorem dX6_pack_60 : decode cX6_pack 60 = .ok (.iconst 1, 1) := by decide +kernel
theorem dX6_pack_61 : decode cX6_pack 61 = .ok (.invokevirtual 66, 3) := by decide +kernel
theorem dX6_pack_64 : decode cX6_pack 64 = .ok (.iinc 2 1, 3) := by decide +kernel
theorem dX6_pack_67 : decode cX6_pack 67 = .ok (.goto (-20), 3) := by decide +kernel
theorem dX6_pack_70 : decode cX6_pack 70 = .ok (.aload_n 0, 1) := by decide +kernel
theorem dX6_pack_71 : decode cX6_pack 71 = .ok (.invokevirtual 70, 3) := by decide +kernel
theorem dX6_pack_74 : decode cX6_pack 74 = .ok (.aload_n 0, 1) := by decide +kernel
theorem dX6_pack_75 : decode cX6_pack 75 = .ok (.invokevirtual 73, 3) := by decide +kernel
theorem dX6_pack_78 : decode cX6_pack 78 = .ok (.return_, 1) := by decide +kernel
theorem cwX6_pack : mw_cwV yX6_pack cX6_pack 3 (none) 1 := ⟨⟨wd_7, wd_1136, by decide +kernel⟩, wd_1134, wd_1135⟩
set_option maxHeartbeats 4000000 in
set_option maxRecDepth 100000 in
theorem tX6_pack (l : Launch) (G : mwG) (ad : Nat → Nat) (fu : Nat) (a1 : Int32) (M : mwM) (L : mwL) {M0 : mwM} {L0 : mwL} (hD : DX6_pack fu a1 M L = some (M0, L0)) : Met l yX6_pack (Cond.code yX6_pack cX6_pack 3 (none) :: GT) ({ frames := 47, cells := 0, slots := 0, locals := 1206 }) (mw_Pre G ad NF TF FF M L [.ref (ad 61), .int a1]) (mw_Qv G ad NF TF FF (mw_eqV M0 L0)) 0 0 (mw_fr G) := by
  refine mw_enter (by decide) (Nat.le_of_ble_eq_true rfl) ?_
  intro p e s m below meth c ls C hr hlocks hnm hw hl
  have hl : lv_has ls 3 [(0, .ref (ad 61)), (1, .int a1)] := hl
  have hh47 : ∀ (f : Nat) (v2 : Int32) (M : mwM) (L : mwL) (H : Heap) (locs : List Loc) (ls : Array Slot), fX6_pack_h47 fu a1 f (v2, M, L) = some (M0, L0) → mw_W G ad NF TF FF M L H locs → lv_has ls 3 [(0, .ref (ad 61)), (1, .int a1), (2, .int v2)] → W p l e ({ frames := 47, cells := 0, slots := 0, locals := 1206 }) s m [.ref (ad 61), .int a1].toArray below meth c H locs 0 0 (MQ below (mw_Qv G ad NF TF FF (mw_eqV M0 L0)) [.ref (ad 61), .int a1].toArray s 0 0 (mw_fr G)) (F0 m 47 ls []) := by
    intro f
    induction f with
    | zero => intro v2 M L H locs ls hD; cases hD
    | succ f47 ih47 =>
      intro v2 M L H locs ls hD hw hl
      replace hD : fX6_pack_i47 fu a1 (fX6_pack_h47 fu a1 f47) v2 M L = some (M0, L0) := hD
      unfold fX6_pack_i47 at hD
      refine lv_iload_n C.1.1 C.1.2.1 dX6_pack_47 rfl (lv_at hl 2 rfl) ?_
      refine lv_iload_n C.1.1 C.1.2.1 dX6_pack_48 rfl (lv_at hl 1 rfl) ?_
      refine lv_icmp_ge (tgt := 70) C.1.1 C.1.2.1 dX6_pack_49 (by decide) (fun c13 => ?_) (fun c13 => ?_)
      · replace hD := g_pos c13 hD
        refine lv_aload_n C.1.1 C.1.2.1 dX6_pack_70 rfl (lv_at hl 0 rfl) ?_
        obtain ⟨M14, L15, h1, hD⟩ := g_b2 hD
        refine md_cvV (As := []) (rest := []) C hw (tX6_findPositions l G ad fu M L h1) kc_6 (by decide) tf_61 wd_1187 cwX6_findPositions ⟨Nat.le_of_ble_eq_true rfl, Nat.le_of_ble_eq_true rfl⟩ rfl hl.1 (Nat.le_of_ble_eq_true rfl) dX6_pack_71 rfl rfl ⟨Nat.zero_le _, Nat.zero_le _⟩ rfl (fun H locs hw => ?_)
        refine lv_aload_n C.1.1 C.1.2.1 dX6_pack_74 rfl (lv_at hl 0 rfl) ?_
        obtain ⟨M16, L17, h1, hD⟩ := g_b2 hD
        refine md_cvV (As := []) (rest := []) C hw (tX6_findSoonest l G ad fu M14 L15 h1) kc_6 (by decide) tf_61 wd_1191 cwX6_findSoonest ⟨Nat.le_of_ble_eq_true rfl, Nat.le_of_ble_eq_true rfl⟩ rfl hl.1 (Nat.le_of_ble_eq_true rfl) dX6_pack_75 rfl rfl ⟨Nat.zero_le _, Nat.zero_le _⟩ rfl (fun H locs hw => ?_)
        exact mr_vret C hr hlocks hw (Option.some.inj hD) dX6_pack_78
      · replace hD := g_neg c13 hD
        refine lv_aload_n C.1.1 C.1.2.1 dX6_pack_52 rfl (lv_at hl 0 rfl) ?_
        refine lv_iload_n C.1.1 C.1.2.1 dX6_pack_53 rfl (lv_at hl 2 rfl) ?_
        refine lv_iconst (v := 0) C.1.1 C.1.2.1 dX6_pack_54 (by decide) ?_
        obtain ⟨M18, L19, h1, hD⟩ := g_b2 hD
        refine md_cvV (As := [.int v2, .int 0]) (rest := []) C hw (tX6_packOf l G ad fu v2 0 M L h1) kc_6 (by decide) tf_61 wd_1137 cwX6_packOf ⟨Nat.le_of_ble_eq_true rfl, Nat.le_of_ble_eq_true rfl⟩ rfl hl.1 (Nat.le_of_ble_eq_true rfl) dX6_pack_55 rfl rfl ⟨Nat.zero_le _, Nat.zero_le _⟩ rfl (fun H locs hw => ?_)
        refine lv_aload_n C.1.1 C.1.2.1 dX6_pack_58 rfl (lv_at hl 0 rfl) ?_
        refine lv_iload_n C.1.1 C.1.2.1 dX6_pack_59 rfl (lv_at hl 2 rfl) ?_
        refine lv_iconst (v := 1) C.1.1 C.1.2.1 dX6_pack_60 (by decide) ?_
        obtain ⟨M20, L21, h1, hD⟩ := g_b2 hD
        refine md_cvV (As := [.int v2, .int 1]) (rest := []) C hw (tX6_packOf l G ad fu v2 1 M18 L19 h1) kc_6 (by decide) tf_61 wd_1137 cwX6_packOf ⟨Nat.le_of_ble_eq_true rfl, Nat.le_of_ble_eq_true rfl⟩ rfl hl.1 (Nat.le_of_ble_eq_true rfl) dX6_pack_61 rfl rfl ⟨Nat.zero_le _, Nat.zero_le _⟩ rfl (fun H locs hw => ?_)
        obtain ⟨x22, ex22, hD⟩ := g_let hD
        refine lv_iinc (v := x22) (lv' := [(2, .int x22), (0, .ref (ad 61)), (1, .int a1)]) C.1.1 C.1.2.1 dX6_pack_64 hl (k := 2) rfl (by rw [ex22]; rfl) (by decide) rfl (fun ls hl => ?_)
        refine lv_goto (tgt := 47) C.1.1 C.1.2.1 dX6_pack_67 (by decide) ?_
        exact ih47 x22 M20 L21 _ _ ls hD hw (lv_sub hl [1, 2, 0] rfl)
  have hh2 : ∀ (f : Nat) (v2 : Int32) (M : mwM) (L : mwL) (H : Heap) (locs : List Loc) (ls : Array Slot), fX6_pack_h2 fu a1 f (v2, M, L) = some (M0, L0) → mw_W G ad NF TF FF M L H locs → lv_has ls 3 [(0, .ref (ad 61)), (1, .int a1), (2, .int v2)] → W p l e ({ frames := 47, cells := 0, slots := 0, locals := 1206 }) s m [.ref (ad 61), .int a1].toArray below meth c H locs 0 0 (MQ below (mw_Qv G ad NF TF FF (mw_eqV M0 L0)) [.ref (ad 61), .int a1].toArray s 0 0 (mw_fr G)) (F0 m 2 ls []) := by
    intro f
    induction f with
    | zero => intro v2 M L H locs ls hD; cases hD
    | succ f2 ih2 =>
      intro v2 M L H locs ls hD hw hl
      replace hD : fX6_pack_i2 fu a1 (fX6_pack_h2 fu a1 f2) v2 M L = some (M0, L0) := hD
      unfold fX6_pack_i2 at hD
      refine lv_iload_n C.1.1 C.1.2.1 dX6_pack_2 rfl (lv_at hl 2 rfl) ?_
      refine lv_aload_n C.1.1 C.1.2.1 dX6_pack_3 rfl (lv_at hl 0 rfl) ?_
      refine mr_getI C hw kc_6 10 (by decide) tf_61 wd_243 dX6_pack_4 (by decide) rfl ?_
      refine lv_icmp_ge (tgt := 45) C.1.1 C.1.2.1 dX6_pack_7 (by decide) (fun c1 => ?_) (fun c1 => ?_)
      · replace hD := g_pos c1 hD
        refine lv_iconst (v := 0) C.1.1 C.1.2.1 dX6_pack_45 (by decide) ?_
        refine lv_istore_n (lv' := [(2, .int 0), (0, .ref (ad 61)), (1, .int a1)]) C.1.1 C.1.2.1 dX6_pack_46 rfl hl (by decide) rfl (fun ls hl => ?_)
        exact hh47 fu 0 M L _ _ ls hD hw (lv_sub hl [1, 2, 0] rfl)
      · replace hD := g_neg c1 hD
        refine lv_aload_n C.1.1 C.1.2.1 dX6_pack_10 rfl (lv_at hl 0 rfl) ?_
        refine mr_getR C hw kc_6 0 (by decide) tf_61 ff_61_0 wd_228 dX6_pack_11 (by decide) rfl ?_
        refine lv_bipush (v := 7) C.1.1 C.1.2.1 dX6_pack_14 (by decide) ?_
        refine mr_aald C hw (by decide) tf_62 (by decide) (by decide) rfl rfl (show vp_in 7 10 from by unfold vp_in; decide) ff_62_7 dX6_pack_16 ?_
        refine lv_iload_n C.1.1 C.1.2.1 dX6_pack_17 rfl (lv_at hl 2 rfl) ?_
        refine lv_aload_n C.1.1 C.1.2.1 dX6_pack_18 rfl (lv_at hl 0 rfl) ?_
        refine lv_aload_n C.1.1 C.1.2.1 dX6_pack_19 rfl (lv_at hl 0 rfl) ?_
        refine mr_getR C hw kc_6 0 (by decide) tf_61 ff_61_0 wd_228 dX6_pack_20 (by decide) rfl ?_
        refine lv_iconst (v := 5) C.1.1 C.1.2.1 dX6_pack_23 (by decide) ?_
        refine mr_aald C hw (by decide) tf_62 (by decide) (by decide) rfl rfl (show vp_in 5 10 from by unfold vp_in; decide) ff_62_5 dX6_pack_24 ?_
        refine lv_iload_n C.1.1 C.1.2.1 dX6_pack_25 rfl (lv_at hl 2 rfl) ?_
        obtain ⟨q4, hD⟩ := g_ck hD
        refine mr_iald C hw (by decide) tf_68 q4 dX6_pack_26 ?_
        refine lv_aload_n C.1.1 C.1.2.1 dX6_pack_27 rfl (lv_at hl 0 rfl) ?_
        refine mr_getR C hw kc_6 0 (by decide) tf_61 ff_61_0 wd_228 dX6_pack_28 (by decide) rfl ?_
        refine lv_iconst (v := 3) C.1.1 C.1.2.1 dX6_pack_31 (by decide) ?_
        refine mr_aald C hw (by decide) tf_62 (by decide) (by decide) rfl rfl (show vp_in 3 10 from by unfold vp_in; decide) ff_62_3 dX6_pack_32 ?_
        refine lv_iload_n C.1.1 C.1.2.1 dX6_pack_33 rfl (lv_at hl 2 rfl) ?_
        obtain ⟨q6, hD⟩ := g_ck hD
        refine mr_iald C hw (by decide) tf_66 q6 dX6_pack_34 ?_
        obtain ⟨r9, M7, L8, h1, hD⟩ := g_b3 hD
        refine md_cvI (As := [.int (M 68 v2.toNatClampNeg), .int (M 66 v2.toNatClampNeg)]) (rest := [.int v2, .ref (ad 70)]) C hw (tX6_keyOf l G ad fu (M 68 v2.toNatClampNeg) (M 66 v2.toNatClampNeg) M L h1) kc_6 (by decide) tf_61 wd_1124 cwX6_keyOf ⟨Nat.le_of_ble_eq_true rfl, Nat.le_of_ble_eq_true rfl⟩ rfl hl.1 (Nat.le_of_ble_eq_true rfl) dX6_pack_35 rfl rfl ⟨Nat.zero_le _, Nat.zero_le _⟩ rfl (fun H locs hw => ?_)
        obtain ⟨q10, hD⟩ := g_ck hD
        obtain ⟨M11, eM11, hD⟩ := g_let hD
        refine mr_iast C hw (by decide) tf_70 q10 dX6_pack_38 (fun H locs hw => ?_)
        replace hw : mw_W G ad NF TF FF M11 L8 H locs := by rw [eM11]; exact hw
        obtain ⟨x12, ex12, hD⟩ := g_let hD
        refine lv_iinc (v := x12) (lv' := [(2, .int x12), (0, .ref (ad 61)), (1, .int a1)]) C.1.1 C.1.2.1 dX6_pack_39 hl (k := 2) rfl (by rw [ex12]; rfl) (by decide) rfl (fun ls hl => ?_)
        refine lv_goto (tgt := 2) C.1.1 C.1.2.1 dX6_pack_42 (by decide) ?_
        exact ih2 x12 M11 L8 _ _ ls hD hw (lv_sub hl [1, 2, 0] rfl)
  unfold DX6_pack at hD
  refine lv_iconst (v := 0) C.1.1 C.1.2.1 dX6_pack_0 (by decide) ?_
  refine lv_istore_n (lv' := [(2, .int 0), (0, .ref (ad 61)), (1, .int a1)]) C.1.1 C.1.2.1 dX6_pack_1 rfl hl (by decide) rfl (fun ls hl => ?_)
  exact hh2 fu 0 M L _ _ ls hD hw (lv_sub hl [1, 2, 0] rfl)

theorem dX6_identifierOf_0 : decode cX6_identifierOf 0 = .ok (.bipush 64, 2) := by decide +kernel
theorem dX6_identifierOf_2 : decode cX6_identifierOf 2 = .ok (.bipush 8, 2) := by decide +kernel
theorem dX6_identifierOf_4 : decode cX6_identifierOf 4 = .ok (.aload_n 0, 1) := by decide +kernel
theorem dX6_identifierOf_5 : decode cX6_identifierOf 5 = .ok (.getfield 16, 3) := by decide +kernel
theorem dX6_identifierOf_8 : decode cX6_identifierOf 8 = .ok (.iconst 4, 1) := by decide +kernel
theorem dX6_identifierOf_9 : decode cX6_identifierOf 9 = .ok (.aaload, 1) := by decide +kernel
theorem dX6_identifierOf_10 : decode cX6_identifierOf 10 = .ok (.iload_n 1, 1) := by decide +kernel
theorem dX6_identifierOf_11 : decode cX6_identifierOf 11 = .ok (.iaload, 1) := by decide +kernel
theorem dX6_identifierOf_12 : decode cX6_identifierOf 12 = .ok (.imul, 1) := by decide +kernel
theorem dX6_identifierOf_13 : decode cX6_identifierOf 13 = .ok (.iadd, 1) := by decide +kernel
theorem dX6_identifierOf_14 : decode cX6_identifierOf 14 = .ok (.ireturn, 1) := by decide +kernel
theorem cwX6_identifierOf : mw_cwV yX6_identifierOf cX6_identifierOf 2 ((some .int)) 1 := ⟨⟨wd_7, wd_1273, by decide +kernel⟩, wd_1271, wd_1272⟩
set_option maxHeartbeats 4000000 in
set_option maxRecDepth 100000 in
theorem tX6_identifierOf (l : Launch) (G : mwG) (ad : Nat → Nat) (fu : Nat) (a1 : Int32) (M : mwM) (L : mwL) {r0 : Int32} {M0 : mwM} {L0 : mwL} (hD : DX6_identifierOf fu a1 M L = some (r0, M0, L0)) : Met l yX6_identifierOf (Cond.code yX6_identifierOf cX6_identifierOf 2 ((some .int)) :: GT) ({ frames := 0, cells := 0, slots := 0, locals := 0 }) (mw_Pre G ad NF TF FF M L [.ref (ad 61), .int a1]) (mw_Qi G ad NF TF FF (mw_eqI r0 M0 L0)) 0 0 (mw_fr G) := by
  refine mw_enter (by decide) (Nat.le_of_ble_eq_true rfl) ?_
  intro p e s m below meth c ls C hr hlocks hnm hw hl
  have hl : lv_has ls 2 [(0, .ref (ad 61)), (1, .int a1)] := hl
  unfold DX6_identifierOf at hD
  refine lv_bipush (v := 64) C.1.1 C.1.2.1 dX6_identifierOf_0 (by decide) ?_
  refine lv_bipush (v := 8) C.1.1 C.1.2.1 dX6_identifierOf_2 (by decide) ?_
  refine lv_aload_n C.1.1 C.1.2.1 dX6_identifierOf_4 rfl (lv_at hl 0 rfl) ?_
  refine mr_getR C hw kc_6 1 (by decide) tf_61 ff_61_1 wd_231 dX6_identifierOf_5 (by decide) rfl ?_
  refine lv_iconst (v := 4) C.1.1 C.1.2.1 dX6_identifierOf_8 (by decide) ?_
  refine mr_aald C hw (by decide) tf_73 (by decide) (by decide) rfl rfl (show vp_in 4 6 from by unfold vp_in; decide) ff_73_4 dX6_identifierOf_9 ?_
  refine lv_iload_n C.1.1 C.1.2.1 dX6_identifierOf_10 rfl (lv_at hl 1 rfl) ?_
  obtain ⟨q2, hD⟩ := g_ck hD
  refine mr_iald C hw (by decide) tf_78 q2 dX6_identifierOf_11 ?_
  refine lv_imul C.1.1 C.1.2.1 dX6_identifierOf_12 ?_
  refine lv_iadd C.1.1 C.1.2.1 dX6_identifierOf_13 ?_
  exact mr_iret C hr hlocks hw rfl (Option.some.inj hD) dX6_identifierOf_14

theorem dX6_frameOf_0 : decode cX6_frameOf 0 = .ok (.iload_n 1, 1) := by decide +kernel
theorem dX6_frameOf_1 : decode cX6_frameOf 1 = .ok (.bipush 64, 2) := by decide +kernel
theorem dX6_frameOf_3 : decode cX6_frameOf 3 = .ok (.isub, 1) := by decide +kernel
theorem dX6_frameOf_4 : decode cX6_frameOf 4 = .ok (.bipush 8, 2) := by decide +kernel
theorem dX6_frameOf_6 : decode cX6_frameOf 6 = .ok (.idiv, 1) := by decide +kernel
theorem dX6_frameOf_7 : decode cX6_frameOf 7 = .ok (.istore_n 2, 1) := by decide +kernel
theorem dX6_frameOf_8 : decode cX6_frameOf 8 = .ok (.iload_n 1, 1) := by decide +kernel
theorem dX6_frameOf_9 : decode cX6_frameOf 9 = .ok (.bipush 64, 2) := by decide +kernel
theorem dX6_frameOf_11 : decode cX6_frameOf 11 = .ok (.if_icmp .lt 18, 3) := by decide +kernel
theorem dX6_frameOf_14 : decode cX6_frameOf 14 = .ok (.iload_n 1, 1) := by decide +kernel
theorem dX6_frameOf_15 : decode cX6_frameOf 15 = .ok (.bipush 8, 2) := by decide +kernel
theorem dX6_frameOf_17 : decode cX6_frameOf 17 = .ok (.irem, 1) := by decide +kernel
theorem dX6_frameOf_18 : decode cX6_frameOf 18 = .ok (.ifCond .ne 11, 3) := by decide +kernel
theorem dX6_frameOf_21 : decode cX6_frameOf 21 = .ok (.iload_n 2, 1) := by decide +kernel
theorem dX6_frameOf_22 : decode cX6_frameOf 22 = .ok (.aload_n 0, 1) := by decide +kernel
theorem dX6_frameOf_23 : decode cX6_frameOf 23 = .ok (.getfield 48, 3) := by decide +kernel
theorem dX6_frameOf_26 : decode cX6_frameOf 26 = .ok (.if_icmp .lt 5, 3) := by decide +kernel
theorem dX6_frameOf_29 : decode cX6_frameOf 29 = .ok (.iconst (-1), 1) := by decide +kernel
theorem dX6_frameOf_30 : decode cX6_frameOf 30 = .ok (.ireturn, 1) := by decide +kernel
theorem dX6_frameOf_31 : decode cX6_frameOf 31 = .ok (.aload_n 0, 1) := by decide +kernel
theorem dX6_frameOf_32 : decode cX6_frameOf 32 = .ok (.getfield 19, 3) := by decide +kernel
theorem dX6_frameOf_35 : decode cX6_frameOf 35 = .ok (.iload_n 2, 1) := by decide +kernel
theorem dX6_frameOf_36 : decode cX6_frameOf 36 = .ok (.iaload, 1) := by decide +kernel
theorem dX6_frameOf_37 : decode cX6_frameOf 37 = .ok (.ireturn, 1) := by decide +kernel
theorem cwX6_frameOf : mw_cwV yX6_frameOf cX6_frameOf 3 ((some .int)) 1 := ⟨⟨wd_7, wd_1607, by decide +kernel⟩, wd_1605, wd_1606⟩
set_option maxHeartbeats 4000000 in
set_option maxRecDepth 100000 in
theorem tX6_frameOf (l : Launch) (G : mwG) (ad : Nat → Nat) (fu : Nat) (a1 : Int32) (M : mwM) (L : mwL) {r0 : Int32} {M0 : mwM} {L0 : mwL} (hD : DX6_frameOf fu a1 M L = some (r0, M0, L0)) : Met l yX6_frameOf (Cond.code yX6_frameOf cX6_frameOf 3 ((some .int)) :: GT) ({ frames := 0, cells := 0, slots := 0, locals := 0 }) (mw_Pre G ad NF TF FF M L [.ref (ad 61), .int a1]) (mw_Qi G ad NF TF FF (mw_eqI r0 M0 L0)) 0 0 (mw_fr G) := by
  refine mw_enter (by decide) (Nat.le_of_ble_eq_true rfl) ?_
  intro p e s m below meth c ls C hr hlocks hnm hw hl
  have hl : lv_has ls 3 [(0, .ref (ad 61)), (1, .int a1)] := hl
  have hb29 : ∀ (M : mwM) (L : mwL) (H : Heap) (locs : List Loc) (ls : Array Slot), fX6_frameOf_b29 fu a1 M L = some (r0, M0, L0) → mw_W G ad NF TF FF M L H locs → lv_has ls 3 [] → W p l e ({ frames := 0, cells := 0, slots := 0, locals := 0 }) s m [.ref (ad 61), .int a1].toArray below meth c H locs 0 0 (MQ below (mw_Qi G ad NF TF FF (mw_eqI r0 M0 L0)) [.ref (ad 61), .int a1].toArray s 0 0 (mw_fr G)) (F0 m 29 ls []) := by
    intro M L H locs ls hD hw hl
    unfold fX6_frameOf_b29 at hD
    refine lv_iconst (v := (-1)) C.1.1 C.1.2.1 dX6_frameOf_29 (by decide) ?_
    exact mr_iret C hr hlocks hw rfl (Option.some.inj hD) dX6_frameOf_30
  unfold DX6_frameOf at hD
  refine lv_iload_n C.1.1 C.1.2.1 dX6_frameOf_0 rfl (lv_at hl 1 rfl) ?_
  refine lv_bipush (v := 64) C.1.1 C.1.2.1 dX6_frameOf_1 (by decide) ?_
  refine lv_isub C.1.1 C.1.2.1 dX6_frameOf_3 ?_
  refine lv_bipush (v := 8) C.1.1 C.1.2.1 dX6_frameOf_4 (by decide) ?_
  refine lv_idiv C.1.1 C.1.2.1 dX6_frameOf_6 (by decide) ?_
  obtain ⟨x2, ex2, hD⟩ := g_let hD
  refine W.eq (g2 := F0 m 7 ls (.int x2 :: [])) (by rw [ex2]) ?_
  refine lv_istore_n (lv' := [(2, .int x2), (0, .ref (ad 61)), (1, .int a1)]) C.1.1 C.1.2.1 dX6_frameOf_7 rfl hl (by decide) rfl (fun ls hl => ?_)
  refine lv_iload_n C.1.1 C.1.2.1 dX6_frameOf_8 rfl (lv_at hl 2 rfl) ?_
  refine lv_bipush (v := 64) C.1.1 C.1.2.1 dX6_frameOf_9 (by decide) ?_
  refine lv_icmp_lt (tgt := 29) C.1.1 C.1.2.1 dX6_frameOf_11 (by decide) (fun c3 => ?_) (fun c3 => ?_)
  · replace hD := g_pos c3 hD
    exact hb29 M L _ _ ls hD hw (lv_sub hl [] rfl)
  · replace hD := g_neg c3 hD
    refine lv_iload_n C.1.1 C.1.2.1 dX6_frameOf_14 rfl (lv_at hl 2 rfl) ?_
    refine lv_bipush (v := 8) C.1.1 C.1.2.1 dX6_frameOf_15 (by decide) ?_
    refine lv_irem C.1.1 C.1.2.1 dX6_frameOf_17 (by decide) ?_
    refine lv_if_ne (tgt := 29) C.1.1 C.1.2.1 dX6_frameOf_18 (by decide) (fun c5 => ?_) (fun c5 => ?_)
    · replace hD := g_neg c5 hD
      exact hb29 M L _ _ ls hD hw (lv_sub hl [] rfl)
    · replace hD := g_pos c5 hD
      refine lv_iload_n C.1.1 C.1.2.1 dX6_frameOf_21 rfl (lv_at hl 0 rfl) ?_
      refine lv_aload_n C.1.1 C.1.2.1 dX6_frameOf_22 rfl (lv_at hl 1 rfl) ?_
      refine mr_getI C hw kc_6 11 (by decide) tf_61 wd_246 dX6_frameOf_23 (by decide) rfl ?_
      refine lv_icmp_lt (tgt := 31) C.1.1 C.1.2.1 dX6_frameOf_26 (by decide) (fun c6 => ?_) (fun c6 => ?_)
      · replace hD := g_pos c6 hD
        refine lv_aload_n C.1.1 C.1.2.1 dX6_frameOf_31 rfl (lv_at hl 1 rfl) ?_
        refine mr_getR C hw kc_6 2 (by decide) tf_61 ff_61_2 wd_234 dX6_frameOf_32 (by decide) rfl ?_
        refine lv_iload_n C.1.1 C.1.2.1 dX6_frameOf_35 rfl (lv_at hl 0 rfl) ?_
        obtain ⟨q7, hD⟩ := g_ck hD
        refine mr_iald C hw (by decide) tf_80 q7 dX6_frameOf_36 ?_
        exact mr_iret C hr hlocks hw rfl (Option.some.inj hD) dX6_frameOf_37
      · replace hD := g_neg c6 hD
        exact hb29 M L _ _ ls hD hw (lv_sub hl [] rfl)

theorem dX6_isIn_0 : decode cX6_isIn 0 = .ok (.aload_n 0, 1) := by decide +kernel
theorem dX6_isIn_1 : decode cX6_isIn 1 = .ok (.getfield 11, 3) := by decide +kernel
theorem dX6_isIn_4 : decode cX6_isIn 4 = .ok (.bipush 8, 2) := by decide +kernel
theorem dX6_isIn_6 : decode cX6_isIn 6 = .ok (.aaload, 1) := by decide +kernel
theorem dX6_isIn_7 : decode cX6_isIn 7 = .ok (.iload_n 1, 1) := by decide +kernel
theorem dX6_isIn_8 : decode cX6_isIn 8 = .ok (.iaload, 1) := by decide +kernel
theorem dX6_isIn_9 : decode cX6_isIn 9 = .ok (.iload_n 2, 1) := by decide +kernel
theorem dX6_isIn_10 : decode cX6_isIn 10 = .ok (.if_icmp .ne 7, 3) := by decide +kernel
theorem dX6_isIn_13 : decode cX6_isIn 13 = .ok (.iconst 1, 1) := by decide +kernel
theorem dX6_isIn_14 : decode cX6_isIn 14 = .ok (.goto 4, 3) := by decide +kernel
theorem dX6_isIn_17 : decode cX6_isIn 17 = .ok (.iconst 0, 1) := by decide +kernel
theorem dX6_isIn_18 : decode cX6_isIn 18 = .ok (.ireturn, 1) := by decide +kernel
theorem cwX6_isIn : mw_cwV yX6_isIn cX6_isIn 3 ((some .boolean)) 2 := ⟨⟨wd_7, wd_1628, by decide +kernel⟩, wd_1626, wd_1627⟩
set_option maxHeartbeats 4000000 in
set_option maxRecDepth 100000 in
theorem tX6_isIn (l : Launch) (G : mwG) (ad : Nat → Nat) (fu : Nat) (a1 : Int32) (a2 : Int32) (M : mwM) (L : mwL) {r0 : Int32} {M0 : mwM} {L0 : mwL} (hD : DX6_isIn fu a1 a2 M L = some (r0, M0, L0)) : Met l yX6_isIn (Cond.code yX6_isIn cX6_isIn 3 ((some .boolean)) :: GT) ({ frames := 0, cells := 0, slots := 0, locals := 0 }) (mw_Pre G ad NF TF FF M L [.ref (ad 61), .int a1, .int a2]) (mw_Qi G ad NF TF FF (mw_eqI r0 M0 L0)) 0 0 (mw_fr G) := by
  refine mw_enter (by decide) (Nat.le_of_ble_eq_true rfl) ?_
  intro p e s m below meth c ls C hr hlocks hnm hw hl
  have hl : lv_has ls 3 [(0, .ref (ad 61)), (1, .int a1), (2, .int a2)] := hl
  have hb18 : ∀ (s0 : Int32) (M : mwM) (L : mwL) (H : Heap) (locs : List Loc) (ls : Array Slot), fX6_isIn_b18 fu a1 a2 s0 M L = some (r0, M0, L0) → mw_W G ad NF TF FF M L H locs → lv_has ls 3 [] → W p l e ({ frames := 0, cells := 0, slots := 0, locals := 0 }) s m [.ref (ad 61), .int a1, .int a2].toArray below meth c H locs 0 0 (MQ below (mw_Qi G ad NF TF FF (mw_eqI r0 M0 L0)) [.ref (ad 61), .int a1, .int a2].toArray s 0 0 (mw_fr G)) (F0 m 18 ls [.int s0]) := by
    intro s0 M L H locs ls hD hw hl
    unfold fX6_isIn_b18 at hD
    obtain ⟨z1, hD⟩ := g_zz hD
    exact mr_iret C hr hlocks hw (nz_zz z1) (Option.some.inj hD) dX6_isIn_18
  unfold DX6_isIn at hD
  refine lv_aload_n C.1.1 C.1.2.1 dX6_isIn_0 rfl (lv_at hl 0 rfl) ?_
  refine mr_getR C hw kc_6 0 (by decide) tf_61 ff_61_0 wd_228 dX6_isIn_1 (by decide) rfl ?_
  refine lv_bipush (v := 8) C.1.1 C.1.2.1 dX6_isIn_4 (by decide) ?_
  refine mr_aald C hw (by decide) tf_62 (by decide) (by decide) rfl rfl (show vp_in 8 10 from by unfold vp_in; decide) ff_62_8 dX6_isIn_6 ?_
  refine lv_iload_n C.1.1 C.1.2.1 dX6_isIn_7 rfl (lv_at hl 1 rfl) ?_
  obtain ⟨q3, hD⟩ := g_ck hD
  refine mr_iald C hw (by decide) tf_71 q3 dX6_isIn_8 ?_
  refine lv_iload_n C.1.1 C.1.2.1 dX6_isIn_9 rfl (lv_at hl 2 rfl) ?_
  refine lv_icmp_ne (tgt := 17) C.1.1 C.1.2.1 dX6_isIn_10 (by decide) (fun c4 => ?_) (fun c4 => ?_)
  · replace hD := g_neg c4 hD
    refine lv_iconst (v := 0) C.1.1 C.1.2.1 dX6_isIn_17 (by decide) ?_
    exact hb18 0 M L _ _ ls hD hw (lv_sub hl [] rfl)
  · replace hD := g_pos c4 hD
    refine lv_iconst (v := 1) C.1.1 C.1.2.1 dX6_isIn_13 (by decide) ?_
    refine lv_goto (tgt := 18) C.1.1 C.1.2.1 dX6_isIn_14 (by decide) ?_
    exact hb18 1 M L _ _ ls hD hw (lv_sub hl [] rfl)

theorem dX6_takeTurn_0 : decode cX6_takeTurn 0 = .ok (.aload_n 0, 1) := by decide +kernel
theorem dX6_takeTurn_1 : decode cX6_takeTurn 1 = .ok (.getfield 16, 3) := by decide +kernel
theorem dX6_takeTurn_4 : decode cX6_takeTurn 4 = .ok (.iconst 5, 1) := by decide +kernel
theorem dX6_takeTurn_5 : decode cX6_takeTurn 5 = .ok (.aaload, 1) := by decide +kernel
theorem dX6_takeTurn_6 : decode cX6_takeTurn 6 = .ok (.iload_n 1, 1) := by decide +kernel
theorem dX6_takeTurn_7 : decode cX6_takeTurn 7 = .ok (.iaload, 1) := by decide +kernel
theorem dX6_takeTurn_8 : decode cX6_takeTurn 8 = .ok (.iload_n 2, 1) := by decide +kernel
theorem dX6_takeTurn_9 : decode cX6_takeTurn 9 = .ok (.if_icmp .eq 5, 3) := by decide +kernel
theorem dX6_takeTurn_12 : decode cX6_takeTurn 12 = .ok (.iconst 0, 1) := by decide +kernel
theorem dX6_takeTurn_13 : decode cX6_takeTurn 13 = .ok (.ireturn, 1) := by decide +kernel
theorem dX6_takeTurn_14 : decode cX6_takeTurn 14 = .ok (.aload_n 0, 1) := by decide +kernel
theorem dX6_takeTurn_15 : decode cX6_takeTurn 15 = .ok (.getfield 16, 3) := by decide +kernel
theorem dX6_takeTurn_18 : decode cX6_takeTurn 18 = .ok (.iconst 5, 1) := by decide +kernel
theorem dX6_takeTurn_19 : decode cX6_takeTurn 19 = .ok (.aaload, 1) := by decide +kernel
theorem dX6_takeTurn_20 : decode cX6_takeTurn 20 = .ok (.iload_n 1, 1) := by decide +kernel
theorem dX6_takeTurn_21 : decode cX6_takeTurn 21 = .ok (.dup2, 1) := by decide +kernel
theorem dX6_takeTurn_22 : decode cX6_takeTurn 22 = .ok (.iaload, 1) := by decide +kernel
theorem dX6_takeTurn_23 : decode cX6_takeTurn 23 = .ok (.aload_n 0, 1) := by decide +kernel
theorem dX6_takeTurn_24 : decode cX6_takeTurn 24 = .ok (.getfield 16, 3) := by decide +kernel
theorem dX6_takeTurn_27 : decode cX6_takeTurn 27 = .ok (.iconst 1, 1) := by decide +kernel
theorem dX6_takeTurn_28 : decode cX6_takeTurn 28 = .ok (.aaload, 1) := by decide +kernel
theorem dX6_takeTurn_29 : decode cX6_takeTurn 29 = .ok (.iload_n 1, 1) := by decide +kernel
theorem dX6_takeTurn_30 : decode cX6_takeTurn 30 = .ok (.iaload, 1) := by decide +kernel
theorem dX6_takeTurn_31 : decode cX6_takeTurn 31 = .ok (.iadd, 1) := by decide +kernel
theorem dX6_takeTurn_32 : decode cX6_takeTurn 32 = .ok (.iastore, 1) := by decide +kernel
theorem dX6_takeTurn_33 : decode cX6_takeTurn 33 = .ok (.iconst 1, 1) := by decide +kernel
theorem dX6_takeTurn_34 : decode cX6_takeTurn 34 = .ok (.ireturn, 1) := by decide +kernel
theorem cwX6_takeTurn : mw_cwV yX6_takeTurn cX6_takeTurn 3 ((some .boolean)) 2 := ⟨⟨wd_7, wd_1302, by decide +kernel⟩, wd_1300, wd_1301⟩
set_option maxHeartbeats 4000000 in
set_option maxRecDepth 100000 in
theorem tX6_takeTurn (l : Launch) (G : mwG) (ad : Nat → Nat) (fu : Nat) (a1 : Int32) (a2 : Int32) (M : mwM) (L : mwL) {r0 : Int32} {M0 : mwM} {L0 : mwL} (hD : DX6_takeTurn fu a1 a2 M L = some (r0, M0, L0)) : Met l yX6_takeTurn (Cond.code yX6_takeTurn cX6_takeTurn 3 ((some .boolean)) :: GT) ({ frames := 0, cells := 0, slots := 0, locals := 0 }) (mw_Pre G ad NF TF FF M L [.ref (ad 61), .int a1, .int a2]) (mw_Qi G ad NF TF FF (mw_eqI r0 M0 L0)) 0 0 (mw_fr G) := by
  refine mw_enter (by decide) (Nat.le_of_ble_eq_true rfl) ?_
  intro p e s m below meth c ls C hr hlocks hnm hw hl
  have hl : lv_has ls 3 [(0, .ref (ad 61)), (1, .int a1), (2, .int a2)] := hl
  unfold DX6_takeTurn at hD
  refine lv_aload_n C.1.1 C.1.2.1 dX6_takeTurn_0 rfl (lv_at hl 0 rfl) ?_
  refine mr_getR C hw kc_6 1 (by decide) tf_61 ff_61_1 wd_231 dX6_takeTurn_1 (by decide) rfl ?_
  refine lv_iconst (v := 5) C.1.1 C.1.2.1 dX6_takeTurn_4 (by decide) ?_
  refine mr_aald C hw (by decide) tf_73 (by decide) (by decide) rfl rfl (show vp_in 5 6 from by unfold vp_in; decide) ff_73_5 dX6_takeTurn_5 ?_
  refine lv_iload_n C.1.1 C.1.2.1 dX6_takeTurn_6 rfl (lv_at hl 1 rfl) ?_
  obtain ⟨q2, hD⟩ := g_ck hD
  refine mr_iald C hw (by decide) tf_79 q2 dX6_takeTurn_7 ?_
  refine lv_iload_n C.1.1 C.1.2.1 dX6_takeTurn_8 rfl (lv_at hl 2 rfl) ?_
  refine lv_icmp_eq (tgt := 14) C.1.1 C.1.2.1 dX6_takeTurn_9 (by decide) (fun c3 => ?_) (fun c3 => ?_)
  · replace hD := g_pos c3 hD
    refine lv_aload_n C.1.1 C.1.2.1 dX6_takeTurn_14 rfl (lv_at hl 0 rfl) ?_
    refine mr_getR C hw kc_6 1 (by decide) tf_61 ff_61_1 wd_231 dX6_takeTurn_15 (by decide) rfl ?_
    refine lv_iconst (v := 5) C.1.1 C.1.2.1 dX6_takeTurn_18 (by decide) ?_
    refine mr_aald C hw (by decide) tf_73 (by decide) (by decide) rfl rfl (show vp_in 5 6 from by unfold vp_in; decide) ff_73_5 dX6_takeTurn_19 ?_
    refine lv_iload_n C.1.1 C.1.2.1 dX6_takeTurn_20 rfl (lv_at hl 1 rfl) ?_
    refine lv_dup2_11 C.1.1 C.1.2.1 dX6_takeTurn_21 rfl rfl ?_
    obtain ⟨q5, hD⟩ := g_ck hD
    refine mr_iald C hw (by decide) tf_79 q5 dX6_takeTurn_22 ?_
    refine lv_aload_n C.1.1 C.1.2.1 dX6_takeTurn_23 rfl (lv_at hl 0 rfl) ?_
    refine mr_getR C hw kc_6 1 (by decide) tf_61 ff_61_1 wd_231 dX6_takeTurn_24 (by decide) rfl ?_
    refine lv_iconst (v := 1) C.1.1 C.1.2.1 dX6_takeTurn_27 (by decide) ?_
    refine mr_aald C hw (by decide) tf_73 (by decide) (by decide) rfl rfl (show vp_in 1 6 from by unfold vp_in; decide) ff_73_1 dX6_takeTurn_28 ?_
    refine lv_iload_n C.1.1 C.1.2.1 dX6_takeTurn_29 rfl (lv_at hl 1 rfl) ?_
    obtain ⟨q7, hD⟩ := g_ck hD
    refine mr_iald C hw (by decide) tf_75 q7 dX6_takeTurn_30 ?_
    refine lv_iadd C.1.1 C.1.2.1 dX6_takeTurn_31 ?_
    obtain ⟨q8, hD⟩ := g_ck hD
    obtain ⟨M9, eM9, hD⟩ := g_let hD
    refine mr_iast C hw (by decide) tf_79 q8 dX6_takeTurn_32 (fun H locs hw => ?_)
    replace hw : mw_W G ad NF TF FF M9 L H locs := by rw [eM9]; exact hw
    refine lv_iconst (v := 1) C.1.1 C.1.2.1 dX6_takeTurn_33 (by decide) ?_
    exact mr_iret C hr hlocks hw (by decide +kernel) (Option.some.inj hD) dX6_takeTurn_34
  · replace hD := g_neg c3 hD
    refine lv_iconst (v := 0) C.1.1 C.1.2.1 dX6_takeTurn_12 (by decide) ?_
    exact mr_iret C hr hlocks hw (by decide +kernel) (Option.some.inj hD) dX6_takeTurn_13

theorem dX6_placeOf_0 : decode cX6_placeOf 0 = .ok (.aload_n 0, 1) := by decide +kernel
theorem dX6_placeOf_1 : decode cX6_placeOf 1 = .ok (.getfield 11, 3) := by decide +kernel
theorem dX6_placeOf_4 : decode cX6_placeOf 4 = .ok (.bipush 9, 2) := by decide +kernel
theorem dX6_placeOf_6 : decode cX6_placeOf 6 = .ok (.aaload, 1) := by decide +kernel
theorem dX6_placeOf_7 : decode cX6_placeOf 7 = .ok (.iload_n 1, 1) := by decide +kernel
theorem dX6_placeOf_8 : decode cX6_placeOf 8 = .ok (.iaload, 1) := by decide +kernel
theorem dX6_placeOf_9 : decode cX6_placeOf 9 = .ok (.aload_n 0, 1) := by decide +kernel
theorem dX6_placeOf_10 : decode cX6_placeOf 10 = .ok (.getfield 11, 3) := by decide +kernel
theorem dX6_placeOf_13 : decode cX6_placeOf 13 = .ok (.iconst 4, 1) := by decide +kernel
theorem dX6_placeOf_14 : decode cX6_placeOf 14 = .ok (.aaload, 1) := by decide +kernel
theorem dX6_placeOf_15 : decode cX6_placeOf 15 = .ok (.iload_n 1, 1) := by decide +kernel
theorem dX6_placeOf_16 : decode cX6_placeOf 16 = .ok (.iaload, 1) := by decide +kernel
theorem dX6_placeOf_17 : decode cX6_placeOf 17 = .ok (.iconst 1, 1) := by decide +kernel
theorem dX6_placeOf_18 : decode cX6_placeOf 18 = .ok (.if_icmp .ne 15, 3) := by decide +kernel
theorem dX6_placeOf_21 : decode cX6_placeOf 21 = .ok (.aload_n 0, 1) := by decide +kernel
theorem dX6_placeOf_22 : decode cX6_placeOf 22 = .ok (.iload_n 1, 1) := by decide +kernel
theorem dX6_placeOf_23 : decode cX6_placeOf 23 = .ok (.invokevirtual 62, 3) := by decide +kernel
theorem dX6_placeOf_26 : decode cX6_placeOf 26 = .ok (.iconst 1, 1) := by decide +kernel
theorem dX6_placeOf_27 : decode cX6_placeOf 27 = .ok (.isub, 1) := by decide +kernel
theorem dX6_placeOf_28 : decode cX6_placeOf 28 = .ok (.iload_n 2, 1) := by decide +kernel
theorem dX6_placeOf_29 : decode cX6_placeOf 29 = .ok (.isub, 1) := by decide +kernel
theorem dX6_placeOf_30 : decode cX6_placeOf 30 = .ok (.goto 4, 3) := by decide +kernel
theorem dX6_placeOf_33 : decode cX6_placeOf 33 = .ok (.iload_n 2, 1) := by decide +kernel
theorem dX6_placeOf_34 : decode cX6_placeOf 34 = .ok (.iadd, 1) := by decide +kernel
theorem dX6_placeOf_35 : decode cX6_placeOf 35 = .ok (.ireturn, 1) := by decide +kernel
theorem cwX6_placeOf : mw_cwV yX6_placeOf cX6_placeOf 3 ((some .int)) 2 := ⟨⟨wd_7, wd_1318, by decide +kernel⟩, wd_1317, sl_68⟩
set_option maxHeartbeats 4000000 in
set_option maxRecDepth 100000 in
theorem tX6_placeOf (l : Launch) (G : mwG) (ad : Nat → Nat) (fu : Nat) (a1 : Int32) (a2 : Int32) (M : mwM) (L : mwL) {r0 : Int32} {M0 : mwM} {L0 : mwL} (hD : DX6_placeOf fu a1 a2 M L = some (r0, M0, L0)) : Met l yX6_placeOf (Cond.code yX6_placeOf cX6_placeOf 3 ((some .int)) :: GT) ({ frames := 1, cells := 0, slots := 0, locals := 21 }) (mw_Pre G ad NF TF FF M L [.ref (ad 61), .int a1, .int a2]) (mw_Qi G ad NF TF FF (mw_eqI r0 M0 L0)) 0 0 (mw_fr G) := by
  refine mw_enter (by decide) (Nat.le_of_ble_eq_true rfl) ?_
  intro p e s m below meth c ls C hr hlocks hnm hw hl
  have hl : lv_has ls 3 [(0, .ref (ad 61)), (1, .int a1), (2, .int a2)] := hl
  have hb34 : ∀ (s0 : Int32) (s1 : Int32) (M : mwM) (L : mwL) (H : Heap) (locs : List Loc) (ls : Array Slot), fX6_placeOf_b34 fu a1 a2 s0 s1 M L = some (r0, M0, L0) → mw_W G ad NF TF FF M L H locs → lv_has ls 3 [] → W p l e ({ frames := 1, cells := 0, slots := 0, locals := 21 }) s m [.ref (ad 61), .int a1, .int a2].toArray below meth c H locs 0 0 (MQ below (mw_Qi G ad NF TF FF (mw_eqI r0 M0 L0)) [.ref (ad 61), .int a1, .int a2].toArray s 0 0 (mw_fr G)) (F0 m 34 ls [.int s1, .int s0]) := by
    intro s0 s1 M L H locs ls hD hw hl
    unfold fX6_placeOf_b34 at hD
    refine lv_iadd C.1.1 C.1.2.1 dX6_placeOf_34 ?_
    exact mr_iret C hr hlocks hw rfl (Option.some.inj hD) dX6_placeOf_35
  unfold DX6_placeOf at hD
  refine lv_aload_n C.1.1 C.1.2.1 dX6_placeOf_0 rfl (lv_at hl 0 rfl) ?_
  refine mr_getR C hw kc_6 0 (by decide) tf_61 ff_61_0 wd_228 dX6_placeOf_1 (by decide) rfl ?_
  refine lv_bipush (v := 9) C.1.1 C.1.2.1 dX6_placeOf_4 (by decide) ?_
  refine mr_aald C hw (by decide) tf_62 (by decide) (by decide) rfl rfl (show vp_in 9 10 from by unfold vp_in; decide) ff_62_9 dX6_placeOf_6 ?_
  refine lv_iload_n C.1.1 C.1.2.1 dX6_placeOf_7 rfl (lv_at hl 1 rfl) ?_
  obtain ⟨q2, hD⟩ := g_ck hD
  refine mr_iald C hw (by decide) tf_72 q2 dX6_placeOf_8 ?_
  refine lv_aload_n C.1.1 C.1.2.1 dX6_placeOf_9 rfl (lv_at hl 0 rfl) ?_
  refine mr_getR C hw kc_6 0 (by decide) tf_61 ff_61_0 wd_228 dX6_placeOf_10 (by decide) rfl ?_
  refine lv_iconst (v := 4) C.1.1 C.1.2.1 dX6_placeOf_13 (by decide) ?_
  refine mr_aald C hw (by decide) tf_62 (by decide) (by decide) rfl rfl (show vp_in 4 10 from by unfold vp_in; decide) ff_62_4 dX6_placeOf_14 ?_
  refine lv_iload_n C.1.1 C.1.2.1 dX6_placeOf_15 rfl (lv_at hl 1 rfl) ?_
  obtain ⟨q4, hD⟩ := g_ck hD
  refine mr_iald C hw (by decide) tf_67 q4 dX6_placeOf_16 ?_
  refine lv_iconst (v := 1) C.1.1 C.1.2.1 dX6_placeOf_17 (by decide) ?_
  refine lv_icmp_ne (tgt := 33) C.1.1 C.1.2.1 dX6_placeOf_18 (by decide) (fun c5 => ?_) (fun c5 => ?_)
  · replace hD := g_neg c5 hD
    refine lv_iload_n C.1.1 C.1.2.1 dX6_placeOf_33 rfl (lv_at hl 2 rfl) ?_
    exact hb34 (M 72 a1.toNatClampNeg) a2 M L _ _ ls hD hw (lv_sub hl [] rfl)
  · replace hD := g_pos c5 hD
    refine lv_aload_n C.1.1 C.1.2.1 dX6_placeOf_21 rfl (lv_at hl 0 rfl) ?_
    refine lv_iload_n C.1.1 C.1.2.1 dX6_placeOf_22 rfl (lv_at hl 1 rfl) ?_
    obtain ⟨r8, M6, L7, h1, hD⟩ := g_b3 hD
    refine md_cvI (As := [.int a1]) (rest := [.int (M 72 a1.toNatClampNeg)]) C hw (tX6_octetsOf l G ad fu a1 M L h1) kc_6 (by decide) tf_61 wd_1125 cwX6_octetsOf ⟨Nat.le_of_ble_eq_true rfl, Nat.le_of_ble_eq_true rfl⟩ rfl hl.1 (Nat.le_of_ble_eq_true rfl) dX6_placeOf_23 rfl rfl ⟨Nat.zero_le _, Nat.zero_le _⟩ rfl (fun H locs hw => ?_)
    refine lv_iconst (v := 1) C.1.1 C.1.2.1 dX6_placeOf_26 (by decide) ?_
    refine lv_isub C.1.1 C.1.2.1 dX6_placeOf_27 ?_
    refine lv_iload_n C.1.1 C.1.2.1 dX6_placeOf_28 rfl (lv_at hl 2 rfl) ?_
    refine lv_isub C.1.1 C.1.2.1 dX6_placeOf_29 ?_
    refine lv_goto (tgt := 34) C.1.1 C.1.2.1 dX6_placeOf_30 (by decide) ?_
    exact hb34 (M 72 a1.toNatClampNeg) ((r8 - 1) - a2) M6 L7 _ _ ls hD hw (lv_sub hl [] rfl)

theorem dX6_cutTo_0 : decode cX6_cutTo 0 = .ok (.iload_n 1, 1) := by decide +kernel
theorem dX6_cutTo_1 : decode cX6_cutTo 1 = .ok (.bipush 64, 2) := by decide +kernel
theorem dX6_cutTo_3 : decode cX6_cutTo 3 = .ok (.if_icmp .ge 13, 3) := by decide +kernel
theorem dX6_cutTo_6 : decode cX6_cutTo 6 = .ok (.lload_n 2, 1) := by decide +kernel
theorem dX6_cutTo_7 : decode cX6_cutTo 7 = .ok (.lconst 1, 1) := by decide +kernel
theorem dX6_cutTo_8 : decode cX6_cutTo 8 = .ok (.iload_n 1, 1) := by decide +kernel
theorem dX6_cutTo_9 : decode cX6_cutTo 9 = .ok (.lshl, 1) := by decide +kernel
theorem dX6_cutTo_10 : decode cX6_cutTo 10 = .ok (.lconst 1, 1) := by decide +kernel
theorem dX6_cutTo_11 : decode cX6_cutTo 11 = .ok (.lsub, 1) := by decide +kernel
theorem dX6_cutTo_12 : decode cX6_cutTo 12 = .ok (.land, 1) := by decide +kernel
theorem dX6_cutTo_13 : decode cX6_cutTo 13 = .ok (.goto 4, 3) := by decide +kernel
theorem dX6_cutTo_16 : decode cX6_cutTo 16 = .ok (.lload_n 2, 1) := by decide +kernel
theorem dX6_cutTo_17 : decode cX6_cutTo 17 = .ok (.lreturn, 1) := by decide +kernel
theorem cwX6_cutTo : mw_cwV yX6_cutTo cX6_cutTo 4 ((some .long)) 2 := ⟨⟨wd_7, wd_1314, by decide +kernel⟩, wd_1313, sl_67⟩
set_option maxHeartbeats 4000000 in
set_option maxRecDepth 100000 in
theorem tX6_cutTo (l : Launch) (G : mwG) (ad : Nat → Nat) (fu : Nat) (a1 : Int32) (a2 : Int64) (M : mwM) (L : mwL) {r0 : Int64} {M0 : mwM} {L0 : mwL} (hD : DX6_cutTo fu a1 a2 M L = some (r0, M0, L0)) : Met l yX6_cutTo (Cond.code yX6_cutTo cX6_cutTo 4 ((some .long)) :: GT) ({ frames := 0, cells := 0, slots := 0, locals := 0 }) (mw_Pre G ad NF TF FF M L [.ref (ad 61), .int a1, .long a2]) (mw_Ql G ad NF TF FF (mw_eqL r0 M0 L0)) 0 0 (mw_fr G) := by
  refine mw_enter (by decide) (Nat.le_of_ble_eq_true rfl) ?_
  intro p e s m below meth c ls C hr hlocks hnm hw hl
  have hl : lv_has ls 4 [(0, .ref (ad 61)), (1, .int a1), (2, .long a2)] := hl
  have hb17 : ∀ (s0 : Int64) (M : mwM) (L : mwL) (H : Heap) (locs : List Loc) (ls : Array Slot), fX6_cutTo_b17 fu a1 a2 s0 M L = some (r0, M0, L0) → mw_W G ad NF TF FF M L H locs → lv_has ls 4 [] → W p l e ({ frames := 0, cells := 0, slots := 0, locals := 0 }) s m [.ref (ad 61), .int a1, .long a2].toArray below meth c H locs 0 0 (MQ below (mw_Ql G ad NF TF FF (mw_eqL r0 M0 L0)) [.ref (ad 61), .int a1, .long a2].toArray s 0 0 (mw_fr G)) (F0 m 17 ls [.long s0]) := by
    intro s0 M L H locs ls hD hw hl
    unfold fX6_cutTo_b17 at hD
    exact mr_lret C hr hlocks hw (Option.some.inj hD) dX6_cutTo_17
  unfold DX6_cutTo at hD
  refine lv_iload_n C.1.1 C.1.2.1 dX6_cutTo_0 rfl (lv_at hl 1 rfl) ?_
  refine lv_bipush (v := 64) C.1.1 C.1.2.1 dX6_cutTo_1 (by decide) ?_
  refine lv_icmp_ge (tgt := 16) C.1.1 C.1.2.1 dX6_cutTo_3 (by decide) (fun c1 => ?_) (fun c1 => ?_)
  · replace hD := g_pos c1 hD
    refine lv_lload_n C.1.1 C.1.2.1 dX6_cutTo_16 rfl (lv_at hl 2 rfl) ?_
    exact hb17 a2 M L _ _ ls hD hw (lv_sub hl [] rfl)
  · replace hD := g_neg c1 hD
    refine lv_lload_n C.1.1 C.1.2.1 dX6_cutTo_6 rfl (lv_at hl 2 rfl) ?_
    refine lv_lconst (v := 1) C.1.1 C.1.2.1 dX6_cutTo_7 (by decide) ?_
    refine lv_iload_n C.1.1 C.1.2.1 dX6_cutTo_8 rfl (lv_at hl 1 rfl) ?_
    refine lv_lshl C.1.1 C.1.2.1 dX6_cutTo_9 rfl ?_
    refine lv_lconst (v := 1) C.1.1 C.1.2.1 dX6_cutTo_10 (by decide) ?_
    refine lv_lsub C.1.1 C.1.2.1 dX6_cutTo_11 ?_
    refine lv_land C.1.1 C.1.2.1 dX6_cutTo_12 ?_
    refine lv_goto (tgt := 17) C.1.1 C.1.2.1 dX6_cutTo_13 (by decide) ?_
    exact hb17 (a2 &&& ((1 <<< (a1.toInt64 &&& 63)) - 1)) M L _ _ ls hD hw (lv_sub hl [] rfl)

theorem dX6_fill_0 : decode cX6_fill 0 = .ok (.aload_n 0, 1) := by decide +kernel
theorem dX6_fill_1 : decode cX6_fill 1 = .ok (.getfield 16, 3) := by decide +kernel
theorem dX6_fill_4 : decode cX6_fill 4 = .ok (.iconst 3, 1) := by decide +kernel
theorem dX6_fill_5 : decode cX6_fill 5 = .ok (.aaload, 1) := by decide +kernel
theorem dX6_fill_6 : decode cX6_fill 6 = .ok (.iload_n 1, 1) := by decide +kernel
theorem dX6_fill_7 : decode cX6_fill 7 = .ok (.dup2, 1) := by decide +kernel
theorem dX6_fill_8 : decode cX6_fill 8 = .ok (.iaload, 1) := by decide +kernel
theorem dX6_fill_9 : decode cX6_fill 9 = .ok (.iconst 1, 1) := by decide +kernel
theorem dX6_fill_10 : decode cX6_fill 10 = .ok (.iadd, 1) := by decide +kernel
theorem dX6_fill_11 : decode cX6_fill 11 = .ok (.iastore, 1) := by decide +kernel
theorem dX6_fill_12 : decode cX6_fill 12 = .ok (.iconst 0, 1) := by decide +kernel
theorem dX6_fill_13 : decode cX6_fill 13 = .ok (.istore_n 3, 1) := by decide +kernel
theorem dX6_fill_14 : decode cX6_fill 14 = .ok (.iload_n 3, 1) := by decide +kernel
theorem dX6_fill_15 : decode cX6_fill 15 = .ok (.aload_n 0, 1) := by decide +kernel
theorem dX6_fill_16 : decode cX6_fill 16 = .ok (.getfield 38, 3) := by decide +kernel
theorem dX6_fill_19 : decode cX6_fill 19 = .ok (.arraylength, 1) := by decide +kernel
theorem dX6_fill_20 : decode cX6_fill 20 = .ok (.if_icmp .ge 16, 3) := by decide +kernel
theorem dX6_fill_23 : decode cX6_fill 23 = .ok (.aload_n 0, 1) := by decide +kernel
theorem dX6_fill_24 : decode cX6_fill 24 = .ok (.getfield 38, 3) := by decide +kernel
theorem dX6_fill_27 : decode cX6_fill 27 = .ok (.iload_n 3, 1) := by decide +kernel
theorem dX6_fill_28 : decode cX6_fill 28 = .ok (.iconst 0, 1) := by decide +kernel
theorem dX6_fill_29 : decode cX6_fill 29 = .ok (.iastore, 1) := by decide +kernel
theorem dX6_fill_30 : decode cX6_fill 30 = .ok (.iinc 3 1, 3) := by decide +kernel
theorem dX6_fill_33 : decode cX6_fill 33 = .ok (.goto (-19), 3) := by decide +kernel
theorem dX6_fill_36 : decode cX6_fill 36 = .ok (.iconst 0, 1) := by decide +kernel
theorem dX6_fill_37 : decode cX6_fill 37 = .ok (.istore_n 3, 1) := by decide +kernel
theorem dX6_fill_38 : decode cX6_fill 38 = .ok (.iload_n 3, 1) := by decide +kernel
theorem dX6_fill_39 : decode cX6_fill 39 = .ok (.aload_n 0, 1) := by decide +kernel
theorem dX6_fill_40 : decode cX6_fill 40 = .ok (.getfield 44, 3) := by decide +kernel
theorem dX6_fill_43 : decode cX6_fill 43 = .ok (.if_icmp .ge 102, 3) := by decide +kernel
theorem dX6_fill_46 : decode cX6_fill 46 = .ok (.aload_n 0, 1) := by decide +kernel
theorem dX6_fill_47 : decode cX6_fill 47 = .ok (.getfield 11, 3) := by decide +kernel
theorem dX6_fill_50 : decode cX6_fill 50 = .ok (.bipush 8, 2) := by decide +kernel
theorem dX6_fill_52 : decode cX6_fill 52 = .ok (.aaload, 1) := by decide +kernel
theorem dX6_fill_53 : decode cX6_fill 53 = .ok (.iload_n 3, 1) := by decide +kernel
theorem dX6_fill_54 : decode cX6_fill 54 = .ok (.iaload, 1) := by decide +kernel
theorem dX6_fill_55 : decode cX6_fill 55 = .ok (.iload_n 1, 1) := by decide +kernel
theorem dX6_fill_56 : decode cX6_fill 56 = .ok (.if_icmp .ne 83, 3) := by decide +kernel
theorem dX6_fill_59 : decode cX6_fill 59 = .ok (.aload_n 0, 1) := by decide +kernel
theorem dX6_fill_60 : decode cX6_fill 60 = .ok (.aload_n 0, 1) := by decide +kernel
theorem dX6_fill_61 : decode cX6_fill 61 = .ok (.getfield 11, 3) := by decide +kernel
theorem dX6_fill_64 : decode cX6_fill 64 = .ok (.iconst 0, 1) := by decide +kernel
theorem dX6_fill_65 : decode cX6_fill 65 = .ok (.aaload, 1) := by decide +kernel
theorem dX6_fill_66 : decode cX6_fill 66 = .ok (.iload_n 3, 1) := by decide +kernel
theorem dX6_fill_67 : decode cX6_fill 67 = .ok (.iaload, 1) := by decide +kernel
theorem dX6_fill_68 : decode cX6_fill 68 = .ok (.aload_n 2, 1) := by decide +kernel
theorem dX6_fill_69 : decode cX6_fill 69 = .ok (.aload_n 0, 1) := by decide +kernel
theorem dX6_fill_70 : decode cX6_fill 70 = .ok (.getfield 11, 3) := by decide +kernel
theorem dX6_fill_73 : decode cX6_fill 73 = .ok (.iconst 1, 1) := by decide +kernel
theorem dX6_fill_74 : decode cX6_fill 74 = .ok (.aaload, 1) := by decide +kernel
theorem dX6_fill_75 : decode cX6_fill 75 = .ok (.iload_n 3, 1) := by decide +kernel
theorem dX6_fill_76 : decode cX6_fill 76 = .ok (.iaload, 1) := by decide +kernel
theorem dX6_fill_77 : decode cX6_fill 77 = .ok (.aaload, 1) := by decide +kernel
theorem dX6_fill_78 : decode cX6_fill 78 = .ok (.getfield 122, 3) := by decide +kernel
theorem dX6_fill_81 : decode cX6_fill 81 = .ok (.aload_n 0, 1) := by decide +kernel
theorem dX6_fill_82 : decode cX6_fill 82 = .ok (.getfield 11, 3) := by decide +kernel
theorem dX6_fill_85 : decode cX6_fill 85 = .ok (.iconst 2, 1) := by decide +kernel
theorem dX6_fill_86 : decode cX6_fill 86 = .ok (.aaload, 1) := by decide +kernel
theorem dX6_fill_87 : decode cX6_fill 87 = .ok (.iload_n 3, 1) := by decide +kernel
theorem dX6_fill_88 : decode cX6_fill 88 = .ok (.iaload, 1) := by decide +kernel
theorem dX6_fill_89 : decode cX6_fill 89 = .ok (.laload, 1) := by decide +kernel
theorem dX6_fill_90 : decode cX6_fill 90 = .ok (.invokevirtual 128, 3) := by decide +kernel
theorem dX6_fill_93 : decode cX6_fill 93 = .ok (.lstore 4, 2) := by decide +kernel
theorem dX6_fill_95 : decode cX6_fill 95 = .ok (.iconst 0, 1) := by decide +kernel
theorem dX6_fill_96 : decode cX6_fill 96 = .ok (.istore 6, 2) := by decide +kernel
theorem dX6_fill_98 : decode cX6_fill 98 = .ok (.iload 6, 2) := by decide +kernel
theorem dX6_fill_100 : decode cX6_fill 100 = .ok (.aload_n 0, 1) := by decide +kernel
theorem dX6_fill_101 : decode cX6_fill 101 = .ok (.iload_n 3, 1) := by decide +kernel
theorem dX6_fill_102 : decode cX6_fill 102 = .ok (.invokevirtual 62, 3) := by decide +kernel
theorem dX6_fill_105 : decode cX6_fill 105 = .ok (.if_icmp .ge 34, 3) := by decide +kernel
theorem dX6_fill_108 : decode cX6_fill 108 = .ok (.aload_n 0, 1) := by decide +kernel
theorem dX6_fill_109 : decode cX6_fill 109 = .ok (.getfield 38, 3) := by decide +kernel
theorem dX6_fill_112 : decode cX6_fill 112 = .ok (.aload_n 0, 1) := by decide +kernel
theorem dX6_fill_113 : decode cX6_fill 113 = .ok (.iload_n 3, 1) := by decide +kernel
theorem dX6_fill_114 : decode cX6_fill 114 = .ok (.iload 6, 2) := by decide +kernel
theorem dX6_fill_116 : decode cX6_fill 116 = .ok (.invokevirtual 132, 3) := by decide +kernel
theorem dX6_fill_119 : decode cX6_fill 119 = .ok (.lload 4, 2) := by decide +kernel
theorem dX6_fill_121 : decode cX6_fill 121 = .ok (.bipush 8, 2) := by decide +kernel
theorem dX6_fill_123 : decode cX6_fill 123 = .ok (.iload 6, 2) := by decide +kernel
theorem dX6_fill_125 : decode cX6_fill 125 = .ok (.imul, 1) := by decide +kernel
theorem dX6_fill_126 : decode cX6_fill 126 = .ok (.lushr, 1) := by decide +kernel
theorem dX6_fill_127 : decode cX6_fill 127 = .ok (.l2i, 1) := by decide +kernel
theorem dX6_fill_128 : decode cX6_fill 128 = .ok (.sipush 255, 3) := by decide +kernel
theorem dX6_fill_131 : decode cX6_fill 131 = .ok (.iand, 1) := by decide +kernel
theorem dX6_fill_132 : decode cX6_fill 132 = .ok (.iastore, 1) := by decide +kernel
theorem dX6_fill_133 : decode cX6_fill 133 = .ok (.iinc 6 1, 3) := by decide +kernel
theorem dX6_fill_136 : decode cX6_fill 136 = .ok (.goto (-38), 3) := by decide +kernel
theorem dX6_fill_139 : decode cX6_fill 139 = .ok (.iinc 3 1, 3) := by decide +kernel
theorem dX6_fill_142 : decode cX6_fill 142 = .ok (.goto (-104), 3) := by decide +kernel
theorem dX6_fill_145 : decode cX6_fill 145 = .ok (.return_, 1) := by decide +kernel
theorem cwX6_fill : mw_cwV yX6_fill cX6_fill 7 (none) 2 := ⟨⟨wd_7, wd_1310, by decide +kernel⟩, wd_1308, wd_1309⟩
set_option maxHeartbeats 4000000 in
set_option maxRecDepth 100000 in
theorem tX6_fill (l : Launch) (G : mwG) (ad : Nat → Nat) (fu : Nat) (a1 : Int32) (M : mwM) (L : mwL) {M0 : mwM} {L0 : mwL} (hD : DX6_fill fu a1 M L = some (M0, L0)) : Met l yX6_fill (Cond.code yX6_fill cX6_fill 7 (none) :: GT) ({ frames := 2, cells := 0, slots := 0, locals := 43 }) (mw_Pre G ad NF TF FF M L [.ref (ad 61), .int a1, .ref (ad 4)]) (mw_Qv G ad NF TF FF (mw_eqV M0 L0)) 0 0 (mw_fr G) := by
  refine mw_enter (by decide) (Nat.le_of_ble_eq_true rfl) ?_
  intro p e s m below meth c ls C hr hlocks hnm hw hl
  have hl : lv_has ls 7 [(0, .ref (ad 61)), (1, .int a1), (2, .ref (ad 4))] := hl
  have hh38 : ∀ (f : Nat) (v3 : Int32) (M : mwM) (L : mwL) (H : Heap) (locs : List Loc) (ls : Array Slot), fX6_fill_h38 fu a1 f (v3, M, L) = some (M0, L0) → mw_W G ad NF TF FF M L H locs → lv_has ls 7 [(0, .ref (ad 61)), (1, .int a1), (2, .ref (ad 4)), (3, .int v3)] → W p l e ({ frames := 2, cells := 0, slots := 0, locals := 43 }) s m [.ref (ad 61), .int a1, .ref (ad 4)].toArray below meth c H locs 0 0 (MQ below (mw_Qv G ad NF TF FF (mw_eqV M0 L0)) [.ref (ad 61), .int a1, .ref (ad 4)].toArray s 0 0 (mw_fr G)) (F0 m 38 ls []) := by
    intro f
    induction f with
    | zero => intro v3 M L H locs ls hD; cases hD
    | succ f38 ih38 =>
      intro v3 M L H locs ls hD hw hl
      replace hD : fX6_fill_i38 fu a1 (fX6_fill_h38 fu a1 f38) v3 M L = some (M0, L0) := hD
      have hb139 : ∀ (v3 : Int32) (M : mwM) (L : mwL) (H : Heap) (locs : List Loc) (ls : Array Slot), fX6_fill_b139 fu a1 (fX6_fill_h38 fu a1 f38) v3 M L = some (M0, L0) → mw_W G ad NF TF FF M L H locs → lv_has ls 7 [(0, .ref (ad 61)), (1, .int a1), (2, .ref (ad 4)), (3, .int v3)] → W p l e ({ frames := 2, cells := 0, slots := 0, locals := 43 }) s m [.ref (ad 61), .int a1, .ref (ad 4)].toArray below meth c H locs 0 0 (MQ below (mw_Qv G ad NF TF FF (mw_eqV M0 L0)) [.ref (ad 61), .int a1, .ref (ad 4)].toArray s 0 0 (mw_fr G)) (F0 m 139 ls []) := by
        intro v3 M L H locs ls hD hw hl
        unfold fX6_fill_b139 at hD
        obtain ⟨x30, ex30, hD⟩ := g_let hD
        refine lv_iinc (v := x30) (lv' := [(3, .int x30), (0, .ref (ad 61)), (1, .int a1), (2, .ref (ad 4))]) C.1.1 C.1.2.1 dX6_fill_139 hl (k := 3) rfl (by rw [ex30]; rfl) (by decide) rfl (fun ls hl => ?_)
        refine lv_goto (tgt := 38) C.1.1 C.1.2.1 dX6_fill_142 (by decide) ?_
        exact ih38 x30 M L _ _ ls hD hw (lv_sub hl [1, 2, 3, 0] rfl)
      have hh98 : ∀ (f : Nat) (v3 : Int32) (v4 : Int64) (v6 : Int32) (M : mwM) (L : mwL) (H : Heap) (locs : List Loc) (ls : Array Slot), fX6_fill_h98 fu a1 (fX6_fill_h38 fu a1 f38) f (v3, v4, v6, M, L) = some (M0, L0) → mw_W G ad NF TF FF M L H locs → lv_has ls 7 [(0, .ref (ad 61)), (1, .int a1), (2, .ref (ad 4)), (3, .int v3), (4, .long v4), (6, .int v6)] → W p l e ({ frames := 2, cells := 0, slots := 0, locals := 43 }) s m [.ref (ad 61), .int a1, .ref (ad 4)].toArray below meth c H locs 0 0 (MQ below (mw_Qv G ad NF TF FF (mw_eqV M0 L0)) [.ref (ad 61), .int a1, .ref (ad 4)].toArray s 0 0 (mw_fr G)) (F0 m 98 ls []) := by
        intro f
        induction f with
        | zero => intro v3 v4 v6 M L H locs ls hD; cases hD
        | succ f98 ih98 =>
          intro v3 v4 v6 M L H locs ls hD hw hl
          replace hD : fX6_fill_i98 fu a1 (fX6_fill_h38 fu a1 f38) (fX6_fill_h98 fu a1 (fX6_fill_h38 fu a1 f38) f98) v3 v4 v6 M L = some (M0, L0) := hD
          unfold fX6_fill_i98 at hD
          refine lv_iload C.1.1 C.1.2.1 dX6_fill_98 (lv_at hl 5 rfl) ?_
          refine lv_aload_n C.1.1 C.1.2.1 dX6_fill_100 rfl (lv_at hl 0 rfl) ?_
          refine lv_iload_n C.1.1 C.1.2.1 dX6_fill_101 rfl (lv_at hl 3 rfl) ?_
          obtain ⟨r22, M20, L21, h1, hD⟩ := g_b3 hD
          refine md_cvI (As := [.int v3]) (rest := [.int v6]) C hw (tX6_octetsOf l G ad fu v3 M L h1) kc_6 (by decide) tf_61 wd_1125 cwX6_octetsOf ⟨Nat.le_of_ble_eq_true rfl, Nat.le_of_ble_eq_true rfl⟩ rfl hl.1 (Nat.le_of_ble_eq_true rfl) dX6_fill_102 rfl rfl ⟨Nat.zero_le _, Nat.zero_le _⟩ rfl (fun H locs hw => ?_)
          refine lv_icmp_ge (tgt := 139) C.1.1 C.1.2.1 dX6_fill_105 (by decide) (fun c23 => ?_) (fun c23 => ?_)
          · replace hD := g_pos c23 hD
            exact hb139 v3 M20 L21 _ _ ls hD hw (lv_sub hl [0, 1, 2, 3] rfl)
          · replace hD := g_neg c23 hD
            refine lv_aload_n C.1.1 C.1.2.1 dX6_fill_108 rfl (lv_at hl 0 rfl) ?_
            refine mr_getR C hw kc_6 8 (by decide) tf_61 ff_61_8 wd_240 dX6_fill_109 (by decide) rfl ?_
            refine lv_aload_n C.1.1 C.1.2.1 dX6_fill_112 rfl (lv_at hl 0 rfl) ?_
            refine lv_iload_n C.1.1 C.1.2.1 dX6_fill_113 rfl (lv_at hl 3 rfl) ?_
            refine lv_iload C.1.1 C.1.2.1 dX6_fill_114 (lv_at hl 5 rfl) ?_
            obtain ⟨r26, M24, L25, h1, hD⟩ := g_b3 hD
            refine md_cvI (As := [.int v3, .int v6]) (rest := [.ref (ad 95)]) C hw (tX6_placeOf l G ad fu v3 v6 M20 L21 h1) kc_6 (by decide) tf_61 wd_1315 cwX6_placeOf ⟨Nat.le_of_ble_eq_true rfl, Nat.le_of_ble_eq_true rfl⟩ rfl hl.1 (Nat.le_of_ble_eq_true rfl) dX6_fill_116 rfl rfl ⟨Nat.zero_le _, Nat.zero_le _⟩ rfl (fun H locs hw => ?_)
            refine lv_lload C.1.1 C.1.2.1 dX6_fill_119 (lv_at hl 4 rfl) ?_
            refine lv_bipush (v := 8) C.1.1 C.1.2.1 dX6_fill_121 (by decide) ?_
            refine lv_iload C.1.1 C.1.2.1 dX6_fill_123 (lv_at hl 5 rfl) ?_
            refine lv_imul C.1.1 C.1.2.1 dX6_fill_125 ?_
            refine lv_lushr C.1.1 C.1.2.1 dX6_fill_126 rfl ?_
            refine lv_l2i C.1.1 C.1.2.1 dX6_fill_127 rfl ?_
            refine lv_sipush (v := 255) C.1.1 C.1.2.1 dX6_fill_128 (by decide) ?_
            refine lv_iand C.1.1 C.1.2.1 dX6_fill_131 ?_
            obtain ⟨q27, hD⟩ := g_ck hD
            obtain ⟨M28, eM28, hD⟩ := g_let hD
            refine mr_iast C hw (by decide) tf_95 q27 dX6_fill_132 (fun H locs hw => ?_)
            replace hw : mw_W G ad NF TF FF M28 L25 H locs := by rw [eM28]; exact hw
            obtain ⟨x29, ex29, hD⟩ := g_let hD
            refine lv_iinc (v := x29) (lv' := [(6, .int x29), (0, .ref (ad 61)), (1, .int a1), (2, .ref (ad 4)), (3, .int v3), (4, .long v4)]) C.1.1 C.1.2.1 dX6_fill_133 hl (k := 5) rfl (by rw [ex29]; rfl) (by decide) rfl (fun ls hl => ?_)
            refine lv_goto (tgt := 98) C.1.1 C.1.2.1 dX6_fill_136 (by decide) ?_
            exact ih98 v3 v4 x29 M28 L25 _ _ ls hD hw (lv_sub hl [1, 2, 3, 4, 5, 0] rfl)
      unfold fX6_fill_i38 at hD
      refine lv_iload_n C.1.1 C.1.2.1 dX6_fill_38 rfl (lv_at hl 3 rfl) ?_
      refine lv_aload_n C.1.1 C.1.2.1 dX6_fill_39 rfl (lv_at hl 0 rfl) ?_
      refine mr_getI C hw kc_6 10 (by decide) tf_61 wd_243 dX6_fill_40 (by decide) rfl ?_
      refine lv_icmp_ge (tgt := 145) C.1.1 C.1.2.1 dX6_fill_43 (by decide) (fun c5 => ?_) (fun c5 => ?_)
      · replace hD := g_pos c5 hD
        exact mr_vret C hr hlocks hw (Option.some.inj hD) dX6_fill_145
      · replace hD := g_neg c5 hD
        refine lv_aload_n C.1.1 C.1.2.1 dX6_fill_46 rfl (lv_at hl 0 rfl) ?_
        refine mr_getR C hw kc_6 0 (by decide) tf_61 ff_61_0 wd_228 dX6_fill_47 (by decide) rfl ?_
        refine lv_bipush (v := 8) C.1.1 C.1.2.1 dX6_fill_50 (by decide) ?_
        refine mr_aald C hw (by decide) tf_62 (by decide) (by decide) rfl rfl (show vp_in 8 10 from by unfold vp_in; decide) ff_62_8 dX6_fill_52 ?_
        refine lv_iload_n C.1.1 C.1.2.1 dX6_fill_53 rfl (lv_at hl 3 rfl) ?_
        obtain ⟨q7, hD⟩ := g_ck hD
        refine mr_iald C hw (by decide) tf_71 q7 dX6_fill_54 ?_
        refine lv_iload_n C.1.1 C.1.2.1 dX6_fill_55 rfl (lv_at hl 1 rfl) ?_
        refine lv_icmp_ne (tgt := 139) C.1.1 C.1.2.1 dX6_fill_56 (by decide) (fun c8 => ?_) (fun c8 => ?_)
        · replace hD := g_neg c8 hD
          exact hb139 v3 M L _ _ ls hD hw (lv_sub hl [0, 1, 2, 3] rfl)
        · replace hD := g_pos c8 hD
          refine lv_aload_n C.1.1 C.1.2.1 dX6_fill_59 rfl (lv_at hl 0 rfl) ?_
          refine lv_aload_n C.1.1 C.1.2.1 dX6_fill_60 rfl (lv_at hl 0 rfl) ?_
          refine mr_getR C hw kc_6 0 (by decide) tf_61 ff_61_0 wd_228 dX6_fill_61 (by decide) rfl ?_
          refine lv_iconst (v := 0) C.1.1 C.1.2.1 dX6_fill_64 (by decide) ?_
          refine mr_aald C hw (by decide) tf_62 (by decide) (by decide) rfl rfl (show vp_in 0 10 from by unfold vp_in; decide) ff_62_0 dX6_fill_65 ?_
          refine lv_iload_n C.1.1 C.1.2.1 dX6_fill_66 rfl (lv_at hl 3 rfl) ?_
          obtain ⟨q10, hD⟩ := g_ck hD
          refine mr_iald C hw (by decide) tf_63 q10 dX6_fill_67 ?_
          refine lv_aload_n C.1.1 C.1.2.1 dX6_fill_68 rfl (lv_at hl 2 rfl) ?_
          refine lv_aload_n C.1.1 C.1.2.1 dX6_fill_69 rfl (lv_at hl 0 rfl) ?_
          refine mr_getR C hw kc_6 0 (by decide) tf_61 ff_61_0 wd_228 dX6_fill_70 (by decide) rfl ?_
          refine lv_iconst (v := 1) C.1.1 C.1.2.1 dX6_fill_73 (by decide) ?_
          refine mr_aald C hw (by decide) tf_62 (by decide) (by decide) rfl rfl (show vp_in 1 10 from by unfold vp_in; decide) ff_62_1 dX6_fill_74 ?_
          refine lv_iload_n C.1.1 C.1.2.1 dX6_fill_75 rfl (lv_at hl 3 rfl) ?_
          obtain ⟨q12, hD⟩ := g_ck hD
          refine mr_iald C hw (by decide) tf_64 q12 dX6_fill_76 ?_
          obtain ⟨q13, hD⟩ := g_ck hD
          refine mr_aald C hw (by decide) tf_4 (by decide) (by decide) rfl rfl q13 (fr_4 _ (g_lt q13)) dX6_fill_77 ?_
          refine mr_getNR C hw kc_2 3 (Ch_N0 (isCh_of (g_lt q13))) (Ch_T0 (isCh_of (g_lt q13))) (Ch_F0_3 (isCh_of (g_lt q13))) nd_451 dX6_fill_78 (by decide) rfl ?_
          refine lv_aload_n C.1.1 C.1.2.1 dX6_fill_81 rfl (lv_at hl 0 rfl) ?_
          refine mr_getR C hw kc_6 0 (by decide) tf_61 ff_61_0 wd_228 dX6_fill_82 (by decide) rfl ?_
          refine lv_iconst (v := 2) C.1.1 C.1.2.1 dX6_fill_85 (by decide) ?_
          refine mr_aald C hw (by decide) tf_62 (by decide) (by decide) rfl rfl (show vp_in 2 10 from by unfold vp_in; decide) ff_62_2 dX6_fill_86 ?_
          refine lv_iload_n C.1.1 C.1.2.1 dX6_fill_87 rfl (lv_at hl 3 rfl) ?_
          obtain ⟨q15, hD⟩ := g_ck hD
          refine mr_iald C hw (by decide) tf_65 q15 dX6_fill_88 ?_
          obtain ⟨q16, hD⟩ := g_ck hD
          refine mr_lald C hw (Ch_N34 (isCh_of (g_lt q13))) (Ch_T34 (isCh_of (g_lt q13))) q16 dX6_fill_89 ?_
          obtain ⟨r19, M17, L18, h1, hD⟩ := g_b3 hD
          refine md_cvL (As := [.int (M 63 v3.toNatClampNeg), .long (L ((293 + 36 * (M 64 v3.toNatClampNeg).toNatClampNeg) + 34) (M 65 v3.toNatClampNeg).toNatClampNeg)]) (rest := []) C hw (tX6_cutTo l G ad fu (M 63 v3.toNatClampNeg) (L ((293 + 36 * (M 64 v3.toNatClampNeg).toNatClampNeg) + 34) (M 65 v3.toNatClampNeg).toNatClampNeg) M L h1) kc_6 (by decide) tf_61 wd_1311 cwX6_cutTo ⟨Nat.le_of_ble_eq_true rfl, Nat.le_of_ble_eq_true rfl⟩ rfl hl.1 (Nat.le_of_ble_eq_true rfl) dX6_fill_90 rfl rfl ⟨Nat.zero_le _, Nat.zero_le _⟩ rfl (fun H locs hw => ?_)
          refine lv_lstore (lv' := [(4, .long r19), (0, .ref (ad 61)), (1, .int a1), (2, .ref (ad 4)), (3, .int v3)]) C.1.1 C.1.2.1 dX6_fill_93 hl (by decide) rfl (fun ls hl => ?_)
          refine lv_iconst (v := 0) C.1.1 C.1.2.1 dX6_fill_95 (by decide) ?_
          refine lv_istore (lv' := [(6, .int 0), (4, .long r19), (0, .ref (ad 61)), (1, .int a1), (2, .ref (ad 4)), (3, .int v3)]) C.1.1 C.1.2.1 dX6_fill_96 hl (by decide) rfl (fun ls hl => ?_)
          exact hh98 fu v3 r19 0 M17 L18 _ _ ls hD hw (lv_sub hl [2, 3, 4, 5, 1, 0] rfl)
  have hh14 : ∀ (f : Nat) (v3 : Int32) (M : mwM) (L : mwL) (H : Heap) (locs : List Loc) (ls : Array Slot), fX6_fill_h14 fu a1 f (v3, M, L) = some (M0, L0) → mw_W G ad NF TF FF M L H locs → lv_has ls 7 [(0, .ref (ad 61)), (1, .int a1), (2, .ref (ad 4)), (3, .int v3)] → W p l e ({ frames := 2, cells := 0, slots := 0, locals := 43 }) s m [.ref (ad 61), .int a1, .ref (ad 4)].toArray below meth c H locs 0 0 (MQ below (mw_Qv G ad NF TF FF (mw_eqV M0 L0)) [.ref (ad 61), .int a1, .ref (ad 4)].toArray s 0 0 (mw_fr G)) (F0 m 14 ls []) := by
    intro f
    induction f with
    | zero => intro v3 M L H locs ls hD; cases hD
    | succ f14 ih14 =>
      intro v3 M L H locs ls hD hw hl
      replace hD : fX6_fill_i14 fu a1 (fX6_fill_h14 fu a1 f14) v3 M L = some (M0, L0) := hD
      unfold fX6_fill_i14 at hD
      refine lv_iload_n C.1.1 C.1.2.1 dX6_fill_14 rfl (lv_at hl 3 rfl) ?_
      refine lv_aload_n C.1.1 C.1.2.1 dX6_fill_15 rfl (lv_at hl 0 rfl) ?_
      refine mr_getR C hw kc_6 8 (by decide) tf_61 ff_61_8 wd_240 dX6_fill_16 (by decide) rfl ?_
      refine mr_alen (v := 8) C hw (by decide) tf_95 (by decide) rfl (by decide) dX6_fill_19 ?_
      refine lv_icmp_ge (tgt := 36) C.1.1 C.1.2.1 dX6_fill_20 (by decide) (fun c1 => ?_) (fun c1 => ?_)
      · replace hD := g_pos c1 hD
        refine lv_iconst (v := 0) C.1.1 C.1.2.1 dX6_fill_36 (by decide) ?_
        refine lv_istore_n (lv' := [(3, .int 0), (0, .ref (ad 61)), (1, .int a1), (2, .ref (ad 4))]) C.1.1 C.1.2.1 dX6_fill_37 rfl hl (by decide) rfl (fun ls hl => ?_)
        exact hh38 fu 0 M L _ _ ls hD hw (lv_sub hl [1, 2, 3, 0] rfl)
      · replace hD := g_neg c1 hD
        refine lv_aload_n C.1.1 C.1.2.1 dX6_fill_23 rfl (lv_at hl 0 rfl) ?_
        refine mr_getR C hw kc_6 8 (by decide) tf_61 ff_61_8 wd_240 dX6_fill_24 (by decide) rfl ?_
        refine lv_iload_n C.1.1 C.1.2.1 dX6_fill_27 rfl (lv_at hl 3 rfl) ?_
        refine lv_iconst (v := 0) C.1.1 C.1.2.1 dX6_fill_28 (by decide) ?_
        obtain ⟨q2, hD⟩ := g_ck hD
        obtain ⟨M3, eM3, hD⟩ := g_let hD
        refine mr_iast C hw (by decide) tf_95 q2 dX6_fill_29 (fun H locs hw => ?_)
        replace hw : mw_W G ad NF TF FF M3 L H locs := by rw [eM3]; exact hw
        obtain ⟨x4, ex4, hD⟩ := g_let hD
        refine lv_iinc (v := x4) (lv' := [(3, .int x4), (0, .ref (ad 61)), (1, .int a1), (2, .ref (ad 4))]) C.1.1 C.1.2.1 dX6_fill_30 hl (k := 3) rfl (by rw [ex4]; rfl) (by decide) rfl (fun ls hl => ?_)
        refine lv_goto (tgt := 14) C.1.1 C.1.2.1 dX6_fill_33 (by decide) ?_
        exact ih14 x4 M3 L _ _ ls hD hw (lv_sub hl [1, 2, 3, 0] rfl)
  unfold DX6_fill at hD
  refine lv_aload_n C.1.1 C.1.2.1 dX6_fill_0 rfl (lv_at hl 0 rfl) ?_
  refine mr_getR C hw kc_6 1 (by decide) tf_61 ff_61_1 wd_231 dX6_fill_1 (by decide) rfl ?_
  refine lv_iconst (v := 3) C.1.1 C.1.2.1 dX6_fill_4 (by decide) ?_
  refine mr_aald C hw (by decide) tf_73 (by decide) (by decide) rfl rfl (show vp_in 3 6 from by unfold vp_in; decide) ff_73_3 dX6_fill_5 ?_
  refine lv_iload_n C.1.1 C.1.2.1 dX6_fill_6 rfl (lv_at hl 1 rfl) ?_
  refine lv_dup2_11 C.1.1 C.1.2.1 dX6_fill_7 rfl rfl ?_
  obtain ⟨q32, hD⟩ := g_ck hD
  refine mr_iald C hw (by decide) tf_77 q32 dX6_fill_8 ?_
  refine lv_iconst (v := 1) C.1.1 C.1.2.1 dX6_fill_9 (by decide) ?_
  refine lv_iadd C.1.1 C.1.2.1 dX6_fill_10 ?_
  obtain ⟨q33, hD⟩ := g_ck hD
  obtain ⟨M34, eM34, hD⟩ := g_let hD
  refine mr_iast C hw (by decide) tf_77 q33 dX6_fill_11 (fun H locs hw => ?_)
  replace hw : mw_W G ad NF TF FF M34 L H locs := by rw [eM34]; exact hw
  refine lv_iconst (v := 0) C.1.1 C.1.2.1 dX6_fill_12 (by decide) ?_
  refine lv_istore_n (lv' := [(3, .int 0), (0, .ref (ad 61)), (1, .int a1), (2, .ref (ad 4))]) C.1.1 C.1.2.1 dX6_fill_13 rfl hl (by decide) rfl (fun ls hl => ?_)
  exact hh14 fu 0 M34 L _ _ ls hD hw (lv_sub hl [1, 2, 3, 0] rfl)

theorem dX6_valueIn_0 : decode cX6_valueIn 0 = .ok (.lconst 0, 1) := by decide +kernel
theorem dX6_valueIn_1 : decode cX6_valueIn 1 = .ok (.lstore_n 3, 1) := by decide +kernel
theorem dX6_valueIn_2 : decode cX6_valueIn 2 = .ok (.aload_n 0, 1) := by decide +kernel
theorem dX6_valueIn_3 : decode cX6_valueIn 3 = .ok (.iload_n 1, 1) := by decide +kernel
theorem dX6_valueIn_4 : decode cX6_valueIn 4 = .ok (.invokevirtual 62, 3) := by decide +kernel
theorem dX6_valueIn_7 : decode cX6_valueIn 7 = .ok (.iconst 1, 1) := by decide +kernel
theorem dX6_valueIn_8 : decode cX6_valueIn 8 = .ok (.isub, 1) := by decide +kernel
theorem dX6_valueIn_9 : decode cX6_valueIn 9 = .ok (.istore 5, 2) := by decide +kernel
theorem dX6_valueIn_11 : decode cX6_valueIn 11 = .ok (.iload 5, 2) := by decide +kernel
theorem dX6_valueIn_13 : decode cX6_valueIn 13 = .ok (.ifCond .lt 25, 3) := by decide +kernel
theorem dX6_valueIn_16 : decode cX6_valueIn 16 = .ok (.lload_n 3, 1) := by decide +kernel
theorem dX6_valueIn_17 : decode cX6_valueIn 17 = .ok (.bipush 8, 2) := by decide +kernel
theorem dX6_valueIn_19 : decode cX6_valueIn 19 = .ok (.lshl, 1) := by decide +kernel
theorem dX6_valueIn_20 : decode cX6_valueIn 20 = .ok (.aload_n 2, 1) := by decide +kernel
theorem dX6_valueIn_21 : decode cX6_valueIn 21 = .ok (.aload_n 0, 1) := by decide +kernel
theorem dX6_valueIn_22 : decode cX6_valueIn 22 = .ok (.iload_n 1, 1) := by decide +kernel
theorem dX6_valueIn_23 : decode cX6_valueIn 23 = .ok (.iload 5, 2) := by decide +kernel
theorem dX6_valueIn_25 : decode cX6_valueIn 25 = .ok (.invokevirtual 132, 3) := by decide +kernel
theorem dX6_valueIn_28 : decode cX6_valueIn 28 = .ok (.iaload, 1) := by decide +kernel
theorem dX6_valueIn_29 : decode cX6_valueIn 29 = .ok (.i2l, 1) := by decide +kernel
theorem dX6_valueIn_30 : decode cX6_valueIn 30 = .ok (.lor, 1) := by decide +kernel
theorem dX6_valueIn_31 : decode cX6_valueIn 31 = .ok (.lstore_n 3, 1) := by decide +kernel
theorem dX6_valueIn_32 : decode cX6_valueIn 32 = .ok (.iinc 5 (-1), 3) := by decide +kernel
theorem dX6_valueIn_35 : decode cX6_valueIn 35 = .ok (.goto (-24), 3) := by decide +kernel
theorem dX6_valueIn_38 : decode cX6_valueIn 38 = .ok (.aload_n 0, 1) := by decide +kernel
theorem dX6_valueIn_39 : decode cX6_valueIn 39 = .ok (.aload_n 0, 1) := by decide +kernel
theorem dX6_valueIn_40 : decode cX6_valueIn 40 = .ok (.getfield 11, 3) := by decide +kernel
theorem dX6_valueIn_43 : decode cX6_valueIn 43 = .ok (.iconst 0, 1) := by decide +kernel
theorem dX6_valueIn_44 : decode cX6_valueIn 44 = .ok (.aaload, 1) := by decide +kernel
theorem dX6_valueIn_45 : decode cX6_valueIn 45 = .ok (.iload_n 1, 1) := by decide +kernel
theorem dX6_valueIn_46 : decode cX6_valueIn 46 = .ok (.iaload, 1) := by decide +kernel
theorem dX6_valueIn_47 : decode cX6_valueIn 47 = .ok (.lload_n 3, 1) := by decide +kernel
theorem dX6_valueIn_48 : decode cX6_valueIn 48 = .ok (.invokevirtual 128, 3) := by decide +kernel
theorem dX6_valueIn_51 : decode cX6_valueIn 51 = .ok (.lreturn, 1) := by decide +kernel
theorem cwX6_valueIn : mw_cwV yX6_valueIn cX6_valueIn 6 ((some .long)) 2 := ⟨⟨wd_7, wd_1638, by decide +kernel⟩, wd_1636, wd_1637⟩
set_option maxHeartbeats 4000000 in
set_option maxRecDepth 100000 in
theorem tX6_valueIn (l : Launch) (G : mwG) (ad : Nat → Nat) (fu : Nat) (a1 : Int32) (a2 : Nat) (n2 : Nat) (M : mwM) (L : mwL) {r0 : Int64} {M0 : mwM} {L0 : mwL} (hD : DX6_valueIn fu a1 a2 n2 M L = some (r0, M0, L0)) (hk2 : a2 < NF) (hT2 : TF a2 = (0, n2)) : Met l yX6_valueIn (Cond.code yX6_valueIn cX6_valueIn 6 ((some .long)) :: GT) ({ frames := 2, cells := 0, slots := 0, locals := 43 }) (mw_Pre G ad NF TF FF M L [.ref (ad 61), .int a1, .ref (ad a2)]) (mw_Ql G ad NF TF FF (mw_eqL r0 M0 L0)) 0 0 (mw_fr G) := by
  refine mw_enter (by decide) (Nat.le_of_ble_eq_true rfl) ?_
  intro p e s m below meth c ls C hr hlocks hnm hw hl
  have hl : lv_has ls 6 [(0, .ref (ad 61)), (1, .int a1), (2, .ref (ad a2))] := hl
  have hh11 : ∀ (f : Nat) (v3 : Int64) (v5 : Int32) (M : mwM) (L : mwL) (H : Heap) (locs : List Loc) (ls : Array Slot), fX6_valueIn_h11 fu a1 a2 n2 f (v3, v5, M, L) = some (r0, M0, L0) → mw_W G ad NF TF FF M L H locs → lv_has ls 6 [(0, .ref (ad 61)), (1, .int a1), (2, .ref (ad a2)), (3, .long v3), (5, .int v5)] → W p l e ({ frames := 2, cells := 0, slots := 0, locals := 43 }) s m [.ref (ad 61), .int a1, .ref (ad a2)].toArray below meth c H locs 0 0 (MQ below (mw_Ql G ad NF TF FF (mw_eqL r0 M0 L0)) [.ref (ad 61), .int a1, .ref (ad a2)].toArray s 0 0 (mw_fr G)) (F0 m 11 ls []) := by
    intro f
    induction f with
    | zero => intro v3 v5 M L H locs ls hD; cases hD
    | succ f11 ih11 =>
      intro v3 v5 M L H locs ls hD hw hl
      replace hD : fX6_valueIn_i11 fu a1 a2 n2 (fX6_valueIn_h11 fu a1 a2 n2 f11) v3 v5 M L = some (r0, M0, L0) := hD
      unfold fX6_valueIn_i11 at hD
      refine lv_iload C.1.1 C.1.2.1 dX6_valueIn_11 (lv_at hl 4 rfl) ?_
      refine lv_if_lt (tgt := 38) C.1.1 C.1.2.1 dX6_valueIn_13 (by decide) (fun c1 => ?_) (fun c1 => ?_)
      · replace hD := g_pos c1 hD
        refine lv_aload_n C.1.1 C.1.2.1 dX6_valueIn_38 rfl (lv_at hl 0 rfl) ?_
        refine lv_aload_n C.1.1 C.1.2.1 dX6_valueIn_39 rfl (lv_at hl 0 rfl) ?_
        refine mr_getR C hw kc_6 0 (by decide) tf_61 ff_61_0 wd_228 dX6_valueIn_40 (by decide) rfl ?_
        refine lv_iconst (v := 0) C.1.1 C.1.2.1 dX6_valueIn_43 (by decide) ?_
        refine mr_aald C hw (by decide) tf_62 (by decide) (by decide) rfl rfl (show vp_in 0 10 from by unfold vp_in; decide) ff_62_0 dX6_valueIn_44 ?_
        refine lv_iload_n C.1.1 C.1.2.1 dX6_valueIn_45 rfl (lv_at hl 1 rfl) ?_
        obtain ⟨q3, hD⟩ := g_ck hD
        refine mr_iald C hw (by decide) tf_63 q3 dX6_valueIn_46 ?_
        refine lv_lload_n C.1.1 C.1.2.1 dX6_valueIn_47 rfl (lv_at hl 3 rfl) ?_
        obtain ⟨r6, M4, L5, h1, hD⟩ := g_b3 hD
        refine md_cvL (As := [.int (M 63 a1.toNatClampNeg), .long v3]) (rest := []) C hw (tX6_cutTo l G ad fu (M 63 a1.toNatClampNeg) v3 M L h1) kc_6 (by decide) tf_61 wd_1311 cwX6_cutTo ⟨Nat.le_of_ble_eq_true rfl, Nat.le_of_ble_eq_true rfl⟩ rfl hl.1 (Nat.le_of_ble_eq_true rfl) dX6_valueIn_48 rfl rfl ⟨Nat.zero_le _, Nat.zero_le _⟩ rfl (fun H locs hw => ?_)
        exact mr_lret C hr hlocks hw (Option.some.inj hD) dX6_valueIn_51
      · replace hD := g_neg c1 hD
        refine lv_lload_n C.1.1 C.1.2.1 dX6_valueIn_16 rfl (lv_at hl 3 rfl) ?_
        refine lv_bipush (v := 8) C.1.1 C.1.2.1 dX6_valueIn_17 (by decide) ?_
        refine lv_lshl C.1.1 C.1.2.1 dX6_valueIn_19 rfl ?_
        refine lv_aload_n C.1.1 C.1.2.1 dX6_valueIn_20 rfl (lv_at hl 2 rfl) ?_
        refine lv_aload_n C.1.1 C.1.2.1 dX6_valueIn_21 rfl (lv_at hl 0 rfl) ?_
        refine lv_iload_n C.1.1 C.1.2.1 dX6_valueIn_22 rfl (lv_at hl 1 rfl) ?_
        refine lv_iload C.1.1 C.1.2.1 dX6_valueIn_23 (lv_at hl 4 rfl) ?_
        obtain ⟨r9, M7, L8, h1, hD⟩ := g_b3 hD
        refine md_cvI (As := [.int a1, .int v5]) (rest := [.ref (ad a2), .long (v3 <<< ((8 : Int32).toInt64 &&& 63))]) C hw (tX6_placeOf l G ad fu a1 v5 M L h1) kc_6 (by decide) tf_61 wd_1315 cwX6_placeOf ⟨Nat.le_of_ble_eq_true rfl, Nat.le_of_ble_eq_true rfl⟩ rfl hl.1 (Nat.le_of_ble_eq_true rfl) dX6_valueIn_25 rfl rfl ⟨Nat.zero_le _, Nat.zero_le _⟩ rfl (fun H locs hw => ?_)
        obtain ⟨q10, hD⟩ := g_ck hD
        refine mr_iald C hw hk2 hT2 q10 dX6_valueIn_28 ?_
        refine lv_i2l C.1.1 C.1.2.1 dX6_valueIn_29 rfl ?_
        refine lv_lor C.1.1 C.1.2.1 dX6_valueIn_30 ?_
        obtain ⟨x11, ex11, hD⟩ := g_let hD
        refine W.eq (g2 := F0 m 31 ls (.long x11 :: [])) (by rw [ex11]) ?_
        refine lv_lstore_n (lv' := [(3, .long x11), (0, .ref (ad 61)), (1, .int a1), (2, .ref (ad a2)), (5, .int v5)]) C.1.1 C.1.2.1 dX6_valueIn_31 rfl hl (by decide) rfl (fun ls hl => ?_)
        obtain ⟨x12, ex12, hD⟩ := g_let hD
        refine lv_iinc (v := x12) (lv' := [(5, .int x12), (3, .long x11), (0, .ref (ad 61)), (1, .int a1), (2, .ref (ad a2))]) C.1.1 C.1.2.1 dX6_valueIn_32 hl (k := 4) rfl (by rw [ex12]; rfl) (by decide) rfl (fun ls hl => ?_)
        refine lv_goto (tgt := 11) C.1.1 C.1.2.1 dX6_valueIn_35 (by decide) ?_
        exact ih11 x11 x12 M7 L8 _ _ ls hD hw (lv_sub hl [2, 3, 4, 1, 0] rfl)
  unfold DX6_valueIn at hD
  refine lv_lconst (v := 0) C.1.1 C.1.2.1 dX6_valueIn_0 (by decide) ?_
  refine lv_lstore_n (lv' := [(3, .long 0), (0, .ref (ad 61)), (1, .int a1), (2, .ref (ad a2))]) C.1.1 C.1.2.1 dX6_valueIn_1 rfl hl (by decide) rfl (fun ls hl => ?_)
  refine lv_aload_n C.1.1 C.1.2.1 dX6_valueIn_2 rfl (lv_at hl 1 rfl) ?_
  refine lv_iload_n C.1.1 C.1.2.1 dX6_valueIn_3 rfl (lv_at hl 2 rfl) ?_
  obtain ⟨r15, M13, L14, h1, hD⟩ := g_b3 hD
  refine md_cvI (As := [.int a1]) (rest := []) C hw (tX6_octetsOf l G ad fu a1 M L h1) kc_6 (by decide) tf_61 wd_1125 cwX6_octetsOf ⟨Nat.le_of_ble_eq_true rfl, Nat.le_of_ble_eq_true rfl⟩ rfl hl.1 (Nat.le_of_ble_eq_true rfl) dX6_valueIn_4 rfl rfl ⟨Nat.zero_le _, Nat.zero_le _⟩ rfl (fun H locs hw => ?_)
  refine lv_iconst (v := 1) C.1.1 C.1.2.1 dX6_valueIn_7 (by decide) ?_
  refine lv_isub C.1.1 C.1.2.1 dX6_valueIn_8 ?_
  obtain ⟨x16, ex16, hD⟩ := g_let hD
  refine W.eq (g2 := F0 m 9 ls (.int x16 :: [])) (by rw [ex16]) ?_
  refine lv_istore (lv' := [(5, .int x16), (3, .long 0), (0, .ref (ad 61)), (1, .int a1), (2, .ref (ad a2))]) C.1.1 C.1.2.1 dX6_valueIn_9 hl (by decide) rfl (fun ls hl => ?_)
  exact hh11 fu 0 x16 M13 L14 _ _ ls hD hw (lv_sub hl [2, 3, 4, 1, 0] rfl)

theorem dX6_makeCode_0 : decode cX6_makeCode 0 = .ok (.aload_n 0, 1) := by decide +kernel
theorem dX6_makeCode_1 : decode cX6_makeCode 1 = .ok (.getfield 41, 3) := by decide +kernel
theorem dX6_makeCode_4 : decode cX6_makeCode 4 = .ok (.iconst 0, 1) := by decide +kernel
theorem dX6_makeCode_5 : decode cX6_makeCode 5 = .ok (.aload_n 0, 1) := by decide +kernel
theorem dX6_makeCode_6 : decode cX6_makeCode 6 = .ok (.getfield 16, 3) := by decide +kernel
theorem dX6_makeCode_9 : decode cX6_makeCode 9 = .ok (.iconst 4, 1) := by decide +kernel
theorem dX6_makeCode_10 : decode cX6_makeCode 10 = .ok (.aaload, 1) := by decide +kernel
theorem dX6_makeCode_11 : decode cX6_makeCode 11 = .ok (.iload_n 1, 1) := by decide +kernel
theorem dX6_makeCode_12 : decode cX6_makeCode 12 = .ok (.iaload, 1) := by decide +kernel
theorem dX6_makeCode_13 : decode cX6_makeCode 13 = .ok (.iastore, 1) := by decide +kernel
theorem dX6_makeCode_14 : decode cX6_makeCode 14 = .ok (.iconst 0, 1) := by decide +kernel
theorem dX6_makeCode_15 : decode cX6_makeCode 15 = .ok (.istore 5, 2) := by decide +kernel
theorem dX6_makeCode_17 : decode cX6_makeCode 17 = .ok (.iload 5, 2) := by decide +kernel
theorem dX6_makeCode_19 : decode cX6_makeCode 19 = .ok (.iconst 4, 1) := by decide +kernel
theorem dX6_makeCode_20 : decode cX6_makeCode 20 = .ok (.if_icmp .ge 42, 3) := by decide +kernel
theorem dX6_makeCode_23 : decode cX6_makeCode 23 = .ok (.aload_n 0, 1) := by decide +kernel
theorem dX6_makeCode_24 : decode cX6_makeCode 24 = .ok (.getfield 41, 3) := by decide +kernel
theorem dX6_makeCode_27 : decode cX6_makeCode 27 = .ok (.iconst 1, 1) := by decide +kernel
theorem dX6_makeCode_28 : decode cX6_makeCode 28 = .ok (.iload 5, 2) := by decide +kernel
theorem dX6_makeCode_30 : decode cX6_makeCode 30 = .ok (.iadd, 1) := by decide +kernel
theorem dX6_makeCode_31 : decode cX6_makeCode 31 = .ok (.iconst 0, 1) := by decide +kernel
theorem dX6_makeCode_32 : decode cX6_makeCode 32 = .ok (.iastore, 1) := by decide +kernel
theorem dX6_makeCode_33 : decode cX6_makeCode 33 = .ok (.aload_n 0, 1) := by decide +kernel
theorem dX6_makeCode_34 : decode cX6_makeCode 34 = .ok (.getfield 41, 3) := by decide +kernel
theorem dX6_makeCode_37 : decode cX6_makeCode 37 = .ok (.iconst 5, 1) := by decide +kernel
theorem dX6_makeCode_38 : decode cX6_makeCode 38 = .ok (.iload 5, 2) := by decide +kernel
theorem dX6_makeCode_40 : decode cX6_makeCode 40 = .ok (.iadd, 1) := by decide +kernel
theorem dX6_makeCode_41 : decode cX6_makeCode 41 = .ok (.iload_n 2, 1) := by decide +kernel
theorem dX6_makeCode_42 : decode cX6_makeCode 42 = .ok (.bipush 24, 2) := by decide +kernel
theorem dX6_makeCode_44 : decode cX6_makeCode 44 = .ok (.bipush 8, 2) := by decide +kernel
theorem dX6_makeCode_46 : decode cX6_makeCode 46 = .ok (.iload 5, 2) := by decide +kernel
theorem dX6_makeCode_48 : decode cX6_makeCode 48 = .ok (.imul, 1) := by decide +kernel
theorem dX6_makeCode_49 : decode cX6_makeCode 49 = .ok (.isub, 1) := by decide +kernel
theorem dX6_makeCode_50 : decode cX6_makeCode 50 = .ok (.iushr, 1) := by decide +kernel
theorem dX6_makeCode_51 : decode cX6_makeCode 51 = .ok (.sipush 255, 3) := by decide +kernel
theorem dX6_makeCode_54 : decode cX6_makeCode 54 = .ok (.iand, 1) := by decide +kernel
theorem dX6_makeCode_55 : decode cX6_makeCode 55 = .ok (.iastore, 1) := by decide +kernel
theorem dX6_makeCode_56 : decode cX6_makeCode 56 = .ok (.iinc 5 1, 3) := by decide +kernel
theorem dX6_makeCode_59 : decode cX6_makeCode 59 = .ok (.goto (-42), 3) := by decide +kernel
theorem dX6_makeCode_62 : decode cX6_makeCode 62 = .ok (.iconst 0, 1) := by decide +kernel
theorem dX6_makeCode_63 : decode cX6_makeCode 63 = .ok (.istore 5, 2) := by decide +kernel
theorem dX6_makeCode_65 : decode cX6_makeCode 65 = .ok (.iload 5, 2) := by decide +kernel
theorem dX6_makeCode_67 : decode cX6_makeCode 67 = .ok (.iconst 3, 1) := by decide +kernel
theorem dX6_makeCode_68 : decode cX6_makeCode 68 = .ok (.if_icmp .ge 23, 3) := by decide +kernel
theorem dX6_makeCode_71 : decode cX6_makeCode 71 = .ok (.aload_n 0, 1) := by decide +kernel
theorem dX6_makeCode_72 : decode cX6_makeCode 72 = .ok (.getfield 41, 3) := by decide +kernel
theorem dX6_makeCode_75 : decode cX6_makeCode 75 = .ok (.bipush 9, 2) := by decide +kernel
theorem dX6_makeCode_77 : decode cX6_makeCode 77 = .ok (.iload 5, 2) := by decide +kernel
theorem dX6_makeCode_79 : decode cX6_makeCode 79 = .ok (.iadd, 1) := by decide +kernel
theorem dX6_makeCode_80 : decode cX6_makeCode 80 = .ok (.aload_n 3, 1) := by decide +kernel
theorem dX6_makeCode_81 : decode cX6_makeCode 81 = .ok (.iload 5, 2) := by decide +kernel
theorem dX6_makeCode_83 : decode cX6_makeCode 83 = .ok (.iaload, 1) := by decide +kernel
theorem dX6_makeCode_84 : decode cX6_makeCode 84 = .ok (.iastore, 1) := by decide +kernel
theorem dX6_makeCode_85 : decode cX6_makeCode 85 = .ok (.iinc 5 1, 3) := by decide +kernel
theorem dX6_makeCode_88 : decode cX6_makeCode 88 = .ok (.goto (-23), 3) := by decide +kernel
theorem dX6_makeCode_91 : decode cX6_makeCode 91 = .ok (.aload 4, 2) := by decide +kernel
theorem dX6_makeCode_93 : decode cX6_makeCode 93 = .ok (.aload_n 0, 1) := by decide +kernel
theorem dX6_makeCode_94 : decode cX6_makeCode 94 = .ok (.getfield 16, 3) := by decide +kernel
theorem dX6_makeCode_97 : decode cX6_makeCode 97 = .ok (.iconst 2, 1) := by decide +kernel
theorem dX6_makeCode_98 : decode cX6_makeCode 98 = .ok (.aaload, 1) := by decide +kernel
theorem dX6_makeCode_99 : decode cX6_makeCode 99 = .ok (.iload_n 1, 1) := by decide +kernel
theorem dX6_makeCode_100 : decode cX6_makeCode 100 = .ok (.iaload, 1) := by decide +kernel
theorem dX6_makeCode_101 : decode cX6_makeCode 101 = .ok (.aload_n 0, 1) := by decide +kernel
theorem dX6_makeCode_102 : decode cX6_makeCode 102 = .ok (.getfield 41, 3) := by decide +kernel
theorem dX6_makeCode_105 : decode cX6_makeCode 105 = .ok (.aload_n 0, 1) := by decide +kernel
theorem dX6_makeCode_106 : decode cX6_makeCode 106 = .ok (.getfield 41, 3) := by decide +kernel
theorem dX6_makeCode_109 : decode cX6_makeCode 109 = .ok (.arraylength, 1) := by decide +kernel
theorem dX6_makeCode_110 : decode cX6_makeCode 110 = .ok (.invokevirtual 148, 3) := by decide +kernel
theorem dX6_makeCode_113 : decode cX6_makeCode 113 = .ok (.return_, 1) := by decide +kernel
theorem cwX6_makeCode : mw_cwV yX6_makeCode cX6_makeCode 6 (none) 4 := ⟨⟨wd_7, wd_1326, by decide +kernel⟩, wd_1325, sl_69⟩
set_option maxHeartbeats 4000000 in
set_option maxRecDepth 100000 in
theorem tX6_makeCode (l : Launch) (G : mwG) (ad : Nat → Nat) (fu : Nat) (a1 : Int32) (a2 : Int32) (a3 : Nat) (n3 : Nat) (M : mwM) (L : mwL) {M0 : mwM} {L0 : mwL} (hD : DX6_makeCode fu a1 a2 a3 n3 M L = some (M0, L0)) (hk3 : a3 < NF) (hT3 : TF a3 = (0, n3)) : Met l yX6_makeCode (Cond.code yX6_makeCode cX6_makeCode 6 (none) :: GT) ({ frames := 2, cells := 0, slots := 0, locals := 54 }) (mw_Pre G ad NF TF FF M L [.ref (ad 61), .int a1, .int a2, .ref (ad a3), .ref (ad 97)]) (mw_Qv G ad NF TF FF (mw_eqV M0 L0)) 0 0 (mw_fr G) := by
  refine mw_enter (by decide) (Nat.le_of_ble_eq_true rfl) ?_
  intro p e s m below meth c ls C hr hlocks hnm hw hl
  have hl : lv_has ls 6 [(0, .ref (ad 61)), (1, .int a1), (2, .int a2), (3, .ref (ad a3)), (4, .ref (ad 97))] := hl
  have hh65 : ∀ (f : Nat) (v5 : Int32) (M : mwM) (L : mwL) (H : Heap) (locs : List Loc) (ls : Array Slot), fX6_makeCode_h65 fu a1 a2 a3 n3 f (v5, M, L) = some (M0, L0) → mw_W G ad NF TF FF M L H locs → lv_has ls 6 [(0, .ref (ad 61)), (1, .int a1), (3, .ref (ad a3)), (4, .ref (ad 97)), (5, .int v5)] → W p l e ({ frames := 2, cells := 0, slots := 0, locals := 54 }) s m [.ref (ad 61), .int a1, .int a2, .ref (ad a3), .ref (ad 97)].toArray below meth c H locs 0 0 (MQ below (mw_Qv G ad NF TF FF (mw_eqV M0 L0)) [.ref (ad 61), .int a1, .int a2, .ref (ad a3), .ref (ad 97)].toArray s 0 0 (mw_fr G)) (F0 m 65 ls []) := by
    intro f
    induction f with
    | zero => intro v5 M L H locs ls hD; cases hD
    | succ f65 ih65 =>
      intro v5 M L H locs ls hD hw hl
      replace hD : fX6_makeCode_i65 fu a1 a2 a3 n3 (fX6_makeCode_h65 fu a1 a2 a3 n3 f65) v5 M L = some (M0, L0) := hD
      unfold fX6_makeCode_i65 at hD
      refine lv_iload C.1.1 C.1.2.1 dX6_makeCode_65 (lv_at hl 4 rfl) ?_
      refine lv_iconst (v := 3) C.1.1 C.1.2.1 dX6_makeCode_67 (by decide) ?_
      refine lv_icmp_ge (tgt := 91) C.1.1 C.1.2.1 dX6_makeCode_68 (by decide) (fun c7 => ?_) (fun c7 => ?_)
      · replace hD := g_pos c7 hD
        refine lv_aload C.1.1 C.1.2.1 dX6_makeCode_91 (lv_at hl 3 rfl) ?_
        refine lv_aload_n C.1.1 C.1.2.1 dX6_makeCode_93 rfl (lv_at hl 0 rfl) ?_
        refine mr_getR C hw kc_6 1 (by decide) tf_61 ff_61_1 wd_231 dX6_makeCode_94 (by decide) rfl ?_
        refine lv_iconst (v := 2) C.1.1 C.1.2.1 dX6_makeCode_97 (by decide) ?_
        refine mr_aald C hw (by decide) tf_73 (by decide) (by decide) rfl rfl (show vp_in 2 6 from by unfold vp_in; decide) ff_73_2 dX6_makeCode_98 ?_
        refine lv_iload_n C.1.1 C.1.2.1 dX6_makeCode_99 rfl (lv_at hl 1 rfl) ?_
        obtain ⟨q9, hD⟩ := g_ck hD
        refine mr_iald C hw (by decide) tf_76 q9 dX6_makeCode_100 ?_
        refine lv_aload_n C.1.1 C.1.2.1 dX6_makeCode_101 rfl (lv_at hl 0 rfl) ?_
        refine mr_getR C hw kc_6 9 (by decide) tf_61 ff_61_9 wd_242 dX6_makeCode_102 (by decide) rfl ?_
        refine lv_aload_n C.1.1 C.1.2.1 dX6_makeCode_105 rfl (lv_at hl 0 rfl) ?_
        refine mr_getR C hw kc_6 9 (by decide) tf_61 ff_61_9 wd_242 dX6_makeCode_106 (by decide) rfl ?_
        refine mr_alen (v := 12) C hw (by decide) tf_96 (by decide) rfl (by decide) dX6_makeCode_109 ?_
        obtain ⟨M10, L11, h1, hD⟩ := g_b2 hD
        refine md_cvV (As := [.int (M 76 a1.toNatClampNeg), .ref (ad 96), .int 12]) (rest := []) C hw (tX3_make l G ad fu (M 76 a1.toNatClampNeg) 96 12 12 M L h1 (by decide) tf_96) kc_3 (by decide) tf_97 wd_1327 cwX3_make ⟨Nat.le_of_ble_eq_true rfl, Nat.le_of_ble_eq_true rfl⟩ rfl hl.1 (Nat.le_of_ble_eq_true rfl) dX6_makeCode_110 rfl rfl ⟨Nat.zero_le _, Nat.zero_le _⟩ rfl (fun H locs hw => ?_)
        exact mr_vret C hr hlocks hw (Option.some.inj hD) dX6_makeCode_113
      · replace hD := g_neg c7 hD
        refine lv_aload_n C.1.1 C.1.2.1 dX6_makeCode_71 rfl (lv_at hl 0 rfl) ?_
        refine mr_getR C hw kc_6 9 (by decide) tf_61 ff_61_9 wd_242 dX6_makeCode_72 (by decide) rfl ?_
        refine lv_bipush (v := 9) C.1.1 C.1.2.1 dX6_makeCode_75 (by decide) ?_
        refine lv_iload C.1.1 C.1.2.1 dX6_makeCode_77 (lv_at hl 4 rfl) ?_
        refine lv_iadd C.1.1 C.1.2.1 dX6_makeCode_79 ?_
        refine lv_aload_n C.1.1 C.1.2.1 dX6_makeCode_80 rfl (lv_at hl 2 rfl) ?_
        refine lv_iload C.1.1 C.1.2.1 dX6_makeCode_81 (lv_at hl 4 rfl) ?_
        obtain ⟨q12, hD⟩ := g_ck hD
        refine mr_iald C hw hk3 hT3 q12 dX6_makeCode_83 ?_
        obtain ⟨q13, hD⟩ := g_ck hD
        obtain ⟨M14, eM14, hD⟩ := g_let hD
        refine mr_iast C hw (by decide) tf_96 q13 dX6_makeCode_84 (fun H locs hw => ?_)
        replace hw : mw_W G ad NF TF FF M14 L H locs := by rw [eM14]; exact hw
        obtain ⟨x15, ex15, hD⟩ := g_let hD
        refine lv_iinc (v := x15) (lv' := [(5, .int x15), (0, .ref (ad 61)), (1, .int a1), (3, .ref (ad a3)), (4, .ref (ad 97))]) C.1.1 C.1.2.1 dX6_makeCode_85 hl (k := 4) rfl (by rw [ex15]; rfl) (by decide) rfl (fun ls hl => ?_)
        refine lv_goto (tgt := 65) C.1.1 C.1.2.1 dX6_makeCode_88 (by decide) ?_
        exact ih65 x15 M14 L _ _ ls hD hw (lv_sub hl [1, 2, 3, 4, 0] rfl)
  have hh17 : ∀ (f : Nat) (v5 : Int32) (M : mwM) (L : mwL) (H : Heap) (locs : List Loc) (ls : Array Slot), fX6_makeCode_h17 fu a1 a2 a3 n3 f (v5, M, L) = some (M0, L0) → mw_W G ad NF TF FF M L H locs → lv_has ls 6 [(0, .ref (ad 61)), (1, .int a1), (2, .int a2), (3, .ref (ad a3)), (4, .ref (ad 97)), (5, .int v5)] → W p l e ({ frames := 2, cells := 0, slots := 0, locals := 54 }) s m [.ref (ad 61), .int a1, .int a2, .ref (ad a3), .ref (ad 97)].toArray below meth c H locs 0 0 (MQ below (mw_Qv G ad NF TF FF (mw_eqV M0 L0)) [.ref (ad 61), .int a1, .int a2, .ref (ad a3), .ref (ad 97)].toArray s 0 0 (mw_fr G)) (F0 m 17 ls []) := by
    intro f
    induction f with
    | zero => intro v5 M L H locs ls hD; cases hD
    | succ f17 ih17 =>
      intro v5 M L H locs ls hD hw hl
      replace hD : fX6_makeCode_i17 fu a1 a2 a3 n3 (fX6_makeCode_h17 fu a1 a2 a3 n3 f17) v5 M L = some (M0, L0) := hD
      unfold fX6_makeCode_i17 at hD
      refine lv_iload C.1.1 C.1.2.1 dX6_makeCode_17 (lv_at hl 5 rfl) ?_
      refine lv_iconst (v := 4) C.1.1 C.1.2.1 dX6_makeCode_19 (by decide) ?_
      refine lv_icmp_ge (tgt := 62) C.1.1 C.1.2.1 dX6_makeCode_20 (by decide) (fun c1 => ?_) (fun c1 => ?_)
      · replace hD := g_pos c1 hD
        refine lv_iconst (v := 0) C.1.1 C.1.2.1 dX6_makeCode_62 (by decide) ?_
        refine lv_istore (lv' := [(5, .int 0), (0, .ref (ad 61)), (1, .int a1), (2, .int a2), (3, .ref (ad a3)), (4, .ref (ad 97))]) C.1.1 C.1.2.1 dX6_makeCode_63 hl (by decide) rfl (fun ls hl => ?_)
        exact hh65 fu 0 M L _ _ ls hD hw (lv_sub hl [1, 2, 4, 5, 0] rfl)
      · replace hD := g_neg c1 hD
        refine lv_aload_n C.1.1 C.1.2.1 dX6_makeCode_23 rfl (lv_at hl 0 rfl) ?_
        refine mr_getR C hw kc_6 9 (by decide) tf_61 ff_61_9 wd_242 dX6_makeCode_24 (by decide) rfl ?_
        refine lv_iconst (v := 1) C.1.1 C.1.2.1 dX6_makeCode_27 (by decide) ?_
        refine lv_iload C.1.1 C.1.2.1 dX6_makeCode_28 (lv_at hl 5 rfl) ?_
        refine lv_iadd C.1.1 C.1.2.1 dX6_makeCode_30 ?_
        refine lv_iconst (v := 0) C.1.1 C.1.2.1 dX6_makeCode_31 (by decide) ?_
        obtain ⟨q2, hD⟩ := g_ck hD
        obtain ⟨M3, eM3, hD⟩ := g_let hD
        refine mr_iast C hw (by decide) tf_96 q2 dX6_makeCode_32 (fun H locs hw => ?_)
        replace hw : mw_W G ad NF TF FF M3 L H locs := by rw [eM3]; exact hw
        refine lv_aload_n C.1.1 C.1.2.1 dX6_makeCode_33 rfl (lv_at hl 0 rfl) ?_
        refine mr_getR C hw kc_6 9 (by decide) tf_61 ff_61_9 wd_242 dX6_makeCode_34 (by decide) rfl ?_
        refine lv_iconst (v := 5) C.1.1 C.1.2.1 dX6_makeCode_37 (by decide) ?_
        refine lv_iload C.1.1 C.1.2.1 dX6_makeCode_38 (lv_at hl 5 rfl) ?_
        refine lv_iadd C.1.1 C.1.2.1 dX6_makeCode_40 ?_
        refine lv_iload_n C.1.1 C.1.2.1 dX6_makeCode_41 rfl (lv_at hl 2 rfl) ?_
        refine lv_bipush (v := 24) C.1.1 C.1.2.1 dX6_makeCode_42 (by decide) ?_
        refine lv_bipush (v := 8) C.1.1 C.1.2.1 dX6_makeCode_44 (by decide) ?_
        refine lv_iload C.1.1 C.1.2.1 dX6_makeCode_46 (lv_at hl 5 rfl) ?_
        refine lv_imul C.1.1 C.1.2.1 dX6_makeCode_48 ?_
        refine lv_isub C.1.1 C.1.2.1 dX6_makeCode_49 ?_
        refine lv_iushr C.1.1 C.1.2.1 dX6_makeCode_50 rfl ?_
        refine lv_sipush (v := 255) C.1.1 C.1.2.1 dX6_makeCode_51 (by decide) ?_
        refine lv_iand C.1.1 C.1.2.1 dX6_makeCode_54 ?_
        obtain ⟨q4, hD⟩ := g_ck hD
        obtain ⟨M5, eM5, hD⟩ := g_let hD
        refine mr_iast C hw (by decide) tf_96 q4 dX6_makeCode_55 (fun H locs hw => ?_)
        replace hw : mw_W G ad NF TF FF M5 L H locs := by rw [eM5]; exact hw
        obtain ⟨x6, ex6, hD⟩ := g_let hD
        refine lv_iinc (v := x6) (lv' := [(5, .int x6), (0, .ref (ad 61)), (1, .int a1), (2, .int a2), (3, .ref (ad a3)), (4, .ref (ad 97))]) C.1.1 C.1.2.1 dX6_makeCode_56 hl (k := 5) rfl (by rw [ex6]; rfl) (by decide) rfl (fun ls hl => ?_)
        refine lv_goto (tgt := 17) C.1.1 C.1.2.1 dX6_makeCode_59 (by decide) ?_
        exact ih17 x6 M5 L _ _ ls hD hw (lv_sub hl [1, 2, 3, 4, 5, 0] rfl)
  unfold DX6_makeCode at hD
  refine lv_aload_n C.1.1 C.1.2.1 dX6_makeCode_0 rfl (lv_at hl 0 rfl) ?_
  refine mr_getR C hw kc_6 9 (by decide) tf_61 ff_61_9 wd_242 dX6_makeCode_1 (by decide) rfl ?_
  refine lv_iconst (v := 0) C.1.1 C.1.2.1 dX6_makeCode_4 (by decide) ?_
  refine lv_aload_n C.1.1 C.1.2.1 dX6_makeCode_5 rfl (lv_at hl 0 rfl) ?_
  refine mr_getR C hw kc_6 1 (by decide) tf_61 ff_61_1 wd_231 dX6_makeCode_6 (by decide) rfl ?_
  refine lv_iconst (v := 4) C.1.1 C.1.2.1 dX6_makeCode_9 (by decide) ?_
  refine mr_aald C hw (by decide) tf_73 (by decide) (by decide) rfl rfl (show vp_in 4 6 from by unfold vp_in; decide) ff_73_4 dX6_makeCode_10 ?_
  refine lv_iload_n C.1.1 C.1.2.1 dX6_makeCode_11 rfl (lv_at hl 1 rfl) ?_
  obtain ⟨q17, hD⟩ := g_ck hD
  refine mr_iald C hw (by decide) tf_78 q17 dX6_makeCode_12 ?_
  obtain ⟨M19, eM19, hD⟩ := g_let hD
  refine mr_iast C hw (by decide) tf_96 (show vp_in 0 12 from by unfold vp_in; decide) dX6_makeCode_13 (fun H locs hw => ?_)
  replace hw : mw_W G ad NF TF FF M19 L H locs := by rw [eM19]; exact hw
  refine lv_iconst (v := 0) C.1.1 C.1.2.1 dX6_makeCode_14 (by decide) ?_
  refine lv_istore (lv' := [(5, .int 0), (0, .ref (ad 61)), (1, .int a1), (2, .int a2), (3, .ref (ad a3)), (4, .ref (ad 97))]) C.1.1 C.1.2.1 dX6_makeCode_15 hl (by decide) rfl (fun ls hl => ?_)
  exact hh17 fu 0 M19 L _ _ ls hD hw (lv_sub hl [1, 2, 3, 4, 5, 0] rfl)

theorem dX6_seal_0 : decode cX6_seal 0 = .ok (.aload_n 0, 1) := by decide +kernel
theorem dX6_seal_1 : decode cX6_seal 1 = .ok (.getfield 38, 3) := by decide +kernel
theorem dX6_seal_4 : decode cX6_seal 4 = .ok (.iconst 3, 1) := by decide +kernel
theorem dX6_seal_5 : decode cX6_seal 5 = .ok (.aload_n 0, 1) := by decide +kernel
theorem dX6_seal_6 : decode cX6_seal 6 = .ok (.getfield 16, 3) := by decide +kernel
theorem dX6_seal_9 : decode cX6_seal 9 = .ok (.iconst 3, 1) := by decide +kernel
theorem dX6_seal_10 : decode cX6_seal 10 = .ok (.aaload, 1) := by decide +kernel
theorem dX6_seal_11 : decode cX6_seal 11 = .ok (.iload_n 1, 1) := by decide +kernel
theorem dX6_seal_12 : decode cX6_seal 12 = .ok (.iaload, 1) := by decide +kernel
theorem dX6_seal_13 : decode cX6_seal 13 = .ok (.sipush 255, 3) := by decide +kernel
theorem dX6_seal_16 : decode cX6_seal 16 = .ok (.iand, 1) := by decide +kernel
theorem dX6_seal_17 : decode cX6_seal 17 = .ok (.iastore, 1) := by decide +kernel
theorem dX6_seal_18 : decode cX6_seal 18 = .ok (.aload_n 0, 1) := by decide +kernel
theorem dX6_seal_19 : decode cX6_seal 19 = .ok (.iload_n 1, 1) := by decide +kernel
theorem dX6_seal_20 : decode cX6_seal 20 = .ok (.aload_n 0, 1) := by decide +kernel
theorem dX6_seal_21 : decode cX6_seal 21 = .ok (.getfield 16, 3) := by decide +kernel
theorem dX6_seal_24 : decode cX6_seal 24 = .ok (.iconst 3, 1) := by decide +kernel
theorem dX6_seal_25 : decode cX6_seal 25 = .ok (.aaload, 1) := by decide +kernel
theorem dX6_seal_26 : decode cX6_seal 26 = .ok (.iload_n 1, 1) := by decide +kernel
theorem dX6_seal_27 : decode cX6_seal 27 = .ok (.iaload, 1) := by decide +kernel
theorem dX6_seal_28 : decode cX6_seal 28 = .ok (.aload_n 0, 1) := by decide +kernel
theorem dX6_seal_29 : decode cX6_seal 29 = .ok (.getfield 38, 3) := by decide +kernel
theorem dX6_seal_32 : decode cX6_seal 32 = .ok (.aload_n 2, 1) := by decide +kernel
theorem dX6_seal_33 : decode cX6_seal 33 = .ok (.invokevirtual 135, 3) := by decide +kernel
theorem dX6_seal_36 : decode cX6_seal 36 = .ok (.iconst 0, 1) := by decide +kernel
theorem dX6_seal_37 : decode cX6_seal 37 = .ok (.istore_n 3, 1) := by decide +kernel
theorem dX6_seal_38 : decode cX6_seal 38 = .ok (.iload_n 3, 1) := by decide +kernel
theorem dX6_seal_39 : decode cX6_seal 39 = .ok (.iconst 4, 1) := by decide +kernel
theorem dX6_seal_40 : decode cX6_seal 40 = .ok (.if_icmp .ge 23, 3) := by decide +kernel
theorem dX6_seal_43 : decode cX6_seal 43 = .ok (.aload_n 0, 1) := by decide +kernel
theorem dX6_seal_44 : decode cX6_seal 44 = .ok (.getfield 38, 3) := by decide +kernel
theorem dX6_seal_47 : decode cX6_seal 47 = .ok (.iconst 4, 1) := by decide +kernel
theorem dX6_seal_48 : decode cX6_seal 48 = .ok (.iload_n 3, 1) := by decide +kernel
theorem dX6_seal_49 : decode cX6_seal 49 = .ok (.iadd, 1) := by decide +kernel
theorem dX6_seal_50 : decode cX6_seal 50 = .ok (.aload_n 2, 1) := by decide +kernel
theorem dX6_seal_51 : decode cX6_seal 51 = .ok (.getfield 139, 3) := by decide +kernel
theorem dX6_seal_54 : decode cX6_seal 54 = .ok (.iload_n 3, 1) := by decide +kernel
theorem dX6_seal_55 : decode cX6_seal 55 = .ok (.iaload, 1) := by decide +kernel
theorem dX6_seal_56 : decode cX6_seal 56 = .ok (.iastore, 1) := by decide +kernel
theorem dX6_seal_57 : decode cX6_seal 57 = .ok (.iinc 3 1, 3) := by decide +kernel
theorem dX6_seal_60 : decode cX6_seal 60 = .ok (.goto (-22), 3) := by decide +kernel
theorem dX6_seal_63 : decode cX6_seal 63 = .ok (.return_, 1) := by decide +kernel
theorem cwX6_seal : mw_cwV yX6_seal cX6_seal 4 (none) 2 := ⟨⟨wd_7, wd_1322, by decide +kernel⟩, wd_1320, wd_1321⟩
set_option maxHeartbeats 4000000 in
set_option maxRecDepth 100000 in
theorem tX6_seal (l : Launch) (G : mwG) (ad : Nat → Nat) (fu : Nat) (a1 : Int32) (M : mwM) (L : mwL) {M0 : mwM} {L0 : mwL} (hD : DX6_seal fu a1 M L = some (M0, L0)) : Met l yX6_seal (Cond.code yX6_seal cX6_seal 4 (none) :: GT) ({ frames := 3, cells := 0, slots := 0, locals := 79 }) (mw_Pre G ad NF TF FF M L [.ref (ad 61), .int a1, .ref (ad 97)]) (mw_Qv G ad NF TF FF (mw_eqV M0 L0)) 0 0 (mw_fr G) := by
  refine mw_enter (by decide) (Nat.le_of_ble_eq_true rfl) ?_
  intro p e s m below meth c ls C hr hlocks hnm hw hl
  have hl : lv_has ls 4 [(0, .ref (ad 61)), (1, .int a1), (2, .ref (ad 97))] := hl
  have hh38 : ∀ (f : Nat) (v3 : Int32) (M : mwM) (L : mwL) (H : Heap) (locs : List Loc) (ls : Array Slot), fX6_seal_h38 fu a1 f (v3, M, L) = some (M0, L0) → mw_W G ad NF TF FF M L H locs → lv_has ls 4 [(0, .ref (ad 61)), (2, .ref (ad 97)), (3, .int v3)] → W p l e ({ frames := 3, cells := 0, slots := 0, locals := 79 }) s m [.ref (ad 61), .int a1, .ref (ad 97)].toArray below meth c H locs 0 0 (MQ below (mw_Qv G ad NF TF FF (mw_eqV M0 L0)) [.ref (ad 61), .int a1, .ref (ad 97)].toArray s 0 0 (mw_fr G)) (F0 m 38 ls []) := by
    intro f
    induction f with
    | zero => intro v3 M L H locs ls hD; cases hD
    | succ f38 ih38 =>
      intro v3 M L H locs ls hD hw hl
      replace hD : fX6_seal_i38 fu a1 (fX6_seal_h38 fu a1 f38) v3 M L = some (M0, L0) := hD
      unfold fX6_seal_i38 at hD
      refine lv_iload_n C.1.1 C.1.2.1 dX6_seal_38 rfl (lv_at hl 2 rfl) ?_
      refine lv_iconst (v := 4) C.1.1 C.1.2.1 dX6_seal_39 (by decide) ?_
      refine lv_icmp_ge (tgt := 63) C.1.1 C.1.2.1 dX6_seal_40 (by decide) (fun c1 => ?_) (fun c1 => ?_)
      · replace hD := g_pos c1 hD
        exact mr_vret C hr hlocks hw (Option.some.inj hD) dX6_seal_63
      · replace hD := g_neg c1 hD
        refine lv_aload_n C.1.1 C.1.2.1 dX6_seal_43 rfl (lv_at hl 0 rfl) ?_
        refine mr_getR C hw kc_6 8 (by decide) tf_61 ff_61_8 wd_240 dX6_seal_44 (by decide) rfl ?_
        refine lv_iconst (v := 4) C.1.1 C.1.2.1 dX6_seal_47 (by decide) ?_
        refine lv_iload_n C.1.1 C.1.2.1 dX6_seal_48 rfl (lv_at hl 2 rfl) ?_
        refine lv_iadd C.1.1 C.1.2.1 dX6_seal_49 ?_
        refine lv_aload_n C.1.1 C.1.2.1 dX6_seal_50 rfl (lv_at hl 1 rfl) ?_
        refine mr_getNR C hw kc_3 6 (by decide) tf_97 ff_97_6 nd_304 dX6_seal_51 (by decide) rfl ?_
        refine lv_iload_n C.1.1 C.1.2.1 dX6_seal_54 rfl (lv_at hl 2 rfl) ?_
        obtain ⟨q2, hD⟩ := g_ck hD
        refine mr_iald C hw (by decide) tf_138 q2 dX6_seal_55 ?_
        obtain ⟨q3, hD⟩ := g_ck hD
        obtain ⟨M4, eM4, hD⟩ := g_let hD
        refine mr_iast C hw (by decide) tf_95 q3 dX6_seal_56 (fun H locs hw => ?_)
        replace hw : mw_W G ad NF TF FF M4 L H locs := by rw [eM4]; exact hw
        obtain ⟨x5, ex5, hD⟩ := g_let hD
        refine lv_iinc (v := x5) (lv' := [(3, .int x5), (0, .ref (ad 61)), (2, .ref (ad 97))]) C.1.1 C.1.2.1 dX6_seal_57 hl (k := 2) rfl (by rw [ex5]; rfl) (by decide) rfl (fun ls hl => ?_)
        refine lv_goto (tgt := 38) C.1.1 C.1.2.1 dX6_seal_60 (by decide) ?_
        exact ih38 x5 M4 L _ _ ls hD hw (lv_sub hl [1, 2, 0] rfl)
  unfold DX6_seal at hD
  refine lv_aload_n C.1.1 C.1.2.1 dX6_seal_0 rfl (lv_at hl 0 rfl) ?_
  refine mr_getR C hw kc_6 8 (by decide) tf_61 ff_61_8 wd_240 dX6_seal_1 (by decide) rfl ?_
  refine lv_iconst (v := 3) C.1.1 C.1.2.1 dX6_seal_4 (by decide) ?_
  refine lv_aload_n C.1.1 C.1.2.1 dX6_seal_5 rfl (lv_at hl 0 rfl) ?_
  refine mr_getR C hw kc_6 1 (by decide) tf_61 ff_61_1 wd_231 dX6_seal_6 (by decide) rfl ?_
  refine lv_iconst (v := 3) C.1.1 C.1.2.1 dX6_seal_9 (by decide) ?_
  refine mr_aald C hw (by decide) tf_73 (by decide) (by decide) rfl rfl (show vp_in 3 6 from by unfold vp_in; decide) ff_73_3 dX6_seal_10 ?_
  refine lv_iload_n C.1.1 C.1.2.1 dX6_seal_11 rfl (lv_at hl 1 rfl) ?_
  obtain ⟨q7, hD⟩ := g_ck hD
  refine mr_iald C hw (by decide) tf_77 q7 dX6_seal_12 ?_
  refine lv_sipush (v := 255) C.1.1 C.1.2.1 dX6_seal_13 (by decide) ?_
  refine lv_iand C.1.1 C.1.2.1 dX6_seal_16 ?_
  obtain ⟨M9, eM9, hD⟩ := g_let hD
  refine mr_iast C hw (by decide) tf_95 (show vp_in 3 8 from by unfold vp_in; decide) dX6_seal_17 (fun H locs hw => ?_)
  replace hw : mw_W G ad NF TF FF M9 L H locs := by rw [eM9]; exact hw
  refine lv_aload_n C.1.1 C.1.2.1 dX6_seal_18 rfl (lv_at hl 0 rfl) ?_
  refine lv_iload_n C.1.1 C.1.2.1 dX6_seal_19 rfl (lv_at hl 1 rfl) ?_
  refine lv_aload_n C.1.1 C.1.2.1 dX6_seal_20 rfl (lv_at hl 0 rfl) ?_
  refine mr_getR C hw kc_6 1 (by decide) tf_61 ff_61_1 wd_231 dX6_seal_21 (by decide) rfl ?_
  refine lv_iconst (v := 3) C.1.1 C.1.2.1 dX6_seal_24 (by decide) ?_
  refine mr_aald C hw (by decide) tf_73 (by decide) (by decide) rfl rfl (show vp_in 3 6 from by unfold vp_in; decide) ff_73_3 dX6_seal_25 ?_
  refine lv_iload_n C.1.1 C.1.2.1 dX6_seal_26 rfl (lv_at hl 1 rfl) ?_
  obtain ⟨q11, hD⟩ := g_ck hD
  refine mr_iald C hw (by decide) tf_77 q11 dX6_seal_27 ?_
  refine lv_aload_n C.1.1 C.1.2.1 dX6_seal_28 rfl (lv_at hl 0 rfl) ?_
  refine mr_getR C hw kc_6 8 (by decide) tf_61 ff_61_8 wd_240 dX6_seal_29 (by decide) rfl ?_
  refine lv_aload_n C.1.1 C.1.2.1 dX6_seal_32 rfl (lv_at hl 2 rfl) ?_
  obtain ⟨M12, L13, h1, hD⟩ := g_b2 hD
  refine md_cvV (As := [.int a1, .int (M9 77 a1.toNatClampNeg), .ref (ad 95), .ref (ad 97)]) (rest := []) C hw (tX6_makeCode l G ad fu a1 (M9 77 a1.toNatClampNeg) 95 8 M9 L h1 (by decide) tf_95) kc_6 (by decide) tf_61 wd_1323 cwX6_makeCode ⟨Nat.le_of_ble_eq_true rfl, Nat.le_of_ble_eq_true rfl⟩ rfl hl.1 (Nat.le_of_ble_eq_true rfl) dX6_seal_33 rfl rfl ⟨Nat.zero_le _, Nat.zero_le _⟩ rfl (fun H locs hw => ?_)
  refine lv_iconst (v := 0) C.1.1 C.1.2.1 dX6_seal_36 (by decide) ?_
  refine lv_istore_n (lv' := [(3, .int 0), (0, .ref (ad 61)), (1, .int a1), (2, .ref (ad 97))]) C.1.1 C.1.2.1 dX6_seal_37 rfl hl (by decide) rfl (fun ls hl => ?_)
  exact hh38 fu 0 M12 L13 _ _ ls hD hw (lv_sub hl [1, 3, 0] rfl)

theorem dX6_accept_0 : decode cX6_accept 0 = .ok (.aload_n 3, 1) := by decide +kernel
theorem dX6_accept_1 : decode cX6_accept 1 = .ok (.iconst 3, 1) := by decide +kernel
theorem dX6_accept_2 : decode cX6_accept 2 = .ok (.iaload, 1) := by decide +kernel
theorem dX6_accept_3 : decode cX6_accept 3 = .ok (.aload_n 0, 1) := by decide +kernel
theorem dX6_accept_4 : decode cX6_accept 4 = .ok (.getfield 26, 3) := by decide +kernel
theorem dX6_accept_7 : decode cX6_accept 7 = .ok (.iload_n 1, 1) := by decide +kernel
theorem dX6_accept_8 : decode cX6_accept 8 = .ok (.aaload, 1) := by decide +kernel
theorem dX6_accept_9 : decode cX6_accept 9 = .ok (.iload_n 2, 1) := by decide +kernel
theorem dX6_accept_10 : decode cX6_accept 10 = .ok (.iaload, 1) := by decide +kernel
theorem dX6_accept_11 : decode cX6_accept 11 = .ok (.isub, 1) := by decide +kernel
theorem dX6_accept_12 : decode cX6_accept 12 = .ok (.sipush 255, 3) := by decide +kernel
theorem dX6_accept_15 : decode cX6_accept 15 = .ok (.iand, 1) := by decide +kernel
theorem dX6_accept_16 : decode cX6_accept 16 = .ok (.istore 5, 2) := by decide +kernel
theorem dX6_accept_18 : decode cX6_accept 18 = .ok (.iload 5, 2) := by decide +kernel
theorem dX6_accept_20 : decode cX6_accept 20 = .ok (.ifCond .eq 10, 3) := by decide +kernel
theorem dX6_accept_23 : decode cX6_accept 23 = .ok (.iload 5, 2) := by decide +kernel
theorem dX6_accept_25 : decode cX6_accept 25 = .ok (.bipush 64, 2) := by decide +kernel
theorem dX6_accept_27 : decode cX6_accept 27 = .ok (.if_icmp .le 5, 3) := by decide +kernel
theorem dX6_accept_30 : decode cX6_accept 30 = .ok (.iconst 0, 1) := by decide +kernel
theorem dX6_accept_31 : decode cX6_accept 31 = .ok (.ireturn, 1) := by decide +kernel
theorem dX6_accept_32 : decode cX6_accept 32 = .ok (.aload_n 0, 1) := by decide +kernel
theorem dX6_accept_33 : decode cX6_accept 33 = .ok (.iload_n 2, 1) := by decide +kernel
theorem dX6_accept_34 : decode cX6_accept 34 = .ok (.aload_n 0, 1) := by decide +kernel
theorem dX6_accept_35 : decode cX6_accept 35 = .ok (.getfield 26, 3) := by decide +kernel
theorem dX6_accept_38 : decode cX6_accept 38 = .ok (.iload_n 1, 1) := by decide +kernel
theorem dX6_accept_39 : decode cX6_accept 39 = .ok (.aaload, 1) := by decide +kernel
theorem dX6_accept_40 : decode cX6_accept 40 = .ok (.iload_n 2, 1) := by decide +kernel
theorem dX6_accept_41 : decode cX6_accept 41 = .ok (.iaload, 1) := by decide +kernel
theorem dX6_accept_42 : decode cX6_accept 42 = .ok (.iload 5, 2) := by decide +kernel
theorem dX6_accept_44 : decode cX6_accept 44 = .ok (.iadd, 1) := by decide +kernel
theorem dX6_accept_45 : decode cX6_accept 45 = .ok (.aload_n 3, 1) := by decide +kernel
theorem dX6_accept_46 : decode cX6_accept 46 = .ok (.aload 4, 2) := by decide +kernel
theorem dX6_accept_48 : decode cX6_accept 48 = .ok (.invokevirtual 135, 3) := by decide +kernel
theorem dX6_accept_51 : decode cX6_accept 51 = .ok (.aload 4, 2) := by decide +kernel
theorem dX6_accept_53 : decode cX6_accept 53 = .ok (.aload_n 3, 1) := by decide +kernel
theorem dX6_accept_54 : decode cX6_accept 54 = .ok (.iconst 4, 1) := by decide +kernel
theorem dX6_accept_55 : decode cX6_accept 55 = .ok (.invokevirtual 144, 3) := by decide +kernel
theorem dX6_accept_58 : decode cX6_accept 58 = .ok (.ifCond .ne 5, 3) := by decide +kernel
theorem dX6_accept_61 : decode cX6_accept 61 = .ok (.iconst 0, 1) := by decide +kernel
theorem dX6_accept_62 : decode cX6_accept 62 = .ok (.ireturn, 1) := by decide +kernel
theorem dX6_accept_63 : decode cX6_accept 63 = .ok (.aload_n 0, 1) := by decide +kernel
theorem dX6_accept_64 : decode cX6_accept 64 = .ok (.getfield 26, 3) := by decide +kernel
theorem dX6_accept_67 : decode cX6_accept 67 = .ok (.iload_n 1, 1) := by decide +kernel
theorem dX6_accept_68 : decode cX6_accept 68 = .ok (.aaload, 1) := by decide +kernel
theorem dX6_accept_69 : decode cX6_accept 69 = .ok (.iload_n 2, 1) := by decide +kernel
theorem dX6_accept_70 : decode cX6_accept 70 = .ok (.dup2, 1) := by decide +kernel
theorem dX6_accept_71 : decode cX6_accept 71 = .ok (.iaload, 1) := by decide +kernel
theorem dX6_accept_72 : decode cX6_accept 72 = .ok (.iload 5, 2) := by decide +kernel
theorem dX6_accept_74 : decode cX6_accept 74 = .ok (.iadd, 1) := by decide +kernel
theorem dX6_accept_75 : decode cX6_accept 75 = .ok (.iastore, 1) := by decide +kernel
theorem dX6_accept_76 : decode cX6_accept 76 = .ok (.iconst 1, 1) := by decide +kernel
theorem dX6_accept_77 : decode cX6_accept 77 = .ok (.ireturn, 1) := by decide +kernel
theorem cwX6_accept : mw_cwV yX6_accept cX6_accept 6 ((some .boolean)) 4 := ⟨⟨wd_7, wd_1615, by decide +kernel⟩, wd_1613, wd_1614⟩
set_option maxHeartbeats 4000000 in
set_option maxRecDepth 100000 in
theorem tX6_accept (l : Launch) (G : mwG) (ad : Nat → Nat) (fu : Nat) (a1 : Int32) (a2 : Int32) (a3 : Nat) (n3 : Nat) (M : mwM) (L : mwL) {r0 : Int32} {M0 : mwM} {L0 : mwL} (hD : DX6_accept fu a1 a2 a3 n3 M L = some (r0, M0, L0)) (hk3 : a3 < NF) (hT3 : TF a3 = (0, n3)) : Met l yX6_accept (Cond.code yX6_accept cX6_accept 6 ((some .boolean)) :: GT) ({ frames := 3, cells := 0, slots := 0, locals := 79 }) (mw_Pre G ad NF TF FF M L [.ref (ad 61), .int a1, .int a2, .ref (ad a3), .ref (ad 97)]) (mw_Qi G ad NF TF FF (mw_eqI r0 M0 L0)) 0 0 (mw_fr G) := by
  refine mw_enter (by decide) (Nat.le_of_ble_eq_true rfl) ?_
  intro p e s m below meth c ls C hr hlocks hnm hw hl
  have hl : lv_has ls 6 [(0, .ref (ad 61)), (1, .int a1), (2, .int a2), (3, .ref (ad a3)), (4, .ref (ad 97))] := hl
  have hb30 : ∀ (M : mwM) (L : mwL) (H : Heap) (locs : List Loc) (ls : Array Slot), fX6_accept_b30 fu a1 a2 a3 n3 M L = some (r0, M0, L0) → mw_W G ad NF TF FF M L H locs → lv_has ls 6 [] → W p l e ({ frames := 3, cells := 0, slots := 0, locals := 79 }) s m [.ref (ad 61), .int a1, .int a2, .ref (ad a3), .ref (ad 97)].toArray below meth c H locs 0 0 (MQ below (mw_Qi G ad NF TF FF (mw_eqI r0 M0 L0)) [.ref (ad 61), .int a1, .int a2, .ref (ad a3), .ref (ad 97)].toArray s 0 0 (mw_fr G)) (F0 m 30 ls []) := by
    intro M L H locs ls hD hw hl
    unfold fX6_accept_b30 at hD
    refine lv_iconst (v := 0) C.1.1 C.1.2.1 dX6_accept_30 (by decide) ?_
    exact mr_iret C hr hlocks hw (by decide +kernel) (Option.some.inj hD) dX6_accept_31
  unfold DX6_accept at hD
  refine lv_aload_n C.1.1 C.1.2.1 dX6_accept_0 rfl (lv_at hl 3 rfl) ?_
  refine lv_iconst (v := 3) C.1.1 C.1.2.1 dX6_accept_1 (by decide) ?_
  obtain ⟨q1, hD⟩ := g_ck hD
  refine mr_iald C hw hk3 hT3 q1 dX6_accept_2 ?_
  refine lv_aload_n C.1.1 C.1.2.1 dX6_accept_3 rfl (lv_at hl 0 rfl) ?_
  refine mr_getR C hw kc_6 4 (by decide) tf_61 ff_61_4 wd_236 dX6_accept_4 (by decide) rfl ?_
  refine lv_iload_n C.1.1 C.1.2.1 dX6_accept_7 rfl (lv_at hl 1 rfl) ?_
  obtain ⟨q2, hD⟩ := g_ck hD
  refine mr_aald C hw (by decide) tf_85 (by decide) (by decide) rfl rfl q2 (fr_85 _ (g_lt q2)).1 dX6_accept_8 ?_
  refine lv_iload_n C.1.1 C.1.2.1 dX6_accept_9 rfl (lv_at hl 2 rfl) ?_
  obtain ⟨q3, hD⟩ := g_ck hD
  refine mr_iald C hw (fr_85 _ (g_lt q2)).2.2 (fr_85 _ (g_lt q2)).2.1 q3 dX6_accept_10 ?_
  refine lv_isub C.1.1 C.1.2.1 dX6_accept_11 ?_
  refine lv_sipush (v := 255) C.1.1 C.1.2.1 dX6_accept_12 (by decide) ?_
  refine lv_iand C.1.1 C.1.2.1 dX6_accept_15 ?_
  obtain ⟨x4, ex4, hD⟩ := g_let hD
  refine W.eq (g2 := F0 m 16 ls (.int x4 :: [])) (by rw [ex4]) ?_
  refine lv_istore (lv' := [(5, .int x4), (0, .ref (ad 61)), (1, .int a1), (2, .int a2), (3, .ref (ad a3)), (4, .ref (ad 97))]) C.1.1 C.1.2.1 dX6_accept_16 hl (by decide) rfl (fun ls hl => ?_)
  refine lv_iload C.1.1 C.1.2.1 dX6_accept_18 (lv_at hl 0 rfl) ?_
  refine lv_if_eq (tgt := 30) C.1.1 C.1.2.1 dX6_accept_20 (by decide) (fun c5 => ?_) (fun c5 => ?_)
  · replace hD := g_pos c5 hD
    exact hb30 M L _ _ ls hD hw (lv_sub hl [] rfl)
  · replace hD := g_neg c5 hD
    refine lv_iload C.1.1 C.1.2.1 dX6_accept_23 (lv_at hl 0 rfl) ?_
    refine lv_bipush (v := 64) C.1.1 C.1.2.1 dX6_accept_25 (by decide) ?_
    refine lv_icmp_le (tgt := 32) C.1.1 C.1.2.1 dX6_accept_27 (by decide) (fun c6 => ?_) (fun c6 => ?_)
    · replace hD := g_pos c6 hD
      refine lv_aload_n C.1.1 C.1.2.1 dX6_accept_32 rfl (lv_at hl 1 rfl) ?_
      refine lv_iload_n C.1.1 C.1.2.1 dX6_accept_33 rfl (lv_at hl 3 rfl) ?_
      refine lv_aload_n C.1.1 C.1.2.1 dX6_accept_34 rfl (lv_at hl 1 rfl) ?_
      refine mr_getR C hw kc_6 4 (by decide) tf_61 ff_61_4 wd_236 dX6_accept_35 (by decide) rfl ?_
      refine lv_iload_n C.1.1 C.1.2.1 dX6_accept_38 rfl (lv_at hl 2 rfl) ?_
      obtain ⟨q7, hD⟩ := g_ck hD
      refine mr_aald C hw (by decide) tf_85 (by decide) (by decide) rfl rfl q7 (fr_85 _ (g_lt q7)).1 dX6_accept_39 ?_
      refine lv_iload_n C.1.1 C.1.2.1 dX6_accept_40 rfl (lv_at hl 3 rfl) ?_
      obtain ⟨q8, hD⟩ := g_ck hD
      refine mr_iald C hw (fr_85 _ (g_lt q7)).2.2 (fr_85 _ (g_lt q7)).2.1 q8 dX6_accept_41 ?_
      refine lv_iload C.1.1 C.1.2.1 dX6_accept_42 (lv_at hl 0 rfl) ?_
      refine lv_iadd C.1.1 C.1.2.1 dX6_accept_44 ?_
      refine lv_aload_n C.1.1 C.1.2.1 dX6_accept_45 rfl (lv_at hl 4 rfl) ?_
      refine lv_aload C.1.1 C.1.2.1 dX6_accept_46 (lv_at hl 5 rfl) ?_
      obtain ⟨M9, L10, h1, hD⟩ := g_b2 hD
      refine md_cvV (As := [.int a2, .int ((M (86 + a1.toNatClampNeg) a2.toNatClampNeg) + x4), .ref (ad a3), .ref (ad 97)]) (rest := []) C hw (tX6_makeCode l G ad fu a2 ((M (86 + a1.toNatClampNeg) a2.toNatClampNeg) + x4) a3 n3 M L h1 hk3 hT3) kc_6 (by decide) tf_61 wd_1323 cwX6_makeCode ⟨Nat.le_of_ble_eq_true rfl, Nat.le_of_ble_eq_true rfl⟩ rfl hl.1 (Nat.le_of_ble_eq_true rfl) dX6_accept_48 rfl rfl ⟨Nat.zero_le _, Nat.zero_le _⟩ rfl (fun H locs hw => ?_)
      refine lv_aload C.1.1 C.1.2.1 dX6_accept_51 (lv_at hl 5 rfl) ?_
      refine lv_aload_n C.1.1 C.1.2.1 dX6_accept_53 rfl (lv_at hl 4 rfl) ?_
      refine lv_iconst (v := 4) C.1.1 C.1.2.1 dX6_accept_54 (by decide) ?_
      obtain ⟨r13, M11, L12, h1, hD⟩ := g_b3 hD
      refine md_cvI (As := [.ref (ad a3), .int 4]) (rest := []) C hw (tX3_isOut l G ad fu a3 n3 4 M9 L10 h1 hk3 hT3) kc_3 (by decide) tf_97 wd_1616 cwX3_isOut ⟨Nat.le_of_ble_eq_true rfl, Nat.le_of_ble_eq_true rfl⟩ rfl hl.1 (Nat.le_of_ble_eq_true rfl) dX6_accept_55 rfl rfl ⟨Nat.zero_le _, Nat.zero_le _⟩ rfl (fun H locs hw => ?_)
      refine lv_if_ne (tgt := 63) C.1.1 C.1.2.1 dX6_accept_58 (by decide) (fun c14 => ?_) (fun c14 => ?_)
      · replace hD := g_neg c14 hD
        refine lv_aload_n C.1.1 C.1.2.1 dX6_accept_63 rfl (lv_at hl 1 rfl) ?_
        refine mr_getR C hw kc_6 4 (by decide) tf_61 ff_61_4 wd_236 dX6_accept_64 (by decide) rfl ?_
        refine lv_iload_n C.1.1 C.1.2.1 dX6_accept_67 rfl (lv_at hl 2 rfl) ?_
        obtain ⟨q15, hD⟩ := g_ck hD
        refine mr_aald C hw (by decide) tf_85 (by decide) (by decide) rfl rfl q15 (fr_85 _ (g_lt q15)).1 dX6_accept_68 ?_
        refine lv_iload_n C.1.1 C.1.2.1 dX6_accept_69 rfl (lv_at hl 3 rfl) ?_
        refine lv_dup2_11 C.1.1 C.1.2.1 dX6_accept_70 rfl rfl ?_
        obtain ⟨q16, hD⟩ := g_ck hD
        refine mr_iald C hw (fr_85 _ (g_lt q15)).2.2 (fr_85 _ (g_lt q15)).2.1 q16 dX6_accept_71 ?_
        refine lv_iload C.1.1 C.1.2.1 dX6_accept_72 (lv_at hl 0 rfl) ?_
        refine lv_iadd C.1.1 C.1.2.1 dX6_accept_74 ?_
        obtain ⟨q17, hD⟩ := g_ck hD
        obtain ⟨M18, eM18, hD⟩ := g_let hD
        refine mr_iast C hw (fr_85 _ (g_lt q15)).2.2 (fr_85 _ (g_lt q15)).2.1 q17 dX6_accept_75 (fun H locs hw => ?_)
        replace hw : mw_W G ad NF TF FF M18 L12 H locs := by rw [eM18]; exact hw
        refine lv_iconst (v := 1) C.1.1 C.1.2.1 dX6_accept_76 (by decide) ?_
        exact mr_iret C hr hlocks hw (by decide +kernel) (Option.some.inj hD) dX6_accept_77
      · replace hD := g_pos c14 hD
        refine lv_iconst (v := 0) C.1.1 C.1.2.1 dX6_accept_61 (by decide) ?_
        exact mr_iret C hr hlocks hw (by decide +kernel) (Option.some.inj hD) dX6_accept_62
    · replace hD := g_neg c6 hD
      exact hb30 M L _ _ ls hD hw (lv_sub hl [] rfl)
